/-! calls, natives; a step whole -/
theorem jpop_of : ∀ (n : Nat) (st a r : List jV), jpop n st = some (a, r) → st = a.reverse ++ r ∧ a.length = n := by
  intro n
  induction n with
  | zero => intro st a r h; cases h; exact ⟨rfl, rfl⟩
  | succ n ih =>
    intro st a r h
    cases st with
    | nil => cases h
    | cons v st =>
      unfold jpop at h
      split at h
      · rename_i a' r' hq
        cases h
        obtain ⟨h1, h2⟩ := ih _ _ _ hq
        exact ⟨by rw [h1]; simp, by simp [h2]⟩
      · cases h
def jrtv (ad : Nat → Nat) (r : jV) : Option Value := match r.1 with
  | 0 => some (.int (Int32.ofInt r.2))
  | 1 => some (.long (Int64.ofInt r.2))
  | 2 => some (jrv ad r.2.toNat)
  | 5 => some .null
  | _ => none
def jPo (D : va_G) (cs : Nat → ClassId) (A : Nat → Prop) (ad : Nat → Nat) (σ : jS) (r : jV) (σ' : jS) (oc : Outcome) (t : State) : Prop := ∃ ad' : Nat → Nat, (∀ o, o < σ.1.1.length → ad' o = ad o) ∧ oc = .returned (jrtv ad' r) ∧ jOk σ'.1 σ'.2 ∧ jwv σ'.1.1.length r ∧ (r.1 = 0 ∨ r.1 = 1 ∨ r.1 = 3 ∨ r.1 = 2 ∨ r.1 = 5) ∧ va_P D vwCl (jcl ad' cs σ'.1 σ'.2) t.heap ∧ va_D A (jcl ad' cs σ'.1 σ'.2)
def jPre (D : va_G) (cs : Nat → ClassId) (xv : Nat → Value) (xs : List Int) (A : Nat → Prop) (base : Nat) (ad : Nat → Nat) (σ : jS) (U : State) : Prop := jWd D cs xv xs A U ∧ base ≤ U.heap.size ∧ va_P D vwCl (jcl ad cs σ.1 σ.2) U.heap ∧ va_D A (jcl ad cs σ.1 σ.2)
/-- the contract of a method at numbers: called so, it ends so -/
def jCon (l : Launch) (D : va_G) (cs : Nat → ClassId) (xv : Nat → Value) (xs : List Int) (A : Nat → Prop) (base d mi : Nat) (args : List jV) (σ : jS) (r : jV) (σ' : jS) : Prop := ∀ ad : Nat → Nat, jOk σ.1 σ.2 → jws σ.1.1.length args →
  Met l (jmi mi).1 [Jvm.Cond.code (jmi mi).1 (jmi mi).2.1 (jmi mi).2.2.1 (jret (jmi mi).2.2.2.1)] { frames := d, cells := σ'.1.1.length - σ.1.1.length, slots := jtot σ'.1.1 - jtot σ.1.1, locals := d * 128 } (va_Pc (args.map (jcv ad xv)) (jPre D cs xv xs A base ad σ)) (fun _ st oc t => jPo D cs A ad σ r σ' oc t ∧ va_F A st t) (σ'.1.1.length - σ.1.1.length) (jtot σ'.1.1 - jtot σ.1.1) A
section JSOUND
variable {p : Program} {l : Launch} {e : Env} {R : Room} {s : State} {m : MethodId} {args : Array Value} {below : List Frame} {meth : Method} {c : Code} {Q : State → Prop}
variable {D : va_G} {cs : Nat → ClassId} {xv : Nat → Value} {xs : List Int} {A : Nat → Prop} {mi L0 t0 d base : Nat} {ad0 : Nat → Nat} {pc : Nat} {ls st : List jV} {T : jT} {h : jH} {f' : jF} {σ' : jS}
theorem jcall_W {Post : Outcome → State → Prop} {H : Heap} {locs : List Loc} {cells slots mc ms : Nat} {arr : Array Slot} {st0 rest : List Value} (hr : va_Run p l e R s m args below meth c H locs cells slots mc ms (F0 m pc arr st0) rest (fun st oc t => Post oc t ∧ va_F A st t) A) (hS : va_S A s.heap H locs)
    (kk : ∀ (v : Option Value) (t : State) (H1 : Heap) (locs1 : List Loc), t.heap = H1 → Post (.returned v) t → va_S A s.heap H1 locs1 → W p l e R s m args below meth c H1 locs1 (cells + mc) (slots + ms) Q (F0 m (pc + 3) arr (v.toList ++ rest))) : W p l e R s m args below meth c H locs cells slots Q (F0 m pc arr st0) := by
  intro T hT X
  obtain ⟨v, st₀, t, T', L, h0, X', hL, e1, e2, ⟨hp, hz, hk⟩, st⟩ := hr T hT X
  rw [h0] at hz hk
  obtain ⟨t2, a1, b1⟩ := kk v t T'.heap (locs ++ L) e1.symm hp
    ⟨Nat.le_trans hS.1 (by rw [e1]; exact hz), fun q h1 h2 => by rw [e1, hk q (Nat.lt_of_lt_of_le h1 hS.1) h2]; exact hS.2.1 q h1 h2, fun q hq => by
      rcases List.mem_append.mp hq with h | h
      · exact hS.2.2 q h
      · exact hL q h⟩ T' rfl X'
  exact ⟨t2, st t2 a1, b1⟩
theorem jrm_of (hxv : ∀ z, jref (xv z)) {ad : Nat → Nat} {n : Nat} {q : List jV} (h : jws n q) : ((q.map (jcv ad xv)).map fun v => v.category).sum = jrm q := by
  unfold jrm
  rw [List.map_map]
  congr 1
  apply List.map_congr_left
  intro v hv
  exact jcv_cat hxv (h v hv).2.1 (h v hv).2.2
theorem jmok_of (h0 : 0 < mi) (h1 : mi < 373) : Jvm.Cond.code (jmi mi).1 (jmi mi).2.1 (jmi mi).2.2.1 (jret (jmi mi).2.2.2.1) ∈ lw_tbl ∧ ((jmi mi).2.2.2.2.2.2 = 1 → Jvm.Cond.static (jmi mi).1 ∈ lw_tbl) ∧ ((jmi mi).2.2.2.2.2.2 = 0 → Jvm.Cond.instanceMethod (jmi mi).1 ∈ lw_tbl) ∧ ((jmi mi).2.2.2.2.2.2 = 0 → (jmi mi).1.name ≠ "<init>" → Jvm.Cond.selects (jmi mi).1.cls (jmi mi).1 (jmi mi).1 ∈ lw_tbl) ∧ Jvm.Cond.initialized (jmi mi).1.cls ∈ lw_tbl ∧ plainFor (jmi mi).1 = true ∧ ((jmi mi).1.cls ≠ "java/lang/invoke/MethodHandle" ∧ (jmi mi).1.cls ≠ "java/lang/invoke/VarHandle") ∧ (∀ sig, parseMethodDescriptor (jmi mi).1.desc = some sig → sig.parameters.length = (if (jmi mi).2.2.2.2.2.2 = 1 then (jmi mi).2.2.2.2.1.length else (jmi mi).2.2.2.2.1.length - 1)) ∧ ((jmi mi).2.2.2.2.2.2 = 0 ∨ (jmi mi).2.2.2.2.2.2 = 1) ∧ (jmi mi).2.2.1 ≤ 40 ∧ (∀ r, vwCl[(jmi mi).2.2.2.2.2.1.getD 4 99]? = some r → r.1 = (jmi mi).1.cls) ∧ ((jmi mi).2.2.2.2.2.1.getD 4 99 = 50 → (jmi mi).1.cls = "java/lang/String") ∧ ((jmi mi).2.2.2.1 = 0 ∨ (jmi mi).2.2.2.1 = 1 ∨ (jmi mi).2.2.2.1 = 3 ∨ (jmi mi).2.2.2.1 = 5 ∨ (jmi mi).2.2.2.1 = 6 ∨ (jmi mi).2.2.2.1 = 7 ∨ (jmi mi).2.2.2.1 = 9) := by
  have h := jmeth h0 h1
  unfold jmcd jmokR at h
  generalize jmi mi = M at h ⊢
  obtain ⟨y, b, n, rc, tags, hs, stt⟩ := M
  dsimp only at h ⊢
  simp only [Bool.and_eq_true, Bool.or_eq_true, decide_eq_true_eq] at h
  obtain ⟨g1, ⟨⟨⟨⟨⟨⟨⟨⟨⟨⟨⟨g2, g3⟩, g4⟩, g5⟩, g6⟩, g7⟩, g8⟩, g9⟩, g10⟩, g11⟩, g12⟩, g13⟩⟩ := h
  refine ⟨jhas_mem g1, fun e => ?_, fun e => ?_, fun e e2 => ?_, jhas_mem g4, g5, ⟨g6, g7⟩, fun sig hs => ?_, g9, g12, fun r hr => ?_, fun e => ?_, g11⟩
  · rw [if_pos e] at g2
    exact jhas_mem g2
  · rw [if_neg (by omega)] at g2
    exact jhas_mem g2
  · rcases g3 with (g3 | g3) | g3
    · omega
    · exact absurd g3 e2
    · exact jhas_mem g3
  · rw [hs] at g8
    exact Option.some.inj g8
  · rw [hr] at g13
    simpa using g13
  · rw [e] at g13
    simpa using g13
/-- how a call goes on, once the machine's own way of calling is known -/
theorem jcall_on (F : jFix p s m meth c D cs xv xs A mi) (hbase : base ≤ s.heap.size) {mi' : Nat} {a r : List jV} {rv : jV} (hcon : jCon l D cs xv xs A base d mi' a (T, h) rv σ') (hle : jle2 (T, h) σ') (kk : jGo p l e R s m args below meth c Q D cs xv A mi L0 t0 ad0 (mi, pc + 3, ls, jpush rv r) σ') (hroom : σ'.1.1.length - L0 ≤ R.cells ∧ jtot σ'.1.1 - t0 ≤ R.slots)
    {ad : Nat → Nat} {arr : Array Slot} {H : Heap} {locs : List Loc} (had : ∀ o, o < L0 → ad o = ad0 o) (hL0 : L0 ≤ T.1.length) (ht0 : t0 ≤ jtot T.1) (hrel : jRel D cs xv A s mi ad arr H locs ls (a.reverse ++ r) T h)
    (hrun : FrameBlind (va_Pc (a.map (jcv ad xv)) (jPre D cs xv xs A base ad (T, h))) → (∀ U : State, U.heap = H → s.WarmedH U.vm → va_Pc (a.map (jcv ad xv)) (jPre D cs xv xs A base ad (T, h)) (a.map (jcv ad xv)).toArray U) → Met l (jmi mi').1 [Jvm.Cond.code (jmi mi').1 (jmi mi').2.1 (jmi mi').2.2.1 (jret (jmi mi').2.2.2.1)] { frames := d, cells := σ'.1.1.length - T.1.length, slots := jtot σ'.1.1 - jtot T.1, locals := d * 128 } (va_Pc (a.map (jcv ad xv)) (jPre D cs xv xs A base ad (T, h))) (fun _ st oc t => jPo D cs A ad (T, h) rv σ' oc t ∧ va_F A st t) (σ'.1.1.length - T.1.length) (jtot σ'.1.1 - jtot T.1) A → (T.1.length - L0 + (σ'.1.1.length - T.1.length) ≤ R.cells ∧ jtot T.1 - t0 + (jtot σ'.1.1 - jtot T.1) ≤ R.slots) →
      va_Run p l e R s m args below meth c H locs (T.1.length - L0) (jtot T.1 - t0) (σ'.1.1.length - T.1.length) (jtot σ'.1.1 - jtot T.1) (F0 m pc arr ((a.map (jcv ad xv)).reverse ++ r.map (jcv ad xv))) (r.map (jcv ad xv)) (fun st oc t => jPo D cs A ad (T, h) rv σ' oc t ∧ va_F A st t) A) :
    W p l e R s m args below meth c H locs (T.1.length - L0) (jtot T.1 - t0) Q (F0 m pc arr ((a.map (jcv ad xv)).reverse ++ r.map (jcv ad xv))) := by
  obtain ⟨hx, hb, hml, hown, hwd, hA, hini⟩ := F
  obtain ⟨hl, hlen, hw, htg, hs, hO, hP, hD, hS⟩ := hrel
  have hsa : jws T.1.length a := fun v hv => hs v (List.mem_append_left _ (List.mem_reverse.mpr hv))
  have hsr : jws T.1.length r := fun v hv => hs v (List.mem_append_right _ hv)
  have hle1 : T.1.length ≤ σ'.1.1.length := hle.1
  have hle2 : jtot T.1 ≤ jtot σ'.1.1 := hle.2
  have hM := hcon ad hO hsa
  have hmove : ∀ U : State, U.heap = H → s.WarmedH U.vm → jPre D cs xv xs A base ad (T, h) U := fun U hU hW => ⟨hwd.move hW (fun q h1 h2 => by rw [hU]; exact hS.2.1 q h1 h2), by rw [hU]; exact Nat.le_trans hbase hS.1, by rw [hU]; exact hP, hD⟩
  have hrun' := hrun (fun av U g mk q => ⟨q.1, q.2.1.move (State.WarmedH.refl U) (fun _ _ _ => rfl), q.2.2.1, q.2.2.2.1, q.2.2.2.2⟩) (fun U hU hW => ⟨rfl, hmove U hU hW⟩) hM ⟨by omega, by omega⟩
  refine jcall_W hrun' hS (fun v t H1 locs1 ht hp hS1 => ?_)
  obtain ⟨ad', g1, g2, g3, g4, g5, g6, g7⟩ := hp
  rw [ht] at g6
  cases g2
  have e1 : T.1.length - L0 + (σ'.1.1.length - T.1.length) = σ'.1.1.length - L0 := by omega
  have e2 : jtot T.1 - t0 + (jtot σ'.1.1 - jtot T.1) = jtot σ'.1.1 - t0 := by omega
  rw [e1, e2]
  have ecv : ∀ v : jV, jwv T.1.length v → jcv ad' xv v = jcv ad xv v := by
    rintro ⟨t, x⟩ hv
    match t, hv with
    | 0, _ => rfl
    | 1, _ => rfl
    | 2, hv =>
      show jrv _ _ = jrv _ _
      unfold jrv
      rw [g1 _ hv.2]
    | 3, _ => rfl
    | 4, _ => rfl
    | n + 5, _ => rfl
  have elv : ∀ (q' : List jV) (n : Nat), jwl T.1.length q' → jlv ad' xv n q' = jlv ad xv n q' := by
    intro q'
    induction q' with
    | nil => intro n _; rfl
    | cons v r ih =>
      intro n hq
      have hv := hq v List.mem_cons_self
      have hr := ih (n + 1) (fun w hw => hq w (List.mem_cons_of_mem _ hw))
      unfold jlv
      rw [hr, ecv v hv]
  have est : r.map (jcv ad' xv) = r.map (jcv ad xv) := List.map_congr_left fun v hv => ecv v (hsr v hv).1
  have hsr' : jws σ'.1.1.length r := jws_mono hsr hle1
  have estk : (jrtv ad' rv).toList ++ r.map (jcv ad xv) = (jpush rv r).map (jcv ad' xv) ∧ jws σ'.1.1.length (jpush rv r) := by
    obtain ⟨t1, x1⟩ := rv
    rcases g5 with g5 | g5 | g5 | g5 | g5
    · cases g5
      exact ⟨by rw [← est]; rfl, jws_cons g4 (by simp) (by simp) hsr'⟩
    · cases g5
      exact ⟨by rw [← est]; rfl, jws_cons g4 (by simp) (by simp) hsr'⟩
    · cases g5
      exact ⟨by rw [← est]; rfl, hsr'⟩
    · cases g5
      exact ⟨by rw [← est]; rfl, jws_cons g4 (by simp) (by simp) hsr'⟩
    · cases g5
      exact ⟨by rw [← est]; rfl, jws_cons g4 (by simp) (by simp) hsr'⟩
  rw [estk.1]
  exact kk ad' arr H1 locs1 (fun o ho => by rw [g1 o (by show o < T.1.length; omega)]; exact had o ho) (by omega) (by omega) ⟨by show lv_has arr ls.length (jlv ad' xv 0 ls); rw [elv ls 0 hw]; exact hl, hlen, jwl_mono hw hle1, htg, estk.2, g3, g6, g7, hS1⟩
end JSOUND
