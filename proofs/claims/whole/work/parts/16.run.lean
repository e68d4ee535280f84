/-! a whole run of the machine of numbers is a contract -/
def jfm (mi : Nat) (z : Option jX) : Prop := ∀ f' σ', z = some (.inl (f', σ')) → f'.1 = mi
theorem jfm.none (mi : Nat) : jfm mi none := fun f s h => by cases h
theorem jfm.on {mi pc : Nat} {ls st : List jV} {σ : jS} : jfm mi (jon mi pc ls st σ) := fun f s h => by cases h; rfl
theorem jfm.fin {mi : Nat} {y : jV × jS} : jfm mi (some (.inr (.inl y))) := fun f s h => by cases h
theorem jfm.cal {mi : Nat} {y : Nat × List jV × jF} : jfm mi (some (.inr (.inr y))) := fun f s h => by cases h
theorem jfm_jn0 (xs : List Int) (f : jF) (σ : jS) : jfm f.1 (jn0 xs f σ) := by
  obtain ⟨mi, pc, ls, st⟩ := f
  unfold jn0 jgf jpf jld jsv jinv jnat7 jnat10 jcall jnew
  dsimp only
  repeat' split
  all_goals first | exact jfm.none _ | exact jfm.on | exact jfm.fin | exact jfm.cal
section JRUN
variable {p : Program} {l : Launch} {e : Env} {R : Room} {s : State} {m : MethodId} {args : Array Value} {below : List Frame} {meth : Method} {c : Code} {Q : State → Prop}
variable {D : va_G} {cs : Nat → ClassId} {xv : Nat → Value} {xs : List Int} {A : Nat → Prop} {mi L0 t0 d base : Nat} {ad0 : Nat → Nat} {pc : Nat} {ls st : List jV} {T : jT} {h : jH} {f' : jF} {σ' : jS}
theorem jn0_call (F : jFix p s m meth c D cs xv xs A mi) (hbase : base ≤ s.heap.size) {mi' : Nat} {a : List jV} {rv : jV} {f : jF} (hj : jn0 xs (mi, pc, ls, st) (T, h) = some (.inr (.inr (mi', a, f)))) (hcon : 0 < mi' → mi' < 373 → jCon l D cs xv xs A base d mi' a (T, h) rv σ') (hle : jle2 (T, h) σ') (hroom : σ'.1.1.length - L0 ≤ R.cells ∧ jtot σ'.1.1 - t0 ≤ R.slots) (hR : d + 1 ≤ R.frames ∧ (d + 1) * 128 ≤ R.locals) (kk : f.1 = mi → jGo p l e R s m args below meth c Q D cs xv A mi L0 t0 ad0 (f.1, f.2.1, f.2.2.1, jpush rv f.2.2.2) σ') : jGo p l e R s m args below meth c Q D cs xv A mi L0 t0 ad0 (mi, pc, ls, st) (T, h) := by
  unfold jn0 at hj
  dsimp only at hj
  split at hj
  · cases hj
  · rename_i i n info hf
    obtain ⟨hd, hn, ht, hl⟩ := jfet_ok hf
    have hn' : jswi i = false → n = jlen i := fun h => by
      rcases hn with hn | hn
      · rw [h] at hn; cases hn
      · exact hn
    have hl' : j99 i info = false → jlok (jmi mi).1.cls (decide ((jmi mi).1.name = "<init>")) i info = true := fun h => by
      rcases hl with hl | hl
      · rw [h] at hl; cases hl
      · exact hl
    split at hj
    · cases hj
    · cases i with
      | invokevirtual idx =>
        cases (hn' rfl)
        obtain ⟨m0, m1, m2⟩ := jinv_mi (own := (jmi mi).1.cls) (op := 1) (idx := idx) (hl' rfl) hj
        exact jinv_sound F hbase (Or.inl ⟨rfl, rfl⟩) hd (hl' rfl) hj (hcon m0 m1) hle hroom hR (kk m2)
      | invokestatic idx =>
        cases (hn' rfl)
        rcases hl with hl | hl
        · have e : info = [99] := of_decide_eq_true hl
          subst e
          cases hj
        · obtain ⟨m0, m1, m2⟩ := jinv_mi (own := (jmi mi).1.cls) (op := 3) (idx := idx) hl hj
          exact jinv_sound F hbase (Or.inr (Or.inl ⟨rfl, rfl⟩)) hd hl hj (hcon m0 m1) hle hroom hR (kk m2)
      | invokespecial idx =>
        cases (hn' rfl)
        obtain ⟨m0, m1, m2⟩ := jinv_mi (own := (jmi mi).1.cls) (op := 5) (idx := idx) (hl' rfl) hj
        exact jinv_sound F hbase (Or.inr (Or.inr ⟨rfl, rfl⟩)) hd (hl' rfl) hj (hcon m0 m1) hle hroom hR (kk m2)
      | _ =>
        dsimp only [jgf, jpf, jld, jsv, jnew, jon] at hj
        repeat' split at hj
        all_goals cases hj
/-- from a frame on, to the end -/
theorem jbody (F : jFix p s m meth c D cs xv xs A mi) (hbase : base ≤ s.heap.size) (hR : d + 1 ≤ R.frames ∧ (d + 1) * 128 ≤ R.locals) {call : jC} (hcall : ∀ mi' a σ r σ', call mi' a σ = some (r, σ') → jle2 σ σ' ∧ (0 < mi' → mi' < 373 → jCon l D cs xv xs A base d mi' a σ r σ')) {y : jV × jS} (hroom : y.2.1.1.length - L0 ≤ R.cells ∧ jtot y.2.1.1 - t0 ≤ R.slots)
    (hend : ∀ (pc : Nat) (ls st : List jV), jn0 xs (mi, pc, ls, st) y.2 = some (.inr (.inl y)) → jGo p l e R s m args below meth c Q D cs xv A mi L0 t0 ad0 (mi, pc, ls, st) y.2) : ∀ (n : Nat) (f : jF) (σ : jS), f.1 = mi → jxN xs call n f σ = some y → jGo p l e R s m args below meth c Q D cs xv A mi L0 t0 ad0 f σ := by
  intro n
  induction n with
  | zero => intro f σ _ h; simp [jxN] at h
  | succ n ih =>
    intro f σ hf h
    obtain ⟨mi1, pc, ls, st⟩ := f
    have hf : mi1 = mi := hf
    subst hf
    obtain ⟨T, h0⟩ := σ
    simp only [jxN] at h
    have hfl := jfl_jn0 xs (mi1, pc, ls, st) (T, h0)
    have hfm := jfm_jn0 xs (mi1, pc, ls, st) (T, h0)
    cases hj : jn0 xs (mi1, pc, ls, st) (T, h0) with
    | none => rw [hj] at h; cases h
    | some z =>
      rw [hj] at h
      rcases z with ⟨f', σ'⟩ | r' | ⟨mi', args', m2, pc', ls', st'⟩
      · simp only at h
        have hl2 := jxN_le (fun mi a σ r σ' h => (hcall mi a σ r σ' h).1) n f' σ' y h
        have g1 : σ'.1.1.length ≤ y.2.1.1.length := hl2.1
        have g2 : jtot σ'.1.1 ≤ jtot y.2.1.1 := hl2.2
        have hs := Nat.le_trans (Nat.succ_le_succ (Nat.zero_le d)) hR.1
        exact jn0_sound F hj ⟨hs, by have := hR.2; omega⟩ ⟨by omega, by omega⟩ (ih f' σ' (hfm f' σ' hj) h)
      · simp only at h
        cases h
        have e := (hfl _ hj).2 y.1 y.2 rfl
        rw [e] at hend
        exact hend pc ls st (by rw [hj])
      · simp only at h
        cases hq : call mi' args' (T, h0) with
        | none => rw [hq] at h; cases h
        | some q =>
          obtain ⟨q1, q2⟩ := q
          rw [hq] at h
          simp only at h
          obtain ⟨c1, c2⟩ := hcall _ _ _ _ _ hq
          have hl2 := jxN_le (fun mi a σ r σ' h => (hcall mi a σ r σ' h).1) n _ q2 y h
          have g1 : q2.1.1.length ≤ y.2.1.1.length := hl2.1
          have g2 : jtot q2.1.1 ≤ jtot y.2.1.1 := hl2.2
          exact jn0_call F hbase hj c2 c1 ⟨by omega, by omega⟩ hR (fun he => ih _ q2 he h)
theorem jnarc {v : Int} (h : jfit 23 v = true) : narrow .char (.int (Int32.ofInt v)) = .int (Int32.ofInt v) := by
  have hv : 0 ≤ v ∧ v < 65536 := by simpa [jfit] using h
  obtain ⟨n, rfl⟩ := Int.eq_ofNat_of_zero_le hv.1
  have e : Int32.ofInt (n : Int) = nI n := Int32.ofInt_eq_ofNat
  rw [e]
  exact (pk_charN (q := n) (by omega)).1
theorem jnary {v : Int} (h : -128 ≤ v ∧ v < 128) : narrow .byte (.int (Int32.ofInt v)) = .int (Int32.ofInt v) := by
  show Value.int (Int32.ofInt v).toInt8.toInt32 = _
  rw [Int32.toInt8_ofInt, jof8 h]
/-- the end of a method that is called -/
theorem jend (F : jFix p s m meth c D cs xv xs A mi) (hret : meth.sig.returnType = jret (jmi mi).2.2.2.1) (hlocks : meth.locks = false) {σ0 : jS} {y : jV × jS} (hL : L0 = σ0.1.1.length) (ht : t0 = jtot σ0.1.1) (hj : jn0 xs (mi, pc, ls, st) y.2 = some (.inr (.inl y))) :
    jGo p l e R s m args below meth c (MQ below (fun _ st oc t => jPo D cs A ad0 σ0 y.1 y.2 oc t ∧ va_F A st t) args s (y.2.1.1.length - L0) (jtot y.2.1.1 - t0) A) D cs xv A mi L0 t0 ad0 (mi, pc, ls, st) y.2 := by
  intro ad arr H locs had hL0 ht0 hrel
  obtain ⟨hx, hb, hml, hown, hwd, hA, hini⟩ := F
  obtain ⟨⟨rt, rx⟩, ⟨T, h⟩⟩ := y
  obtain ⟨hl1, hlen, hw, htg, hs, hO, hP, hD, hS⟩ := hrel
  dsimp only at hl1 hlen hw htg hs hO hP hD hS hL0 ht0 hj ⊢
  have hq : ∀ (v : Option Value), v = jrtv ad (rt, rx) → jwv T.1.length (rt, rx) → (rt = 0 ∨ rt = 1 ∨ rt = 3 ∨ rt = 2 ∨ rt = 5) → ∀ t : State, t.heap = H → s.WarmedH t.vm → jPo D cs A ad0 σ0 (rt, rx) (T, h) (.returned v) t ∧ va_F A s t := by
    rintro v rfl h1 h2 t ht' _
    exact ⟨⟨ad, fun o ho => had o (by omega), rfl, hO, h1, h2, by rw [ht']; exact hP, hD⟩, hS.F ht'⟩
  unfold jn0 at hj
  dsimp only at hj
  split at hj
  · cases hj
  · rename_i i n info hf
    obtain ⟨hd, hn, -, hl⟩ := jfet_ok hf
    have hn' : jswi i = false → n = jlen i := fun h => by
      rcases hn with hn | hn
      · rw [h] at hn; cases hn
      · exact hn
    split at hj
    · cases hj
    · cases i with
      | ireturn =>
        cases (hn' rfl)
        dsimp only at hj
        split at hj
        · rename_i v hst
          have hv : jI32 v := jws_head hs
          split at hj
          · rename_i hrc
            cases hj
            rw [hrc] at hret
            exact W.iret hx hb hret (hq _ rfl hv (Or.inl rfl)) hS.2.2 hd hlocks
          · rename_i hrc
            split at hj
            · rename_i hfit
              cases hj
              rw [hrc] at hret
              exact W.zret hx hb hret (jnarb (jfit22 hfit)).1 (hq _ rfl hv (Or.inl rfl)) hS.2.2 hd hlocks
            · cases hj
          · rename_i hrc
            split at hj
            · rename_i hfit
              cases hj
              rw [hrc] at hret
              exact W.zret hx hb hret (jnarc hfit) (hq _ rfl hv (Or.inl rfl)) hS.2.2 hd hlocks
            · cases hj
          · rename_i hrc
            split at hj
            · rename_i hfit
              cases hj
              rw [hrc] at hret
              exact W.zret hx hb hret (jnary hfit) (hq _ rfl hv (Or.inl rfl)) hS.2.2 hd hlocks
            · cases hj
          · cases hj
        · cases hj
      | lreturn =>
        cases (hn' rfl)
        dsimp only at hj
        split at hj
        · rename_i v hst
          have hv : jI64 v := jws_head hs
          split at hj
          · rename_i hrc
            cases hj
            rw [hrc] at hret
            exact W.lret hx hb hret (hq _ rfl hv (Or.inr (Or.inl rfl))) hS.2.2 hd hlocks
          · cases hj
        · cases hj
      | areturn =>
        cases (hn' rfl)
        dsimp only at hj
        split at hj
        · rename_i v hst
          split at hj
          · rename_i hrc
            cases hj
            rw [hrc] at hret
            exact W.aret hx hb hret (Or.inl ⟨_, rfl⟩) (jrv_ref _ _) (hq _ rfl (jws_head hs) (Or.inr (Or.inr (Or.inr (Or.inl rfl))))) hS.2.2 hd hlocks
          · cases hj
        · rename_i v hst
          split at hj
          · rename_i hrc
            cases hj
            rw [hrc] at hret
            exact W.aret hx hb hret (Or.inl ⟨_, rfl⟩) (Or.inl rfl) (hq _ rfl (jws_head hs) (Or.inr (Or.inr (Or.inr (Or.inr rfl))))) hS.2.2 hd hlocks
          · cases hj
        · cases hj
      | return_ =>
        cases (hn' rfl)
        dsimp only at hj
        split at hj
        · split at hj
          · rename_i hrc
            cases hj
            rw [hrc] at hret
            exact W.vret hx hb hret (hq _ rfl trivial (Or.inr (Or.inr (Or.inl rfl)))) hS.2.2 hd hlocks
          · cases hj
        · cases hj
      | _ =>
        dsimp only [jgf, jpf, jld, jsv, jnew, jon, jinv, jnat7, jnat10, jcall] at hj
        repeat' split at hj
        all_goals cases hj
end JRUN
