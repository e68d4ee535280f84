/-! further steps: switches, makings, natives -/
section JSTEP5
variable {p : Program} {l : Launch} {e : Env} {R : Room} {s : State} {m : MethodId} {args : Array Value} {below : List Frame} {meth : Method} {c : Code} {Q : State → Prop}
variable {D : va_G} {cs : Nat → ClassId} {xv : Nat → Value} {xs : List Int} {A : Nat → Prop} {mi L0 t0 : Nat} {ad0 : Nat → Nat} {pc : Nat} {ls st : List jV} {T : jT} {h : jH} {f' : jF} {σ' : jS}
theorem jtsw_sound (F : jFix p s m meth c D cs xv xs A mi) {dflt lo hi off : Int} {offs : Array Int} {n : Nat} (hdg : decode (jmi mi).2.1 pc = .ok (.tableswitch dflt lo hi offs, n)) {a : Int} {r : List jV} (ho : ((a < lo ∨ hi < a) ∧ off = dflt) ∨ (¬ (a < lo ∨ hi < a) ∧ offs[(a - lo).toNat]? = some off)) (ht : 0 ≤ (pc : Int) + off) (kk : jGo p l e R s m args below meth c Q D cs xv A mi L0 t0 ad0 (mi, jtgt pc off, ls, r) (T, h)) : jGo p l e R s m args below meth c Q D cs xv A mi L0 t0 ad0 (mi, pc, ls, (0, a) :: r) (T, h) := by
  intro ad arr H locs had hL0 ht0 hrel
  obtain ⟨hx, hb, -⟩ := F
  have hs : jws T.1.length ((0, a) :: r) := hrel.2.2.2.2.1
  have ha : jI32 a := jws_head hs
  have hr : jRel D cs xv A s mi ad arr H locs ls r T h := ⟨hrel.1, hrel.2.1, hrel.2.2.1, hrel.2.2.2.1, jws_tail hs, hrel.2.2.2.2.2⟩
  have htg : (pc : Int) + off = ((jtgt pc off : Nat) : Int) := (Int.toNat_of_nonneg ht).symm
  have fin := kk ad arr H locs had hL0 ht0 hr
  show W p l e R s m args below meth c H locs (T.1.length - L0) (jtot T.1 - t0) Q (F0 m pc arr (.int (Int32.ofInt a) :: r.map (jcv ad xv)))
  rcases ho with ⟨h1, rfl⟩ | ⟨h1, h2⟩
  · exact lv_tableOut hx hb hdg (by rw [jti ha]; exact h1) htg fin
  · exact lv_tableIn hx hb hdg (by rw [jti ha]; exact fun h => h1 (Or.inl h)) (by rw [jti ha]; exact fun h => h1 (Or.inr h)) (by rw [jti ha]; exact h2) htg fin
theorem jlsw_sound (F : jFix p s m meth c D cs xv xs A mi) {dflt : Int} {ps : Array (Int × Int)} {n : Nat} (hdg : decode (jmi mi).2.1 pc = .ok (.lookupswitch dflt ps, n)) (hok : jlok (jmi mi).1.cls (decide ((jmi mi).1.name = "<init>")) (.lookupswitch dflt ps) [] = true) {a : Int} {r : List jV} (ht : 0 ≤ (pc : Int) + Op.lookupswitch.offset ps.toList dflt a) (kk : jGo p l e R s m args below meth c Q D cs xv A mi L0 t0 ad0 (mi, jtgt pc (Op.lookupswitch.offset ps.toList dflt a), ls, r) (T, h)) : jGo p l e R s m args below meth c Q D cs xv A mi L0 t0 ad0 (mi, pc, ls, (0, a) :: r) (T, h) := by
  intro ad arr H locs had hL0 ht0 hrel
  obtain ⟨hx, hb, -⟩ := F
  have hs : jws T.1.length ((0, a) :: r) := hrel.2.2.2.2.1
  have ha : jI32 a := jws_head hs
  have hr : jRel D cs xv A s mi ad arr H locs ls r T h := ⟨hrel.1, hrel.2.1, hrel.2.2.1, hrel.2.2.2.1, jws_tail hs, hrel.2.2.2.2.2⟩
  have fin := kk ad arr H locs had hL0 ht0 hr
  show W p l e R s m args below meth c H locs (T.1.length - L0) (jtot T.1 - t0) Q (F0 m pc arr (.int (Int32.ofInt a) :: r.map (jcv ad xv)))
  exact lv_lookup hx hb hdg hok (off := Op.lookupswitch.offset ps.toList dflt a) (by rw [jti ha]) (Int.toNat_of_nonneg ht).symm fin
/-- behind a making -/
theorem jnew_rel {ad : Nat → Nat} {arr : Array Slot} {H1 : Heap} {locs : List Loc} {r : List jV} {t : Nat × Nat} {q : Nat} {pc' : Nat} (kk : jGo p l e R s m args below meth c Q D cs xv A mi L0 t0 ad0 (mi, pc', ls, (2, Int.ofNat T.1.length) :: r) ((T.1 ++ [t], T.2), h)) (hok : (t.1 < 13 ∧ t.2 = (jFt.getD t.1 []).length) ∨ (20 ≤ t.1 ∧ t.1 < 25 ∧ t.2 ≤ 100000)) (had : ∀ o, o < L0 → ad o = ad0 o) (hL0 : L0 ≤ T.1.length) (ht0 : t0 ≤ jtot T.1)
    (hl : lv_has arr ls.length (jlv ad xv 0 ls)) (hlen : ls.length = (jmi mi).2.2.1) (hw : jwl T.1.length ls) (htg : jtg ls) (hs : jws T.1.length r) (hO : jOk T h) (hP1 : va_P D vwCl (jcl ad cs T h ++ [(q, jel (va_up ad T.1.length q) cs T h T.1.length t)]) H1) (hD1 : va_D A (jcl ad cs T h ++ [(q, jel (va_up ad T.1.length q) cs T h T.1.length t)])) (hS1 : va_S A s.heap H1 locs) :
    W p l e R s m args below meth c H1 locs (T.1.length - L0 + 1) (jtot T.1 - t0 + t.2) Q (F0 m pc' arr (.ref q :: r.map (jcv ad xv))) := by
  have hup : ∀ o, o < T.1.length → va_up ad T.1.length q o = ad o := fun o ho => by simp [va_up]; omega
  have hself : va_up ad T.1.length q T.1.length = q := by simp [va_up]
  have hg := jcl_grow (ad := ad) (ad' := va_up ad T.1.length q) (cs := cs) (t := t) hO hup
  rw [hself] at hg
  rw [← hg] at hP1 hD1
  have h0 : 0 < T.1.length := (List.getElem?_eq_some_iff.mp hO.1).1
  have ecv : ∀ v : jV, jwv T.1.length v → jcv (va_up ad T.1.length q) xv v = jcv ad xv v := by
    rintro ⟨t, x⟩ hv
    match t, hv with
    | 0, _ => rfl
    | 1, _ => rfl
    | 2, hv =>
      show jrv _ _ = jrv _ _
      unfold jrv
      rw [hup _ hv.2]
    | 3, _ => rfl
    | 4, _ => rfl
    | n + 5, _ => rfl
  have elv : ∀ (q' : List jV) (n : Nat), jwl T.1.length q' → jlv (va_up ad T.1.length q) xv n q' = jlv ad xv n q' := by
    intro q'
    induction q' with
    | nil => intro n _; rfl
    | cons v r ih =>
      intro n hq
      have hv := hq v List.mem_cons_self
      have hr := ih (n + 1) (fun w hw => hq w (List.mem_cons_of_mem _ hw))
      unfold jlv
      rw [hr, ecv v hv]
  have est : r.map (jcv (va_up ad T.1.length q) xv) = r.map (jcv ad xv) := List.map_congr_left fun v hv => ecv v (hs v hv).1
  have elen : (T.1 ++ [t]).length = T.1.length + 1 := by simp
  have etot : jtot (T.1 ++ [t]) = jtot T.1 + t.2 := by simp [jtot]
  have fin := kk (va_up ad T.1.length q) arr H1 locs (fun o ho => by rw [hup o (by omega)]; exact had o ho) (by show L0 ≤ (T.1 ++ [t]).length; omega) (by show t0 ≤ jtot (T.1 ++ [t]); omega) ⟨by show lv_has arr ls.length (jlv (va_up ad T.1.length q) xv 0 ls); rw [elv ls 0 hw]; exact hl, hlen, by show jwl (T.1 ++ [t]).length ls; exact jwl_mono hw (by omega), htg, by show jws (T.1 ++ [t]).length _; exact jws_cons ⟨Int.natCast_nonneg _, by show T.1.length < _; omega⟩ (by simp) (by simp) (jws_mono hs (by omega)), hO.grow hok, hP1, hD1, hS1⟩
  have e1 : T.1.length - L0 + 1 = (T.1 ++ [t]).length - L0 := by omega
  have e2 : jtot T.1 - t0 + t.2 = jtot (T.1 ++ [t]) - t0 := by omega
  rw [e1, e2]
  have e3 : Value.ref q = jcv (va_up ad T.1.length q) xv (2, Int.ofNat T.1.length) := by
    show _ = jrv _ T.1.length
    rw [jrv_pos h0, hself]
  rw [e3, ← est]
  exact fin
theorem jsl_new {ad : Nat → Nat} {q : Nat} (hO : jOk T h) {ci k : Nat} {ty : FieldType} (hty : (jftg ci k = 0 ∧ ty = .int) ∨ (jftg ci k = 8 ∧ ty = .boolean) ∨ (jftg ci k = 1 ∧ ty = .long) ∨ ((jftg ci k = 2 ∨ jftg ci k = 5) ∧ ((∃ C, ty = .object C) ∨ ∃ t, ty = .array t))) : defaultValue ty = jsl (va_up ad T.1.length q) T h T.1.length ci k := by
  obtain ⟨e1, e2⟩ := hO.2.2.2 T.1.length (Nat.le_refl _) k
  unfold jsl
  rcases hty with ⟨h1, rfl⟩ | ⟨h1, rfl⟩ | ⟨h1, rfl⟩ | ⟨h1, h2⟩
  · rw [h1, e1]; rfl
  · rw [h1, e1]; rfl
  · rw [h1, e1]; rfl
  · have : defaultValue ty = .null := by rcases h2 with ⟨C, rfl⟩ | ⟨t, rfl⟩ <;> rfl
    rw [this]
    rcases h1 with h1 | h1
    · rw [h1, e1]; rfl
    · rw [h1, e2]; rfl
theorem jnewc_sound (F : jFix p s m meth c D cs xv xs A mi) {idx : Nat} {ci w : Nat} (hdg : decode (jmi mi).2.1 pc = .ok (.new idx, 3)) (hok : jlok (jmi mi).1.cls (decide ((jmi mi).1.name = "<init>")) (.new idx) [ci, w] = true) (hc : ci < 13) (hroom : T.1.length + 1 - L0 ≤ R.cells ∧ jtot T.1 + (jFt.getD ci []).length - t0 ≤ R.slots)
    (hini : ∀ r, vwCl[ci]? = some r → Jvm.Cond.instantiable r.1 r.2.2 ∈ lw_tbl ∧ Jvm.Cond.initialized r.1 ∈ lw_tbl) (kk : jGo p l e R s m args below meth c Q D cs xv A mi L0 t0 ad0 (mi, pc + 3, ls, (2, Int.ofNat T.1.length) :: st) ((T.1 ++ [(ci, (jFt.getD ci []).length)], T.2), h)) : jGo p l e R s m args below meth c Q D cs xv A mi L0 t0 ad0 (mi, pc, ls, st) (T, h) := by
  intro ad arr H locs had hL0 ht0 hrel
  obtain ⟨hx, hb, hml, hown, hwd, hA, -⟩ := F
  obtain ⟨hl, hlen, hw, htg, hs, hO, hP, hD, hS⟩ := hrel
  dsimp only at hl hlen hw htg hs hO hP hD hS hL0 ht0 ⊢
  obtain ⟨⟨C, Tb, N⟩, hr, hnn, hcl⟩ := jcl_class hc
  have hok2 : (decide (ci < 13) && (match vwCl[ci]? with | some r => jhas w (.classLink (jmi mi).1.cls idx r.1) | none => false)) = true := hok
  rw [hr] at hok2
  simp only [Bool.and_eq_true] at hok2
  obtain ⟨ty0, hty⟩ := jcl_ty hr
  obtain ⟨i1, i2⟩ := hini _ hr
  dsimp only at hnn hcl hty i1 i2
  refine va_new hx hb (fun w hw => hwd.2.2.1 w hw args) (jcl_inT hr) ty0 hty hown (hwd.2.2.1 _ (jTg_in (jhas_mem hok2.2) rfl) args) (hwd.2.2.1 _ (jTg_in i1 rfl) args) (hwd.2.2.1 _ (jTg_in i2 rfl) args) hwd.2.1 hP hD hS hA hr (fs := (List.range N).map (jsl (va_up ad T.1.length 0) T h T.1.length ci)) (fun j hj => ?_) (by omega) (by show jtot T.1 - t0 + N ≤ R.slots; omega) hdg (fun q H1 hP1 hD1 hS1 => ?_)
  · have h1 := jclok1_ty (hcl j hj)
    rw [hty j hj] at h1
    have h2 := jsl_new (ad := ad) (q := 0) (T := T) (h := h) (ci := ci) (k := j) (ty := ty0 j) hO (by simpa using h1)
    rw [h2]
    unfold vp_V
    rw [List.getD_eq_getElem?_getD, List.getElem?_map, List.getElem?_range hj]
    rfl
  · have efs : (Sum.inr (ci, (List.range N).map (jsl (va_up ad T.1.length 0) T h T.1.length ci)) : va_E) = jel (va_up ad T.1.length q) cs T h T.1.length (ci, (jFt.getD ci []).length) := by
      rw [jel_cls hc]
      dsimp only
      rw [hnn]
      congr 2
      apply List.map_congr_left
      intro k hk
      have h1 := jclok1_ty (hcl k (List.mem_range.mp hk))
      rw [hty k (List.mem_range.mp hk)] at h1
      rw [← jsl_new (ad := ad) (q := 0) (T := T) (h := h) (ci := ci) (k := k) (ty := ty0 k) hO (by simpa using h1)]
      exact jsl_new (ad := ad) (q := q) (T := T) (h := h) (ci := ci) (k := k) (ty := ty0 k) hO (by simpa using h1)
    rw [efs] at hP1 hD1
    have := jnew_rel (t := (ci, (jFt.getD ci []).length)) kk (Or.inl ⟨hc, rfl⟩) had hL0 ht0 hl hlen hw htg hs hO hP1 hD1 hS1
    rw [← hnn]
    exact this
theorem jra_prim {cA : ClassId} {ty : FieldType} (h1 : va_RA s cA ty) (h2 : va_RA s (cs 20) ty) (hty : ∀ C, ty ≠ .object C) : cA = cs 20 := by
  cases ty with
  | object C => exact absurd rfl (hty C)
  | _ => exact Option.some.inj ((show s.vm.findClass _ = some cA from h1).symm.trans (show s.vm.findClass _ = some (cs 20) from h2))
theorem jra_eq {cA cB : ClassId} {ty : FieldType} (h1 : va_RA s cA ty) (h2 : va_RA s cB ty) : cA = cB := by
  cases ty with
  | object C =>
    obtain ⟨_, _, _, _, _, g1⟩ := h1
    obtain ⟨_, _, _, _, _, g2⟩ := h2
    exact Option.some.inj (g1.symm.trans g2)
  | _ => exact Option.some.inj ((show s.vm.findClass _ = some cA from h1).symm.trans (show s.vm.findClass _ = some cB from h2))
theorem jnewa_sound (F : jFix p s m meth c D cs xv xs A mi) {aty : ArrayType} {k : Nat} (hdg : decode (jmi mi).2.1 pc = .ok (.newarray aty, 2)) (hok : jlok (jmi mi).1.cls (decide ((jmi mi).1.name = "<init>")) (.newarray aty) [k] = true) {n : Int} {r : List jV} (hn : 0 ≤ n ∧ n ≤ 100000) (hroom : T.1.length + 1 - L0 ≤ R.cells ∧ jtot T.1 + n.toNat - t0 ≤ R.slots)
    (harr : ∀ k, 20 ≤ k → k < 24 → Jvm.Cond.arrayClass (jty k) ∈ lw_tbl) (kk : jGo p l e R s m args below meth c Q D cs xv A mi L0 t0 ad0 (mi, pc + 2, ls, (2, Int.ofNat T.1.length) :: r) ((T.1 ++ [(k, n.toNat)], T.2), h)) : jGo p l e R s m args below meth c Q D cs xv A mi L0 t0 ad0 (mi, pc, ls, (0, n) :: r) (T, h) := by
  intro ad arr H locs had hL0 ht0 hrel
  obtain ⟨hx, hb, hml, hown, hwd, hA, -⟩ := F
  obtain ⟨hl, hlen, hw, htg, hs, hO, hP, hD, hS⟩ := hrel
  dsimp only at hl hlen hw htg hs hO hP hD hS hL0 ht0 ⊢
  have hok2 : (decide (20 ≤ k) && decide (k < 24) && decide (newarray.typeOf aty = jty k)) = true := hok
  simp only [Bool.and_eq_true, decide_eq_true_eq] at hok2
  obtain ⟨⟨k1, k2⟩, k3⟩ := hok2
  have hn32 : jI32 n := ⟨by omega, by omega⟩
  have e0 : ∀ j, h T.1.length j = 0 := fun j => (hO.2.2.2 _ (Nat.le_refl _) j).1
  have ha := harr k k1 k2
  rw [← k3] at ha
  have hac := hwd.2.2.1 _ (jTg_in ha rfl) args
  show W p l e R s m args below meth c H locs (T.1.length - L0) (jtot T.1 - t0) Q (F0 m pc arr (.int (Int32.ofInt n) :: r.map (jcv ad xv)))
  have hneg : ¬ Int32.ofInt n < 0 := by
    rw [show (0 : Int32) = Int32.ofInt 0 from rfl, jof_lt hn32 ⟨by decide, by decide⟩]
    omega
  have fin : ∀ (a0 : vp_A) (t0' : Nat), (∀ cA : ClassId, vp_cell cA a0 = arrV cA n.toNat (fun _ => defaultValue (jty k))) → (jtys cs)[t0']? = some (cs k, jty k) → (∀ q, (Sum.inl (cs k, a0) : va_E) = jel (va_up ad T.1.length q) cs T h T.1.length (k, n.toNat)) → n.toNat * componentBytes (jty k) ≤ 536870912 → W p l e R s m args below meth c H locs (T.1.length - L0) (jtot T.1 - t0) Q (F0 m pc arr (.int (Int32.ofInt n) :: r.map (jcv ad xv))) := by
    intro a0 t0' g1 g2 g3 g4
    refine va_newa (tys := jtys cs) (a0 := a0) hx hb hac k3 hwd.2.1 hP hD hS hA g1 hneg (jcl_nat hn32) g4 (by omega) (by omega) hdg (fun q cA H1 hK1 hP1 hD1 hS1 => ?_)
    have hra1 := (hK1.2 (jtys cs).length (cA, jty k) (by rw [List.getElem?_append_right (Nat.le_refl _), Nat.sub_self]; rfl)).2
    have hra2 := (hwd.2.1.2 _ _ g2).2
    have ecA : cA = cs k := jra_eq hra1 hra2
    rw [ecA, g3 q] at hP1 hD1
    exact jnew_rel (t := (k, n.toNat)) kk (Or.inr ⟨k1, by omega, by show n.toNat ≤ 100000; omega⟩) had hL0 ht0 hl hlen hw htg (jws_tail hs) hO hP1 hD1 hS1
  rcases (by omega : k = 20 ∨ k = 21 ∨ k = 22 ∨ k = 23) with rfl | rfl | rfl | rfl
  · refine fin (n.toNat, .inl fun _ => 0) 0 (fun _ => rfl) rfl (fun q => ?_) (by show n.toNat * 4 ≤ _; omega)
    rw [jel_int]
    simp only [e0]
    rfl
  · refine fin (n.toNat, .inr (.inl fun _ => 0)) 1 (fun _ => rfl) rfl (fun q => ?_) (by show n.toNat * 8 ≤ _; omega)
    rw [jel_lng]
    simp only [e0]
    rfl
  · refine fin (n.toNat, .inl fun _ => 0) 2 (fun _ => rfl) rfl (fun q => ?_) (by show n.toNat * 1 ≤ _; omega)
    rw [jel_boo]
    simp only [e0]
    rfl
  · refine fin (n.toNat, .inl fun _ => 0) 3 (fun _ => rfl) rfl (fun q => ?_) (by show n.toNat * 2 ≤ _; omega)
    rw [jel_chr]
    simp only [e0]
    rfl
theorem jnewq_sound (F : jFix p s m meth c D cs xv xs A mi) {idx w : Nat} (hdg : decode (jmi mi).2.1 pc = .ok (.anewarray idx, 3)) (hok : jlok (jmi mi).1.cls (decide ((jmi mi).1.name = "<init>")) (.anewarray idx) [24, w] = true) {n : Int} {r : List jV} (hn : 0 ≤ n ∧ n ≤ 100000) (hroom : T.1.length + 1 - L0 ≤ R.cells ∧ jtot T.1 + n.toNat - t0 ≤ R.slots) (kk : jGo p l e R s m args below meth c Q D cs xv A mi L0 t0 ad0 (mi, pc + 3, ls, (2, Int.ofNat T.1.length) :: r) ((T.1 ++ [(24, n.toNat)], T.2), h)) : jGo p l e R s m args below meth c Q D cs xv A mi L0 t0 ad0 (mi, pc, ls, (0, n) :: r) (T, h) := by
  intro ad arr H locs had hL0 ht0 hrel
  obtain ⟨hx, hb, hml, hown, hwd, hA, -⟩ := F
  obtain ⟨hl, hlen, hw, htg, hs, hO, hP, hD, hS⟩ := hrel
  dsimp only at hl hlen hw htg hs hO hP hD hS hL0 ht0 ⊢
  have hok2 : (decide (24 = 24) && jhas w (.classLink (jmi mi).1.cls idx RX9)) = true := hok
  simp only [Bool.and_eq_true] at hok2
  have hn32 : jI32 n := ⟨by omega, by omega⟩
  have e0 : ∀ j, T.2 T.1.length j = 0 := fun j => (hO.2.2.2 _ (Nat.le_refl _) j).2
  have hneg : ¬ Int32.ofInt n < 0 := by
    rw [show (0 : Int32) = Int32.ofInt 0 from rfl, jof_lt hn32 ⟨by decide, by decide⟩]
    omega
  show W p l e R s m args below meth c H locs (T.1.length - L0) (jtot T.1 - t0) Q (F0 m pc arr (.int (Int32.ofInt n) :: r.map (jcv ad xv)))
  refine va_newq (tys := jtys cs) hx hb hown (hwd.2.2.1 _ (jTg_in (jhas_mem hok2.2) rfl) args) hwd.2.2.2.2.1 hwd.2.1 hP hD hS hA hneg (jcl_nat hn32) (by omega) (by omega) (by omega) hdg (fun q cA H1 hK1 hP1 hD1 hS1 => ?_)
  have hra1 := (hK1.2 (jtys cs).length (cA, .object RX9) (by rw [List.getElem?_append_right (Nat.le_refl _), Nat.sub_self]; rfl)).2
  have hra2 := (hwd.2.1.2 4 (cs 24, .object RX9) rfl).2
  have ecA : cA = cs 24 := jra_eq hra1 hra2
  have eel : (Sum.inl (cs 24, n.toNat, .inr (.inr (.inr (.inr (fun _ => none))))) : va_E) = jel (va_up ad T.1.length q) cs T h T.1.length (24, n.toNat) := by
    rw [jel_ref]
    simp only [e0]
    rfl
  rw [ecA, eel] at hP1 hD1
  exact jnew_rel (t := (24, n.toNat)) kk (Or.inr ⟨by simp, by simp, by show n.toNat ≤ 100000; omega⟩) had hL0 ht0 hl hlen hw htg (jws_tail hs) hO hP1 hD1 hS1
end JSTEP5
