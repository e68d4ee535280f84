/-! further steps: references in arrays, lengths, statics, makings, divisions, jumps -/
section JSTEP4
variable {p : Program} {l : Launch} {e : Env} {R : Room} {s : State} {m : MethodId} {args : Array Value} {below : List Frame} {meth : Method} {c : Code} {Q : State → Prop}
variable {D : va_G} {cs : Nat → ClassId} {xv : Nat → Value} {xs : List Int} {A : Nat → Prop} {mi L0 t0 : Nat} {ad0 : Nat → Nat} {pc : Nat} {ls st : List jV} {T : jT} {h : jH} {f' : jF} {σ' : jS}
theorem jaald_sound (F : jFix p s m meth c D cs xv xs A mi) (hdg : decode (jmi mi).2.1 pc = .ok (.aaload, 1)) {i o : Int} {r : List jV} {n : Nat} (hto : T.1[o.toNat]? = some (24, n)) (hi : jinb i n = true) (kk : jGo p l e R s m args below meth c Q D cs xv A mi L0 t0 ad0 (mi, pc + 1, ls, (2, Int.ofNat (T.2 o.toNat i.toNat)) :: r) (T, h)) : jGo p l e R s m args below meth c Q D cs xv A mi L0 t0 ad0 (mi, pc, ls, (0, i) :: (2, o) :: r) (T, h) := by
  intro ad arr H locs had hL0 ht0 hrel
  obtain ⟨hx, hb, hml, hown, hwd, hA, hini⟩ := F
  obtain ⟨hl, hlen, hw, htg, hs, hO, hP, hD, hS⟩ := hrel
  dsimp only at hl hlen hw htg hs hO hP hD hS hL0 ht0 ⊢
  have ho := hO.pos hto (by decide)
  have hi32 : jI32 i := jws_head hs
  show W p l e R s m args below meth c H locs (T.1.length - L0) (jtot T.1 - t0) Q (F0 m pc arr (.int (Int32.ofInt i) :: jrv ad o.toNat :: r.map (jcv ad xv)))
  rw [jrv_pos ho]
  refine va_aldq (tys := jtys cs) hx hb hwd.2.1 hP (o.toNat - 1) 4 (jcl_at hto ho) rfl (jvp_in hi32 hi) hdg ?_
  rw [jcl_nat hi32, jro_rf]
  exact jgo_simple (v := (2, Int.ofNat (T.2 o.toNat i.toNat))) kk had hL0 ht0 hl hlen hw htg (jws_tail (jws_tail hs)) hO hP hD hS ⟨Int.natCast_nonneg _, hO.2.2.1 _ _ i.toNat hto⟩ (by simp) (by simp)
theorem jaast_sound (F : jFix p s m meth c D cs xv xs A mi) (hdg : decode (jmi mi).2.1 pc = .ok (.aastore, 1)) {v i o : Int} {r : List jV} {n n9 : Nat} (hto : T.1[o.toNat]? = some (24, n)) (hi : jinb i n = true) (hv : T.1[v.toNat]? = some (9, n9)) (kk : jGo p l e R s m args below meth c Q D cs xv A mi L0 t0 ad0 (mi, pc + 1, ls, r) ((T.1, jupR T.2 o.toNat i.toNat v.toNat), h)) : jGo p l e R s m args below meth c Q D cs xv A mi L0 t0 ad0 (mi, pc, ls, (2, v) :: (0, i) :: (2, o) :: r) (T, h) := by
  intro ad arr H locs had hL0 ht0 hrel
  obtain ⟨hx, hb, hml, hown, hwd, hA, hini⟩ := F
  obtain ⟨hl, hlen, hw, htg, hs, hO, hP, hD, hS⟩ := hrel
  dsimp only at hl hlen hw htg hs hO hP hD hS hL0 ht0 ⊢
  have ho := hO.pos hto (by decide)
  have hv0 := hO.pos hv (by decide)
  have hi32 : jI32 i := jws_head (jws_tail hs)
  have hvl : v.toNat < T.1.length := (List.getElem?_eq_some_iff.mp hv).1
  have hq := jcl_arr (ad := ad) (cs := cs) (T := T) (h := h) (T' := (T.1, jupR T.2 o.toNat i.toNat v.toNat)) (h' := h) hto ho rfl (fun _ _ => rfl) (fun _ hi => jupR_ne hi) (jel_ref.trans (by rw [jupdR_of (by omega)]))
  show W p l e R s m args below meth c H locs (T.1.length - L0) (jtot T.1 - t0) Q (F0 m pc arr (jrv ad v.toNat :: .int (Int32.ofInt i) :: jrv ad o.toNat :: r.map (jcv ad xv)))
  rw [jrv_pos ho, jrv_pos hv0]
  have hvc := jcl_at (ad := ad) (cs := cs) (h := h) hv hv0
  rw [jel_cls (by show 9 < 13; decide)] at hvc
  refine va_astq (tys := jtys cs) (r := (RX9, TX9, 15)) hx hb hwd.2.1 hP hD hS (o.toNat - 1) 4 (v.toNat - 1) 9 (jcl_at hto ho) rfl hvc rfl (jvp_in hi32 hi) hdg (fun H1 locs1 hP1 hD1 hS1 => ?_)
  rw [jcl_nat hi32] at hP1 hD1
  rw [← hq] at hP1 hD1
  exact kk ad arr H1 locs1 had hL0 ht0 ⟨hl, hlen, hw, htg, jws_tail (jws_tail (jws_tail hs)), hO.putR hto hvl rfl, hP1, hD1, hS1⟩
theorem jlen_sound (F : jFix p s m meth c D cs xv xs A mi) (hdg : decode (jmi mi).2.1 pc = .ok (.arraylength, 1)) {o : Int} {r : List jV} {k n : Nat} (hto : T.1[o.toNat]? = some (k, n)) (hk : 20 ≤ k ∧ k < 25) (kk : jGo p l e R s m args below meth c Q D cs xv A mi L0 t0 ad0 (mi, pc + 1, ls, (0, (n : Int)) :: r) (T, h)) : jGo p l e R s m args below meth c Q D cs xv A mi L0 t0 ad0 (mi, pc, ls, (2, o) :: r) (T, h) := by
  intro ad arr H locs had hL0 ht0 hrel
  obtain ⟨hx, hb, hml, hown, hwd, hA, hini⟩ := F
  obtain ⟨hl, hlen, hw, htg, hs, hO, hP, hD, hS⟩ := hrel
  dsimp only at hl hlen hw htg hs hO hP hD hS hL0 ht0 ⊢
  have ho := hO.pos hto (by omega)
  have hn : n ≤ 100000 := by
    rcases hO.2.1 _ _ ho hto with h | h
    · exact absurd h.1 (by simp; omega)
    · exact h.2.2
  show W p l e R s m args below meth c H locs (T.1.length - L0) (jtot T.1 - t0) Q (F0 m pc arr (jrv ad o.toNat :: r.map (jcv ad xv)))
  rw [jrv_pos ho]
  have fin : W p l e R s m args below meth c H locs (T.1.length - L0) (jtot T.1 - t0) Q (F0 m (pc + 1) arr (.int (Int32.ofInt (n : Int)) :: r.map (jcv ad xv))) := jgo_simple (v := (0, (n : Int))) kk had hL0 ht0 hl hlen hw htg (jws_tail hs) hO hP hD hS ⟨by omega, by omega⟩ (by simp) (by simp)
  have ev : Int32.ofNat n = Int32.ofInt (n : Int) := Int32.ofInt_eq_ofNat.symm
  obtain ⟨hk1, hk2⟩ := hk
  rcases (by omega : k = 20 ∨ k = 21 ∨ k = 22 ∨ k = 23 ∨ k = 24) with rfl | rfl | rfl | rfl | rfl
  · exact va_alen (tys := jtys cs) hx hb hwd.2.1 hP (o.toNat - 1) 0 (jcl_at hto ho) rfl ev hdg fin
  · exact va_alen (tys := jtys cs) hx hb hwd.2.1 hP (o.toNat - 1) 1 (jcl_at hto ho) rfl ev hdg fin
  · exact va_alen (tys := jtys cs) hx hb hwd.2.1 hP (o.toNat - 1) 2 (jcl_at hto ho) rfl ev hdg fin
  · exact va_alen (tys := jtys cs) hx hb hwd.2.1 hP (o.toNat - 1) 3 (jcl_at hto ho) rfl ev hdg fin
  · exact va_alen (tys := jtys cs) hx hb hwd.2.1 hP (o.toNat - 1) 4 (jcl_at hto ho) rfl ev hdg fin
theorem jlenX_sound (F : jFix p s m meth c D cs xv xs A mi) (hdg : decode (jmi mi).2.1 pc = .ok (.arraylength, 1)) {z : Int} {r : List jV} {k : Nat} {q : List Int} (hz : jext xs z = some (k, q)) (kk : jGo p l e R s m args below meth c Q D cs xv A mi L0 t0 ad0 (mi, pc + 1, ls, (0, (q.length : Int)) :: r) (T, h)) : jGo p l e R s m args below meth c Q D cs xv A mi L0 t0 ad0 (mi, pc, ls, (4, z) :: r) (T, h) := by
  intro ad arr H locs had hL0 ht0 hrel
  obtain ⟨hx, hb, hml, hown, hwd, hA, hini⟩ := F
  obtain ⟨hl, hlen, hw, htg, hs, hO, hP, hD, hS⟩ := hrel
  dsimp only at hl hlen hw htg hs hO hP hD hS hL0 ht0 ⊢
  obtain ⟨t, e1, hT⟩ := hwd.2.2.2.2.2.2.1 z k q hz
  have hin := jext_in hwd.1.2.1 hwd.1.2.2 hz
  show W p l e R s m args below meth c H locs (T.1.length - L0) (jtot T.1 - t0) Q (F0 m pc arr (xv z.toNat :: r.map (jcv ad xv)))
  rw [e1]
  exact va_tlen hx hb hT hS Int32.ofInt_eq_ofNat.symm hdg (jgo_simple (v := (0, (q.length : Int))) kk had hL0 ht0 hl hlen hw htg (jws_tail hs) hO hP hD hS ⟨by omega, by omega⟩ (by simp) (by simp))
theorem jgs_sound (F : jFix p s m meth c D cs xv xs A mi) {idx : Nat} {info : List Nat} (hdg : decode (jmi mi).2.1 pc = .ok (.getstatic idx, 3)) (hok : jlok (jmi mi).1.cls (decide ((jmi mi).1.name = "<init>")) (.getstatic idx) info = true) {v : jV} (hv : (∃ a b, info = [7, a, b] ∧ v = (0, 1)) ∨ ∃ k a b, info = [k, a, b] ∧ k < 4 ∧ v = (4, ((k : Nat) : Int))) (kk : jGo p l e R s m args below meth c Q D cs xv A mi L0 t0 ad0 (mi, pc + 3, ls, v :: st) (T, h)) : jGo p l e R s m args below meth c Q D cs xv A mi L0 t0 ad0 (mi, pc, ls, st) (T, h) := by
  intro ad arr H locs had hL0 ht0 hrel
  obtain ⟨hx, hb, hml, hown, hwd, hA, hini⟩ := F
  obtain ⟨hl, hlen, hw, htg, hs, hO, hP, hD, hS⟩ := hrel
  dsimp only at hl hlen hw htg hs hO hP hD hS hL0 ht0 ⊢
  obtain ⟨-, -, z0, z1, z7, z3⟩ := hwd.2.2.2.2.2.2
  rcases hv with ⟨a, b, rfl, rfl⟩ | ⟨k, a, b, rfl, hk, rfl⟩
  · have hok : jhas b (.fieldLink (jmi mi).1.cls idx "java/lang/String" "COMPACT_STRINGS" "Z") = true := hok
    exact va_gets hx hb z7 hS hown (hwd.2.2.1 _ (jTg_in (jhas_mem hok) rfl) args) (fun _ h => h) hdg (jgo_simple (v := (0, 1)) kk had hL0 ht0 hl hlen hw htg hs hO hP hD hS ⟨by decide, by decide⟩ (by simp) (by simp))
  · have fin : W p l e R s m args below meth c H locs (T.1.length - L0) (jtot T.1 - t0) Q (F0 m (pc + 3) arr (xv k :: st.map (jcv ad xv))) := jgo_simple (v := (4, (k : Int))) kk had hL0 ht0 hl hlen hw htg hs hO hP hD hS (Int.natCast_nonneg _) (by simp) (by simp)
    rcases (by omega : k = 0 ∨ k = 1 ∨ k = 2 ∨ k = 3) with rfl | rfl | rfl | rfl
    · have hok : jhas b (.fieldLinkNest (jmi mi).1.cls idx "GroupJournal" "CLOSES_WITHOUT" "[I" "GroupJournal") = true := hok
      exact va_getsN hx hb z0 hS hown (va_Nw.use rfl (hwd.2.2.2.1 _ (jhas_mem hok) rfl)) (fun _ h => h) hdg fin
    · have hok : jhas b (.fieldLinkNest (jmi mi).1.cls idx "GroupJournal" "TAKES_WITHOUT" "[I" "GroupJournal") = true := hok
      exact va_getsN hx hb z1 hS hown (va_Nw.use rfl (hwd.2.2.2.1 _ (jhas_mem hok) rfl)) (fun _ h => h) hdg fin
    · cases hok
    · have hok : jhas b (.fieldLink (jmi mi).1.cls idx "jdk/internal/util/Preconditions" "SIOOBE_FORMATTER" "Ljava/util/function/BiFunction;") = true := hok
      exact va_gets hx hb z3 hS hown (hwd.2.2.1 _ (jTg_in (jhas_mem hok) rfl) args) (fun _ h => h) hdg fin
theorem jdiv_sound (F : jFix p s m meth c D cs xv xs A mi) {i : jI} {t : Nat} {v a b : Int} (hki : (t = 0 ∧ i = .idiv ∧ v = wr (a.tdiv b)) ∨ (t = 0 ∧ i = .irem ∧ v = a.tmod b) ∨ (t = 1 ∧ i = .ldiv ∧ v = wl (a.tdiv b)) ∨ (t = 1 ∧ i = .lrem ∧ v = a.tmod b)) (hdg : decode (jmi mi).2.1 pc = .ok (i, 1)) {r : List jV} (hb0 : b ≠ 0) (kk : jGo p l e R s m args below meth c Q D cs xv A mi L0 t0 ad0 (mi, pc + 1, ls, (t, v) :: r) (T, h)) : jGo p l e R s m args below meth c Q D cs xv A mi L0 t0 ad0 (mi, pc, ls, (t, b) :: (t, a) :: r) (T, h) := by
  intro ad arr H locs had hL0 ht0 hrel
  obtain ⟨hx, hb, hml, hown, hwd, hA, hini⟩ := F
  obtain ⟨hl, hlen, hw, htg, hs, hO, hP, hD, hS⟩ := hrel
  dsimp only at hl hlen hw htg hs hO hP hD hS hL0 ht0 ⊢
  have fin : jwv T.1.length (t, v) → t ≠ 3 → t < 6 → W p l e R s m args below meth c H locs (T.1.length - L0) (jtot T.1 - t0) Q (F0 m (pc + 1) arr (jcv ad xv (t, v) :: r.map (jcv ad xv))) := fun h1 h2 h3 => jgo_simple kk had hL0 ht0 hl hlen hw htg (jws_tail (jws_tail hs)) hO hP hD hS h1 h2 h3
  have habs : ∀ x y : Int, y ≠ 0 → (x.tmod y).natAbs < y.natAbs := fun x y hy => by
    rw [Int.natAbs_tmod]
    exact Nat.mod_lt _ (by omega)
  rcases hki with ⟨rfl, rfl, rfl⟩ | ⟨rfl, rfl, rfl⟩ | ⟨rfl, rfl, rfl⟩ | ⟨rfl, rfl, rfl⟩
  · have ha : jI32 a := jws_head (jws_tail hs)
    have hb' : jI32 b := jws_head hs
    refine lv_idiv hx hb hdg ?_ ?_
    · rw [show (0 : Int32) = Int32.ofInt 0 from rfl, jof_eq hb' ⟨by decide, by decide⟩]
      exact hb0
    · have e : Int32.ofInt a / Int32.ofInt b = Int32.ofInt (wr (a.tdiv b)) := by
        rw [wr_of]
        exact (Int32.ofInt_tdiv ha.1 (by have := ha.2; show a ≤ 2147483647; omega) hb'.1 (by have := hb'.2; show b ≤ 2147483647; omega)).symm
      rw [e]
      exact fin (wr_in _) (by decide) (by decide)
  · have ha : jI32 a := jws_head (jws_tail hs)
    have hb' : jI32 b := jws_head hs
    refine lv_irem hx hb hdg ?_ ?_
    · rw [show (0 : Int32) = Int32.ofInt 0 from rfl, jof_eq hb' ⟨by decide, by decide⟩]
      exact hb0
    · have e : Int32.ofInt a - Int32.ofInt a / Int32.ofInt b * Int32.ofInt b = Int32.ofInt (a.tmod b) := by
        rw [← Int32.ofInt_tdiv ha.1 (by have := ha.2; show a ≤ 2147483647; omega) hb'.1 (by have := hb'.2; show b ≤ 2147483647; omega), ← Int32.ofInt_mul, ← Int32.ofInt_sub]
        congr 1
        have := Int.tmod_add_tdiv_mul a b
        omega
      rw [e]
      have h1 := habs a b hb0
      exact fin (show jI32 _ from ⟨by have := hb'.1; have := hb'.2; omega, by have := hb'.1; have := hb'.2; omega⟩) (by decide) (by decide)
  · have ha : jI64 a := jws_head (jws_tail hs)
    have hb' : jI64 b := jws_head hs
    refine lv_ldiv hx hb hdg ?_ ?_
    · rw [show (0 : Int64) = Int64.ofInt 0 from rfl, jofl_eq hb' ⟨by decide, by decide⟩]
      exact hb0
    · have e : Int64.ofInt a / Int64.ofInt b = Int64.ofInt (wl (a.tdiv b)) := by
        rw [wl_of]
        exact (Int64.ofInt_tdiv ha.1 (by have := ha.2; show a ≤ 9223372036854775807; omega) hb'.1 (by have := hb'.2; show b ≤ 9223372036854775807; omega)).symm
      rw [e]
      exact fin (wl_in _) (by decide) (by decide)
  · have ha : jI64 a := jws_head (jws_tail hs)
    have hb' : jI64 b := jws_head hs
    refine lv_lrem hx hb hdg ?_ ?_
    · rw [show (0 : Int64) = Int64.ofInt 0 from rfl, jofl_eq hb' ⟨by decide, by decide⟩]
      exact hb0
    · have e : Int64.ofInt a - Int64.ofInt a / Int64.ofInt b * Int64.ofInt b = Int64.ofInt (a.tmod b) := by
        rw [← Int64.ofInt_tdiv ha.1 (by have := ha.2; show a ≤ 9223372036854775807; omega) hb'.1 (by have := hb'.2; show b ≤ 9223372036854775807; omega), ← Int64.ofInt_mul, ← Int64.ofInt_sub]
        congr 1
        have := Int.tmod_add_tdiv_mul a b
        omega
      rw [e]
      have h1 := habs a b hb0
      exact fin (show jI64 _ from ⟨by have := hb'.1; have := hb'.2; omega, by have := hb'.1; have := hb'.2; omega⟩) (by decide) (by decide)
theorem jgoto_sound (F : jFix p s m meth c D cs xv xs A mi) {off : Int} (hdg : decode (jmi mi).2.1 pc = .ok (.goto off, 3)) (ht : 0 ≤ (pc : Int) + off) (kk : jGo p l e R s m args below meth c Q D cs xv A mi L0 t0 ad0 (mi, jtgt pc off, ls, st) (T, h)) : jGo p l e R s m args below meth c Q D cs xv A mi L0 t0 ad0 (mi, pc, ls, st) (T, h) := by
  intro ad arr H locs had hL0 ht0 hrel
  exact lv_goto F.1 F.2.1 hdg (tgt := jtgt pc off) (Int.toNat_of_nonneg ht).symm (kk ad arr H locs had hL0 ht0 hrel)
theorem jifc_sound (F : jFix p s m meth c D cs xv xs A mi) {cnd : Jvm.ClassFile.Cond} {off a : Int} {r : List jV} (hdg : decode (jmi mi).2.1 pc = .ok (.ifCond cnd off, 3)) (ht : 0 ≤ (pc : Int) + off) (kk : jGo p l e R s m args below meth c Q D cs xv A mi L0 t0 ad0 (mi, (if jcnd cnd a 0 = true then jtgt pc off else pc + 3), ls, r) (T, h)) : jGo p l e R s m args below meth c Q D cs xv A mi L0 t0 ad0 (mi, pc, ls, (0, a) :: r) (T, h) := by
  intro ad arr H locs had hL0 ht0 hrel
  obtain ⟨hx, hb, -⟩ := F
  have hs : jws T.1.length ((0, a) :: r) := hrel.2.2.2.2.1
  have ha : jI32 a := jws_head hs
  have h0 : jI32 0 := ⟨by decide, by decide⟩
  have ez : (0 : Int32) = Int32.ofInt 0 := rfl
  have hr : jRel D cs xv A s mi ad arr H locs ls r T h := ⟨hrel.1, hrel.2.1, hrel.2.2.1, hrel.2.2.2.1, jws_tail hs, hrel.2.2.2.2.2⟩
  have tt : jcnd cnd a 0 = true → W p l e R s m args below meth c H locs (T.1.length - L0) (jtot T.1 - t0) Q (F0 m (jtgt pc off) arr (r.map (jcv ad xv))) := fun hc => by
    rw [if_pos hc] at kk
    exact kk ad arr H locs had hL0 ht0 hr
  have ff : ¬ jcnd cnd a 0 = true → W p l e R s m args below meth c H locs (T.1.length - L0) (jtot T.1 - t0) Q (F0 m (pc + 3) arr (r.map (jcv ad xv))) := fun hc => by
    rw [if_neg hc] at kk
    exact kk ad arr H locs had hL0 ht0 hr
  have htg : (pc : Int) + off = ((jtgt pc off : Nat) : Int) := (Int.toNat_of_nonneg ht).symm
  show W p l e R s m args below meth c H locs (T.1.length - L0) (jtot T.1 - t0) Q (F0 m pc arr (.int (Int32.ofInt a) :: r.map (jcv ad xv)))
  cases cnd with
  | eq => exact lv_if_eq hx hb hdg htg (fun hc => tt (by simpa [jcnd] using (jof_eq ha h0).mp (by rw [← ez]; exact hc))) (fun hc => ff (by intro h; apply hc; rw [ez, jof_eq ha h0]; simpa [jcnd] using h))
  | ne => exact lv_if_ne hx hb hdg htg (fun hc => tt (by have : ¬ a = 0 := fun h => hc (by rw [ez, jof_eq ha h0]; exact h); simpa [jcnd] using this)) (fun hc => ff (by intro h; have h2 : ¬ a = 0 := (by simpa [jcnd] using h); exact h2 ((jof_eq ha h0).mp hc)))
  | lt => exact lv_if_lt hx hb hdg htg (fun hc => tt (by simpa [jcnd] using (jof_lt ha h0).mp hc)) (fun hc => ff (by intro h; apply hc; rw [ez, jof_lt ha h0]; simpa [jcnd] using h))
  | ge => exact lv_if_ge hx hb hdg htg (fun hc => tt (by have : 0 ≤ a := (jof_le h0 ha).mp hc; simpa [jcnd] using this)) (fun hc => ff (by intro h; apply hc; rw [ez, jof_le h0 ha]; simpa [jcnd] using h))
  | gt => exact lv_if_gt hx hb hdg htg (fun hc => tt (by simpa [jcnd] using (jof_lt h0 ha).mp hc)) (fun hc => ff (by intro h; apply hc; rw [ez, jof_lt h0 ha]; simpa [jcnd] using h))
  | le => exact lv_if_le hx hb hdg htg (fun hc => tt (by have : a ≤ 0 := (jof_le ha h0).mp hc; simpa [jcnd] using this)) (fun hc => ff (by intro h; apply hc; rw [ez, jof_le ha h0]; simpa [jcnd] using h))
theorem jicmp_sound (F : jFix p s m meth c D cs xv xs A mi) {cnd : Jvm.ClassFile.Cond} {off a b : Int} {r : List jV} (hdg : decode (jmi mi).2.1 pc = .ok (.if_icmp cnd off, 3)) (ht : 0 ≤ (pc : Int) + off) (kk : jGo p l e R s m args below meth c Q D cs xv A mi L0 t0 ad0 (mi, (if jcnd cnd a b = true then jtgt pc off else pc + 3), ls, r) (T, h)) : jGo p l e R s m args below meth c Q D cs xv A mi L0 t0 ad0 (mi, pc, ls, (0, b) :: (0, a) :: r) (T, h) := by
  intro ad arr H locs had hL0 ht0 hrel
  obtain ⟨hx, hb, -⟩ := F
  have hs : jws T.1.length ((0, b) :: (0, a) :: r) := hrel.2.2.2.2.1
  have ha : jI32 a := jws_head (jws_tail hs)
  have h0 : jI32 b := jws_head hs
  have hr : jRel D cs xv A s mi ad arr H locs ls r T h := ⟨hrel.1, hrel.2.1, hrel.2.2.1, hrel.2.2.2.1, jws_tail (jws_tail hs), hrel.2.2.2.2.2⟩
  have tt : jcnd cnd a b = true → W p l e R s m args below meth c H locs (T.1.length - L0) (jtot T.1 - t0) Q (F0 m (jtgt pc off) arr (r.map (jcv ad xv))) := fun hc => by
    rw [if_pos hc] at kk
    exact kk ad arr H locs had hL0 ht0 hr
  have ff : ¬ jcnd cnd a b = true → W p l e R s m args below meth c H locs (T.1.length - L0) (jtot T.1 - t0) Q (F0 m (pc + 3) arr (r.map (jcv ad xv))) := fun hc => by
    rw [if_neg hc] at kk
    exact kk ad arr H locs had hL0 ht0 hr
  have htg : (pc : Int) + off = ((jtgt pc off : Nat) : Int) := (Int.toNat_of_nonneg ht).symm
  show W p l e R s m args below meth c H locs (T.1.length - L0) (jtot T.1 - t0) Q (F0 m pc arr (.int (Int32.ofInt b) :: .int (Int32.ofInt a) :: r.map (jcv ad xv)))
  cases cnd with
  | eq => exact lv_icmp_eq hx hb hdg htg (fun hc => tt (by simpa [jcnd] using (jof_eq ha h0).mp hc)) (fun hc => ff (by intro h; apply hc; rw [jof_eq ha h0]; simpa [jcnd] using h))
  | ne => exact lv_icmp_ne hx hb hdg htg (fun hc => tt (by have : ¬ a = b := fun h => hc (by rw [jof_eq ha h0]; exact h); simpa [jcnd] using this)) (fun hc => ff (by intro h; have h2 : ¬ a = b := (by simpa [jcnd] using h); exact h2 ((jof_eq ha h0).mp hc)))
  | lt => exact lv_icmp_lt hx hb hdg htg (fun hc => tt (by simpa [jcnd] using (jof_lt ha h0).mp hc)) (fun hc => ff (by intro h; apply hc; rw [jof_lt ha h0]; simpa [jcnd] using h))
  | ge => exact lv_icmp_ge hx hb hdg htg (fun hc => tt (by have : b ≤ a := (jof_le h0 ha).mp hc; simpa [jcnd] using this)) (fun hc => ff (by intro h; apply hc; rw [jof_le h0 ha]; simpa [jcnd] using h))
  | gt => exact lv_icmp_gt hx hb hdg htg (fun hc => tt (by simpa [jcnd] using (jof_lt h0 ha).mp hc)) (fun hc => ff (by intro h; apply hc; rw [jof_lt h0 ha]; simpa [jcnd] using h))
  | le => exact lv_icmp_le hx hb hdg htg (fun hc => tt (by have : a ≤ b := (jof_le ha h0).mp hc; simpa [jcnd] using this)) (fun hc => ff (by intro h; apply hc; rw [jof_le ha h0]; simpa [jcnd] using h))
theorem jifn_sound (F : jFix p s m meth c D cs xv xs A mi) {off : Int} {v : Int} {k n : Nat} {r : List jV} (hdg : decode (jmi mi).2.1 pc = .ok (.ifnull off, 3)) (hto : T.1[v.toNat]? = some (k, n)) (hk : k < 13) (kk : jGo p l e R s m args below meth c Q D cs xv A mi L0 t0 ad0 (mi, pc + 3, ls, r) (T, h)) : jGo p l e R s m args below meth c Q D cs xv A mi L0 t0 ad0 (mi, pc, ls, (2, v) :: r) (T, h) := by
  intro ad arr H locs had hL0 ht0 hrel
  obtain ⟨hx, hb, -⟩ := F
  have hs : jws T.1.length ((2, v) :: r) := hrel.2.2.2.2.1
  have hO : jOk T h := hrel.2.2.2.2.2.1
  have hp : 0 < v.toNat := hO.pos hto (by omega)
  have hr : jRel D cs xv A s mi ad arr H locs ls r T h := ⟨hrel.1, hrel.2.1, hrel.2.2.1, hrel.2.2.2.1, jws_tail hs, hrel.2.2.2.2.2⟩
  show W p l e R s m args below meth c H locs (T.1.length - L0) (jtot T.1 - t0) Q (F0 m pc arr (jrv ad v.toNat :: r.map (jcv ad xv)))
  rw [jrv_pos hp]
  exact lv_ifnull hx hb hdg (kk ad arr H locs had hL0 ht0 hr)
theorem jifnN_sound (F : jFix p s m meth c D cs xv xs A mi) {off : Int} {v : Int} {r : List jV} (hdg : decode (jmi mi).2.1 pc = .ok (.ifnull off, 3)) (ht : 0 ≤ (pc : Int) + off) (kk : jGo p l e R s m args below meth c Q D cs xv A mi L0 t0 ad0 (mi, jtgt pc off, ls, r) (T, h)) : jGo p l e R s m args below meth c Q D cs xv A mi L0 t0 ad0 (mi, pc, ls, (5, v) :: r) (T, h) := by
  intro ad arr H locs had hL0 ht0 hrel
  obtain ⟨hx, hb, -⟩ := F
  have hs : jws T.1.length ((5, v) :: r) := hrel.2.2.2.2.1
  have hr : jRel D cs xv A s mi ad arr H locs ls r T h := ⟨hrel.1, hrel.2.1, hrel.2.2.1, hrel.2.2.2.1, jws_tail hs, hrel.2.2.2.2.2⟩
  show W p l e R s m args below meth c H locs (T.1.length - L0) (jtot T.1 - t0) Q (F0 m pc arr (.null :: r.map (jcv ad xv)))
  exact lv_ifnullN hx hb hdg (tgt := jtgt pc off) (Int.toNat_of_nonneg ht).symm (kk ad arr H locs had hL0 ht0 hr)
end JSTEP4
