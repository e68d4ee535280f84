/-! further steps: arrays, statics, makings, divisions, jumps -/
section JSTEP3
variable {p : Program} {l : Launch} {e : Env} {R : Room} {s : State} {m : MethodId} {args : Array Value} {below : List Frame} {meth : Method} {c : Code} {Q : State → Prop}
variable {D : va_G} {cs : Nat → ClassId} {xv : Nat → Value} {xs : List Int} {A : Nat → Prop} {mi L0 t0 : Nat} {ad0 : Nat → Nat} {pc : Nat} {ls st : List jV} {T : jT} {h : jH} {f' : jF} {σ' : jS}
theorem jld_of {kind t : Nat} (hj : jld kind t xs mi pc ls st (T, h) = some (.inl (f', σ'))) : (∃ i o r n, st = (0, i) :: (2, o) :: r ∧ T.1[o.toNat]? = some (kind, n) ∧ jinb i n = true ∧ f' = (mi, pc + 1, ls, (t, h o.toNat i.toNat) :: r) ∧ σ' = (T, h)) ∨ (∃ i z r q, st = (0, i) :: (4, z) :: r ∧ jext xs z = some (kind, q) ∧ jinb i q.length = true ∧ f' = (mi, pc + 1, ls, (0, q.getD i.toNat 0) :: r) ∧ σ' = (T, h)) := by
  unfold jld at hj
  split at hj
  · rename_i i o r
    split at hj
    · rename_i k n hq
      split at hj
      · rename_i hc
        cases hj
        exact Or.inl ⟨i, o, r, n, rfl, by rw [hq, hc.1], hc.2, rfl, rfl⟩
      · cases hj
    · cases hj
  · rename_i i z r
    split at hj
    · rename_i k q hq
      split at hj
      · rename_i hc
        cases hj
        exact Or.inr ⟨i, z, r, q, rfl, by rw [hq, hc.1], hc.2, rfl, rfl⟩
      · cases hj
    · cases hj
  · cases hj
theorem jinb_of {i : Int} {n : Nat} (h : jinb i n = true) : 0 ≤ i ∧ i.toNat < n := by
  unfold jinb at h
  rw [Bool.and_eq_true] at h
  exact ⟨of_decide_eq_true h.1, of_decide_eq_true h.2⟩
theorem jgo_simple {v : jV} {r : List jV} {pc' : Nat} {ad : Nat → Nat} {arr : Array Slot} {H : Heap} {locs : List Loc} (kk : jGo p l e R s m args below meth c Q D cs xv A mi L0 t0 ad0 (mi, pc', ls, v :: r) (T, h)) (had : ∀ o, o < L0 → ad o = ad0 o) (hL0 : L0 ≤ T.1.length) (ht0 : t0 ≤ jtot T.1) (hl : lv_has arr ls.length (jlv ad xv 0 ls)) (hlen : ls.length = (jmi mi).2.2.1) (hw : jwl T.1.length ls) (htg : jtg ls) (hs : jws T.1.length r) (hO : jOk T h) (hP : va_P D vwCl (jcl ad cs T h) H) (hD : va_D A (jcl ad cs T h)) (hS : va_S A s.heap H locs) (h1 : jwv T.1.length v) (h2 : v.1 ≠ 3) (h3 : v.1 < 6) : W p l e R s m args below meth c H locs (T.1.length - L0) (jtot T.1 - t0) Q (F0 m pc' arr (jcv ad xv v :: r.map (jcv ad xv))) :=
  kk ad arr H locs had hL0 ht0 ⟨hl, hlen, hw, htg, jws_cons h1 h2 h3 hs, hO, hP, hD, hS⟩
theorem jiald_sound (F : jFix p s m meth c D cs xv xs A mi) (hdg : decode (jmi mi).2.1 pc = .ok (.iaload, 1)) (hj : jld 20 0 xs mi pc ls st (T, h) = some (.inl (f', σ'))) (kk : jGo p l e R s m args below meth c Q D cs xv A mi L0 t0 ad0 f' σ') : jGo p l e R s m args below meth c Q D cs xv A mi L0 t0 ad0 (mi, pc, ls, st) (T, h) := by
  intro ad arr H locs had hL0 ht0 hrel
  obtain ⟨hx, hb, hml, hown, hwd, hA, hini⟩ := F
  obtain ⟨hl, hlen, hw, htg, hs, hO, hP, hD, hS⟩ := hrel
  dsimp only at hl hlen hw htg hs hO hP hD hS hL0 ht0 ⊢
  rcases jld_of hj with ⟨i, o, r, n, rfl, hto, hi, rfl, rfl⟩ | ⟨i, z, r, q, rfl, hz, hi, rfl, rfl⟩
  · have ho := hO.pos hto (by decide)
    have hi32 : jI32 i := jws_head hs
    show W p l e R s m args below meth c H locs (T.1.length - L0) (jtot T.1 - t0) Q (F0 m pc arr (.int (Int32.ofInt i) :: jrv ad o.toNat :: r.map (jcv ad xv)))
    rw [jrv_pos ho]
    refine va_iald (tys := jtys cs) hx hb hwd.2.1 hP (o.toNat - 1) 0 (jcl_at hto ho) rfl (jvp_in hi32 hi) hdg ?_
    rw [jcl_nat hi32]
    exact jgo_simple kk had hL0 ht0 hl hlen hw htg (jws_tail (jws_tail hs)) hO hP hD hS (hO.2.2.1 _ _ i.toNat hto) (by simp) (by simp)
  · have hi32 : jI32 i := jws_head hs
    obtain ⟨t, e1, hT⟩ := hwd.2.2.2.2.2.2.1 z 20 q hz
    have hin := jext_in hwd.1.2.1 hwd.1.2.2 hz
    show W p l e R s m args below meth c H locs (T.1.length - L0) (jtot T.1 - t0) Q (F0 m pc arr (.int (Int32.ofInt i) :: xv z.toNat :: r.map (jcv ad xv)))
    rw [e1]
    refine va_ti hx hb hT hS (jvp_in hi32 hi) rfl hdg ?_
    rw [jcl_nat hi32]
    exact jgo_simple (v := (0, q.getD i.toNat 0)) kk had hL0 ht0 hl hlen hw htg (jws_tail (jws_tail hs)) hO hP hD hS (jgetD_in hin.1 _) (by simp) (by simp)
theorem jlald_sound (F : jFix p s m meth c D cs xv xs A mi) (hdg : decode (jmi mi).2.1 pc = .ok (.laload, 1)) (hj : jld 21 1 xs mi pc ls st (T, h) = some (.inl (f', σ'))) (kk : jGo p l e R s m args below meth c Q D cs xv A mi L0 t0 ad0 f' σ') : jGo p l e R s m args below meth c Q D cs xv A mi L0 t0 ad0 (mi, pc, ls, st) (T, h) := by
  intro ad arr H locs had hL0 ht0 hrel
  obtain ⟨hx, hb, hml, hown, hwd, hA, hini⟩ := F
  obtain ⟨hl, hlen, hw, htg, hs, hO, hP, hD, hS⟩ := hrel
  dsimp only at hl hlen hw htg hs hO hP hD hS hL0 ht0 ⊢
  rcases jld_of hj with ⟨i, o, r, n, rfl, hto, hi, rfl, rfl⟩ | ⟨i, z, r, q, rfl, hz, hi, rfl, rfl⟩
  · have ho := hO.pos hto (by decide)
    have hi32 : jI32 i := jws_head hs
    show W p l e R s m args below meth c H locs (T.1.length - L0) (jtot T.1 - t0) Q (F0 m pc arr (.int (Int32.ofInt i) :: jrv ad o.toNat :: r.map (jcv ad xv)))
    rw [jrv_pos ho]
    refine va_lald (tys := jtys cs) hx hb hwd.2.1 hP (o.toNat - 1) 1 (jcl_at hto ho) rfl (jvp_in hi32 hi) hdg ?_
    rw [jcl_nat hi32]
    exact jgo_simple kk had hL0 ht0 hl hlen hw htg (jws_tail (jws_tail hs)) hO hP hD hS (hO.2.2.1 _ _ i.toNat hto) (by simp) (by simp)
  · rcases jext_kind hz with h | h <;> cases h
theorem jcald_sound (F : jFix p s m meth c D cs xv xs A mi) (hdg : decode (jmi mi).2.1 pc = .ok (.caload, 1)) (hj : jld 23 0 xs mi pc ls st (T, h) = some (.inl (f', σ'))) (kk : jGo p l e R s m args below meth c Q D cs xv A mi L0 t0 ad0 f' σ') : jGo p l e R s m args below meth c Q D cs xv A mi L0 t0 ad0 (mi, pc, ls, st) (T, h) := by
  intro ad arr H locs had hL0 ht0 hrel
  obtain ⟨hx, hb, hml, hown, hwd, hA, hini⟩ := F
  obtain ⟨hl, hlen, hw, htg, hs, hO, hP, hD, hS⟩ := hrel
  dsimp only at hl hlen hw htg hs hO hP hD hS hL0 ht0 ⊢
  rcases jld_of hj with ⟨i, o, r, n, rfl, hto, hi, rfl, rfl⟩ | ⟨i, z, r, q, rfl, hz, hi, rfl, rfl⟩
  · have ho := hO.pos hto (by decide)
    have hi32 : jI32 i := jws_head hs
    have hv : 0 ≤ h o.toNat i.toNat ∧ h o.toNat i.toNat < 65536 := hO.2.2.1 _ _ i.toNat hto
    show W p l e R s m args below meth c H locs (T.1.length - L0) (jtot T.1 - t0) Q (F0 m pc arr (.int (Int32.ofInt i) :: jrv ad o.toNat :: r.map (jcv ad xv)))
    rw [jrv_pos ho]
    refine va_cald (tys := jtys cs) hx hb hwd.2.1 hP (o.toNat - 1) 3 (jcl_at hto ho) rfl (jvp_in hi32 hi) hdg ?_
    rw [jcl_nat hi32]
    exact jgo_simple kk had hL0 ht0 hl hlen hw htg (jws_tail (jws_tail hs)) hO hP hD hS (show jI32 _ from ⟨by omega, by omega⟩) (by simp) (by simp)
  · rcases jext_kind hz with h | h <;> cases h
theorem jbald_sound (F : jFix p s m meth c D cs xv xs A mi) (hdg : decode (jmi mi).2.1 pc = .ok (.baload, 1)) (hj : (jld 22 0 xs mi pc ls st (T, h) = some (.inl (f', σ')) ∧ ∃ i o r, st = (0, i) :: (2, o) :: r) ∨ (jld 25 0 xs mi pc ls st (T, h) = some (.inl (f', σ')) ∧ ∀ i o r, st ≠ (0, i) :: (2, o) :: r)) (kk : jGo p l e R s m args below meth c Q D cs xv A mi L0 t0 ad0 f' σ') : jGo p l e R s m args below meth c Q D cs xv A mi L0 t0 ad0 (mi, pc, ls, st) (T, h) := by
  intro ad arr H locs had hL0 ht0 hrel
  obtain ⟨hx, hb, hml, hown, hwd, hA, hini⟩ := F
  obtain ⟨hl, hlen, hw, htg, hs, hO, hP, hD, hS⟩ := hrel
  dsimp only at hl hlen hw htg hs hO hP hD hS hL0 ht0 ⊢
  rcases hj with ⟨hj, i0, o0, r0, hst⟩ | ⟨hj, hst⟩
  · rcases jld_of hj with ⟨i, o, r, n, rfl, hto, hi, rfl, rfl⟩ | ⟨i, z, r, q, rfl, hz, hi, rfl, rfl⟩
    · have ho := hO.pos hto (by decide)
      have hi32 : jI32 i := jws_head hs
      have hv : h o.toNat i.toNat = 0 ∨ h o.toNat i.toNat = 1 := hO.2.2.1 _ _ i.toNat hto
      show W p l e R s m args below meth c H locs (T.1.length - L0) (jtot T.1 - t0) Q (F0 m pc arr (.int (Int32.ofInt i) :: jrv ad o.toNat :: r.map (jcv ad xv)))
      rw [jrv_pos ho]
      refine va_zald (tys := jtys cs) hx hb hwd.2.1 hP (o.toNat - 1) 2 (jcl_at hto ho) rfl (jvp_in hi32 hi) hdg ?_
      rw [jcl_nat hi32]
      exact jgo_simple kk had hL0 ht0 hl hlen hw htg (jws_tail (jws_tail hs)) hO hP hD hS (show jI32 _ from ⟨by omega, by omega⟩) (by simp) (by simp)
    · cases hst
  · rcases jld_of hj with ⟨i, o, r, n, rfl, hto, hi, rfl, rfl⟩ | ⟨i, z, r, q, rfl, hz, hi, rfl, rfl⟩
    · exact absurd rfl (hst _ _ _)
    · have hi32 : jI32 i := jws_head hs
      obtain ⟨t, e1, hT⟩ := hwd.2.2.2.2.2.2.1 z 25 q hz
      have hin := jext_in hwd.1.2.1 hwd.1.2.2 hz
      show W p l e R s m args below meth c H locs (T.1.length - L0) (jtot T.1 - t0) Q (F0 m pc arr (.int (Int32.ofInt i) :: xv z.toNat :: r.map (jcv ad xv)))
      rw [e1]
      refine va_tb hx hb hT hS (jvp_in hi32 hi) rfl hdg ?_
      rw [jcl_nat hi32]
      exact jgo_simple (v := (0, q.getD i.toNat 0)) kk had hL0 ht0 hl hlen hw htg (jws_tail (jws_tail hs)) hO hP hD hS (jgetD_in hin.1 _) (by simp) (by simp)
theorem jsv_of {kind t : Nat} (hj : jsv kind t mi pc ls st (T, h) = some (.inl (f', σ'))) : ∃ v i o r n, st = (t, v) :: (0, i) :: (2, o) :: r ∧ T.1[o.toNat]? = some (kind, n) ∧ jinb i n = true ∧ jfit kind v = true ∧ f' = (mi, pc + 1, ls, r) ∧ σ' = (T, jup h o.toNat i.toNat v) := by
  unfold jsv at hj
  split at hj
  · rename_i t' v i o r
    split at hj
    · rename_i k n hq
      split at hj
      · rename_i hc
        cases hj
        exact ⟨v, i, o, r, n, by rw [hc.1], by rw [hq, hc.2.1], hc.2.2.1, hc.2.2.2, rfl, rfl⟩
      · cases hj
    · cases hj
  · cases hj
theorem jnar_boo {v : Int} (h : v = 0 ∨ v = 1) : vp_nar .boolean (Int32.ofInt v) = Int32.ofInt v := by
  rcases h with rfl | rfl <;> rfl
theorem jnar_chr {v : Int} (h : 0 ≤ v ∧ v < 65536) : vp_nar .char (Int32.ofInt v) = Int32.ofInt v := by
  obtain ⟨n, rfl⟩ := Int.eq_ofNat_of_zero_le h.1
  have e : Int32.ofInt (n : Int) = nI n := Int32.ofInt_eq_ofNat
  rw [e]
  have := (pk_charN (q := n) (by omega)).1
  unfold vp_nar
  rw [this]
theorem jast_sound (F : jFix p s m meth c D cs xv xs A mi) {kind t : Nat} {i : jI} (hki : (kind = 20 ∧ t = 0 ∧ i = .iastore) ∨ (kind = 21 ∧ t = 1 ∧ i = .lastore) ∨ (kind = 22 ∧ t = 0 ∧ i = .bastore) ∨ (kind = 23 ∧ t = 0 ∧ i = .castore)) (hdg : decode (jmi mi).2.1 pc = .ok (i, 1)) (hj : jsv kind t mi pc ls st (T, h) = some (.inl (f', σ'))) (kk : jGo p l e R s m args below meth c Q D cs xv A mi L0 t0 ad0 f' σ') : jGo p l e R s m args below meth c Q D cs xv A mi L0 t0 ad0 (mi, pc, ls, st) (T, h) := by
  intro ad arr H locs had hL0 ht0 hrel
  obtain ⟨hx, hb, hml, hown, hwd, hA, hini⟩ := F
  obtain ⟨hl, hlen, hw, htg, hs, hO, hP, hD, hS⟩ := hrel
  dsimp only at hl hlen hw htg hs hO hP hD hS hL0 ht0 ⊢
  obtain ⟨v, i, o, r, n, rfl, hto, hi, hf, rfl, rfl⟩ := jsv_of hj
  have hi32 : jI32 i := jws_head (jws_tail hs)
  have hvw : jwv T.1.length (t, v) := jws_head hs
  have go : jokv T.1.length (jskd (kind, n) i.toNat) v 0 → jskd (kind, n) i.toNat ≠ 5 → ∀ (H1 : Heap) (locs1 : List Loc), va_P D vwCl (jcl ad cs T (jup h o.toNat i.toNat v)) H1 → va_D A (jcl ad cs T (jup h o.toNat i.toNat v)) → va_S A s.heap H1 locs1 → W p l e R s m args below meth c H1 locs1 (T.1.length - L0) (jtot T.1 - t0) Q (F0 m (pc + 1) arr (r.map (jcv ad xv))) := by
    intro g1 g2 H1 locs1 hP1 hD1 hS1
    exact kk ad arr H1 locs1 had hL0 ht0 ⟨hl, hlen, hw, htg, jws_tail (jws_tail (jws_tail hs)), hO.put hto (fun _ => g1) g2, hP1, hD1, hS1⟩
  rcases hki with ⟨rfl, rfl, rfl⟩ | ⟨rfl, rfl, rfl⟩ | ⟨rfl, rfl, rfl⟩ | ⟨rfl, rfl, rfl⟩
  · have ho := hO.pos hto (by decide)
    have hq := jcl_arr (ad := ad) (cs := cs) (T := T) (h := h) (T' := T) (h' := jup h o.toNat i.toNat v) hto ho rfl (fun _ hi => jup_ne hi) (fun _ _ => rfl) (jel_int.trans (by rw [jupd_of]))
    have go := go hvw (by simp [jskd])
    rw [hq] at go
    show W p l e R s m args below meth c H locs (T.1.length - L0) (jtot T.1 - t0) Q (F0 m pc arr (.int (Int32.ofInt v) :: .int (Int32.ofInt i) :: jrv ad o.toNat :: r.map (jcv ad xv)))
    rw [jrv_pos ho]
    refine va_iast (tys := jtys cs) hx hb hwd.2.1 hP hD hS (o.toNat - 1) 0 (jcl_at hto ho) rfl (jvp_in hi32 hi) hdg ?_
    rw [jcl_nat hi32]
    exact go
  · have ho := hO.pos hto (by decide)
    have hq := jcl_arr (ad := ad) (cs := cs) (T := T) (h := h) (T' := T) (h' := jup h o.toNat i.toNat v) hto ho rfl (fun _ hi => jup_ne hi) (fun _ _ => rfl) (jel_lng.trans (by rw [jupdL_of]))
    have go := go hvw (by simp [jskd])
    rw [hq] at go
    show W p l e R s m args below meth c H locs (T.1.length - L0) (jtot T.1 - t0) Q (F0 m pc arr (.long (Int64.ofInt v) :: .int (Int32.ofInt i) :: jrv ad o.toNat :: r.map (jcv ad xv)))
    rw [jrv_pos ho]
    refine va_last (tys := jtys cs) hx hb hwd.2.1 hP hD hS (o.toNat - 1) 1 (jcl_at hto ho) rfl (jvp_in hi32 hi) hdg ?_
    rw [jcl_nat hi32]
    exact go
  · have ho := hO.pos hto (by decide)
    have hq := jcl_arr (ad := ad) (cs := cs) (T := T) (h := h) (T' := T) (h' := jup h o.toNat i.toNat v) hto ho rfl (fun _ hi => jup_ne hi) (fun _ _ => rfl) (jel_boo.trans (by rw [jupd_of]))
    have hf01 := jfit22 hf
    have go := go hf01 (by simp [jskd])
    rw [hq] at go
    show W p l e R s m args below meth c H locs (T.1.length - L0) (jtot T.1 - t0) Q (F0 m pc arr (.int (Int32.ofInt v) :: .int (Int32.ofInt i) :: jrv ad o.toNat :: r.map (jcv ad xv)))
    rw [jrv_pos ho]
    refine va_zast (tys := jtys cs) hx hb hwd.2.1 hP hD hS (o.toNat - 1) 2 (jcl_at hto ho) rfl (jvp_in hi32 hi) hdg ?_
    rw [jcl_nat hi32, jnar_boo hf01]
    exact go
  · have ho := hO.pos hto (by decide)
    have hq := jcl_arr (ad := ad) (cs := cs) (T := T) (h := h) (T' := T) (h' := jup h o.toNat i.toNat v) hto ho rfl (fun _ hi => jup_ne hi) (fun _ _ => rfl) (jel_chr.trans (by rw [jupd_of]))
    have hfc : 0 ≤ v ∧ v < 65536 := by simpa [jfit] using hf
    have go := go hfc (by simp [jskd])
    rw [hq] at go
    show W p l e R s m args below meth c H locs (T.1.length - L0) (jtot T.1 - t0) Q (F0 m pc arr (.int (Int32.ofInt v) :: .int (Int32.ofInt i) :: jrv ad o.toNat :: r.map (jcv ad xv)))
    rw [jrv_pos ho]
    refine va_cast (tys := jtys cs) hx hb hwd.2.1 hP hD hS (o.toNat - 1) 3 (jcl_at hto ho) rfl (jvp_in hi32 hi) hdg ?_
    rw [jcl_nat hi32, jnar_chr hfc]
    exact go
end JSTEP3
