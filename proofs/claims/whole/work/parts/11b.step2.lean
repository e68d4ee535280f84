/-! further steps: stores, arrays, makings -/
theorem jlfin_of {own : String} {isI : Bool} {c k : Nat} (h : jlfin own isI c k = true) {r : vw_C} (hr : vwCl[c]? = some r) : (r.2.1 k).2.2.2 = true → isI = true ∧ (r.2.1 k).1 = own := by
  unfold jlfin at h
  rw [hr] at h
  intro hf
  simp only [hf, Bool.not_true, Bool.false_or, Bool.and_eq_true, decide_eq_true_eq] at h
  exact h
theorem jclok1_ty {R : String} {Tb : u_T} {c k : Nat} (h : jclok1 R Tb c k = true) : (jftg c k = 0 ∧ parseFieldDescriptor (Tb k).2.2.1 = some .int) ∨ (jftg c k = 8 ∧ parseFieldDescriptor (Tb k).2.2.1 = some .boolean) ∨ (jftg c k = 1 ∧ parseFieldDescriptor (Tb k).2.2.1 = some .long) ∨ ((jftg c k = 2 ∨ jftg c k = 5) ∧ ((∃ C, parseFieldDescriptor (Tb k).2.2.1 = some (.object C)) ∨ ∃ ty, parseFieldDescriptor (Tb k).2.2.1 = some (.array ty))) := by
  unfold jclok1 at h
  rw [Bool.and_eq_true] at h
  have h2 := h.2
  split at h2
  · rename_i e1 e2; exact Or.inl ⟨e1, e2⟩
  · rename_i e1 e2; exact Or.inr (Or.inl ⟨e1, e2⟩)
  · rename_i e1 e2; exact Or.inr (Or.inr (Or.inl ⟨e1, e2⟩))
  · rename_i e1 e2; exact Or.inr (Or.inr (Or.inr ⟨Or.inl e1, Or.inl ⟨_, e2⟩⟩))
  · rename_i e1 e2; exact Or.inr (Or.inr (Or.inr ⟨Or.inl e1, Or.inr ⟨_, e2⟩⟩))
  · rename_i e1 e2; exact Or.inr (Or.inr (Or.inr ⟨Or.inr e1, Or.inl ⟨_, e2⟩⟩))
  · rename_i e1 e2; exact Or.inr (Or.inr (Or.inr ⟨Or.inr e1, Or.inr ⟨_, e2⟩⟩))
  · cases h2
theorem jnarr {ty : FieldType} {v : Value} (hv : jref v) (h : (∃ C, ty = .object C) ∨ ∃ t, ty = .array t) : narrow ty v = v ∧ fits ty v = true := by
  rcases hv with rfl | ⟨a, rfl⟩ <;> rcases h with ⟨C, rfl⟩ | ⟨t, rfl⟩ <;> exact ⟨rfl, rfl⟩
theorem jnarb {z : Int} (h : z = 0 ∨ z = 1) : narrow .boolean (.int (Int32.ofInt z)) = .int (Int32.ofInt z) ∧ fits .boolean (.int (Int32.ofInt z)) = true := by
  rcases h with rfl | rfl <;> exact ⟨rfl, rfl⟩
theorem jfit22 {z : Int} (h : jfit 22 z = true) : z = 0 ∨ z = 1 := by
  simpa [jfit] using h
section JSTEP2
variable {p : Program} {l : Launch} {e : Env} {R : Room} {s : State} {m : MethodId} {args : Array Value} {below : List Frame} {meth : Method} {c : Code} {Q : State → Prop}
variable {D : va_G} {cs : Nat → ClassId} {xv : Nat → Value} {xs : List Int} {A : Nat → Prop} {mi L0 t0 : Nat} {ad0 : Nat → Nat} {pc : Nat} {ls st : List jV} {T : jT} {h : jH} {f' : jF} {σ' : jS}
theorem jwv_mono {n n' : Nat} {v : jV} (h : jwv n v) (hn : n ≤ n') : jwv n' v := by
  obtain ⟨t, x⟩ := v
  match t, h with
  | 0, h => exact h
  | 1, h => exact h
  | 2, h => exact ⟨h.1, Nat.lt_of_lt_of_le h.2 hn⟩
  | 3, _ => trivial
  | 4, h => exact h
  | n + 5, _ => trivial
theorem jwl_mono {n n' : Nat} {q : List jV} (h : jwl n q) (hn : n ≤ n') : jwl n' q := fun v hv => jwv_mono (h v hv) hn
theorem jws_mono {n n' : Nat} {q : List jV} (h : jws n q) (hn : n ≤ n') : jws n' q := fun v hv => ⟨jwv_mono (h v hv).1 hn, (h v hv).2⟩
theorem jpf_sound (F : jFix p s m meth c D cs xv xs A mi) {idx : Nat} {info : List Nat} (hdg : decode (jmi mi).2.1 pc = .ok (.putfield idx, 3)) (hok : jlok (jmi mi).1.cls (decide ((jmi mi).1.name = "<init>")) (.putfield idx) info = true) (hj : jpf info mi pc ls st (T, h) = some (.inl (f', σ'))) (kk : jGo p l e R s m args below meth c Q D cs xv A mi L0 t0 ad0 f' σ') : jGo p l e R s m args below meth c Q D cs xv A mi L0 t0 ad0 (mi, pc, ls, st) (T, h) := by
  intro ad arr H locs had hL0 ht0 hrel
  obtain ⟨hx, hb, hml, hown, hwd, hA, hini⟩ := F
  obtain ⟨hl, hlen, hw, htg, hs, hO, hP, hD, hS⟩ := hrel
  dsimp only at hl hlen hw htg hs hO hP hD hS hL0 ht0 ⊢
  unfold jpf at hj
  split at hj
  · rename_i cc k t bb ww tv v o r
    split at hj
    · rename_i hcc
      obtain ⟨n, hto⟩ := jcls_of hcc.1
      have ho := hO.pos hto (by omega)
      have hok : (decide (cc < 13) && jlf (jmi mi).1.cls idx cc k t bb ww && jlfin (jmi mi).1.cls (decide ((jmi mi).1.name = "<init>")) cc k) = true := hok
      simp only [Bool.and_eq_true] at hok
      obtain ⟨rr, hr, hlink, hk, htk⟩ := jlf_of hok.1.2
      have hfin := jlfin_of hok.2 hr
      obtain ⟨r', hr', hnn, hcl⟩ := jcl_class hcc.2
      rw [hr] at hr'
      cases hr'
      have hty := jclok1_ty (hcl k hk)
      have hvw : jwv T.1.length (tv, v) := jws_head hs
      have go : ∀ (T' : jT) (h' : jH) (ty : FieldType), T'.1 = T.1 → (∀ i, i ≠ o.toNat → h' i = h i) → (∀ i, i ≠ o.toNat → T'.2 i = T.2 i) → (∀ k', k' ≠ k → h' o.toNat k' = h o.toNat k') → (∀ k', k' ≠ k → T'.2 o.toNat k' = T.2 o.toNat k') → jsl ad T' h' o.toNat cc k = jcv ad xv (tv, v) → jOk T' h' → parseFieldDescriptor (rr.2.1 k).2.2.1 = some ty → narrow ty (jcv ad xv (tv, v)) = jcv ad xv (tv, v) ∧ fits ty (jcv ad xv (tv, v)) = true → jon mi (pc + 3) ls r (T', h') = some (.inl (f', σ')) → W p l e R s m args below meth c H locs (T.1.length - L0) (jtot T.1 - t0) Q (F0 m pc arr (((tv, v) :: (2, o) :: r).map (jcv ad xv))) := by
        intro T' h' ty g1 g2 g3 g4 g5 g6 g7 g8 g9 g10
        cases g10
        show W p l e R s m args below meth c H locs (T.1.length - L0) (jtot T.1 - t0) Q (F0 m pc arr (jcv ad xv (tv, v) :: jrv ad o.toNat :: r.map (jcv ad xv)))
        rw [jrv_pos ho]
        refine jput_sound hx hb hwd hown hP hD hS hto ho hcc.2 hr hk hlink (fun hf => ⟨hini (of_decide_eq_true (hfin hf).1), (hfin hf).2⟩) g8 g9.1 g9.2 g1 g2 g3 g4 g5 g6 hdg (fun H1 locs1 hP1 hD1 hS1 => ?_)
        have kk' := kk ad arr H1 locs1 had (by show L0 ≤ T'.1.length; rw [g1]; exact hL0) (by show t0 ≤ jtot T'.1; rw [g1]; exact ht0) ⟨hl, hlen, by show jwl T'.1.length ls; rw [g1]; exact hw, htg, by show jws T'.1.length r; rw [g1]; exact jws_tail (jws_tail hs), g7, hP1, hD1, hS1⟩
        rw [g1] at kk'
        exact kk'
      have put : ∀ (ty : FieldType), jftg cc k ≠ 5 → jokv T.1.length (jftg cc k) v 0 → jsl ad T (jup h o.toNat k v) o.toNat cc k = jcv ad xv (tv, v) → parseFieldDescriptor (rr.2.1 k).2.2.1 = some ty → narrow ty (jcv ad xv (tv, v)) = jcv ad xv (tv, v) ∧ fits ty (jcv ad xv (tv, v)) = true → jon mi (pc + 3) ls r (T, jup h o.toNat k v) = some (.inl (f', σ')) → W p l e R s m args below meth c H locs (T.1.length - L0) (jtot T.1 - t0) Q (F0 m pc arr (((tv, v) :: (2, o) :: r).map (jcv ad xv))) := by
        intro ty g1 g2 g3 g4 g5 g6
        exact go T (jup h o.toNat k v) ty rfl (fun i hi => jup_ne hi) (fun _ _ => rfl) (fun k' hk' => by simp [jup, hk']) (fun _ _ => rfl) g3 (hO.put hto (fun _ => by rw [jskd_cls hcc.2]; exact g2) (by rw [jskd_cls hcc.2]; exact g1)) g4 g5 g6
      have eup : jup h o.toNat k v o.toNat k = v := by simp [jup]
      split at hj
      · split at hj
        · rename_i hc2
          obtain ⟨rfl, hc2⟩ := hc2
          rcases hty with ⟨e1, e2⟩ | ⟨e1, e2⟩ | ⟨e1, e2⟩ | ⟨e1, e2⟩
          · refine put .int (by rw [e1]; decide) (by rw [e1]; exact hvw) ?_ e2 ⟨rfl, rfl⟩ hj
            unfold jsl
            rw [e1, eup]
            rfl
          · have hb1 : bb = 1 := by
              unfold jtk at htk
              rw [e1] at htk
              simpa using htk
            have hv01 : v = 0 ∨ v = 1 := by
              rcases hc2 with h | h
              · omega
              · exact jfit22 h
            refine put .boolean (by rw [e1]; decide) (by rw [e1]; exact hv01) ?_ e2 (jnarb hv01) hj
            unfold jsl
            rw [e1, eup]
            rfl
          · unfold jtk at htk
            rw [e1] at htk
            simp at htk
          · unfold jtk at htk
            rcases e1 with e1 | e1 <;> (rw [e1] at htk; simp at htk)
        · cases hj
      · split at hj
        · rename_i hc2
          subst hc2
          rcases hty with ⟨e1, e2⟩ | ⟨e1, e2⟩ | ⟨e1, e2⟩ | ⟨e1, e2⟩
          · unfold jtk at htk
            rw [e1] at htk
            simp at htk
          · unfold jtk at htk
            rw [e1] at htk
            simp at htk
          · refine put .long (by rw [e1]; decide) (by rw [e1]; exact hvw) ?_ e2 ⟨rfl, rfl⟩ hj
            unfold jsl
            rw [e1, eup]
            rfl
          · unfold jtk at htk
            rcases e1 with e1 | e1 <;> (rw [e1] at htk; simp at htk)
        · cases hj
      · split at hj
        · rename_i hc2
          subst hc2
          rcases hty with ⟨e1, e2⟩ | ⟨e1, e2⟩ | ⟨e1, e2⟩ | ⟨e1, e2⟩
          · unfold jtk at htk
            rw [e1] at htk
            simp at htk
          · unfold jtk at htk
            rw [e1] at htk
            simp at htk
          · unfold jtk at htk
            rw [e1] at htk
            simp at htk
          · rcases e1 with e1 | e1
            · have ev : jsl ad T (jup h o.toNat k v) o.toNat cc k = jcv ad xv (2, v) := by
                unfold jsl
                rw [e1, eup]
                rfl
              rcases e2 with ⟨C, e2⟩ | ⟨ty, e2⟩
              · exact put _ (by rw [e1]; decide) (by rw [e1]; exact hvw) ev e2 (jnarr (jrv_ref _ _) (Or.inl ⟨_, rfl⟩)) hj
              · exact put _ (by rw [e1]; decide) (by rw [e1]; exact hvw) ev e2 (jnarr (jrv_ref _ _) (Or.inr ⟨_, rfl⟩)) hj
            · unfold jtk at htk
              rw [e1] at htk
              simp at htk
        · cases hj
      · rename_i q0 q1 q2
        split at hj
        · rename_i hc2
          subst hc2
          have e1 : jftg cc k = 5 := by
            unfold jtk at htk
            split at htk <;> simp at htk
            · exact absurd htk.1 q0
            · exact absurd htk.1 q0
            · exact absurd htk.1 q1
            · exact absurd htk.1 q2
            · assumption
          rcases hty with ⟨e3, e2⟩ | ⟨e3, e2⟩ | ⟨e3, e2⟩ | ⟨e3, e2⟩
          · omega
          · omega
          · omega
          · have ev : jsl ad (T.1, jupR T.2 o.toNat k v.toNat) h o.toNat cc k = jcv ad xv (2, v) := by
              unfold jsl
              rw [e1]
              show jrv ad (jupR T.2 o.toNat k v.toNat o.toNat k) = jrv ad v.toNat
              congr 1
              simp [jupR]
            have hO' : jOk (T.1, jupR T.2 o.toNat k v.toNat) h := hO.putR hto hvw.2 (by rw [jskd_cls hcc.2]; exact e1)
            rcases e2 with ⟨C, e2⟩ | ⟨ty, e2⟩
            · exact go (T.1, jupR T.2 o.toNat k v.toNat) h _ rfl (fun _ _ => rfl) (fun i hi => jupR_ne hi) (fun _ _ => rfl) (fun k' hk' => by simp [jupR, hk']) ev hO' e2 (jnarr (jrv_ref _ _) (Or.inl ⟨_, rfl⟩)) hj
            · exact go (T.1, jupR T.2 o.toNat k v.toNat) h _ rfl (fun _ _ => rfl) (fun i hi => jupR_ne hi) (fun _ _ => rfl) (fun k' hk' => by simp [jupR, hk']) ev hO' e2 (jnarr (jrv_ref _ _) (Or.inr ⟨_, rfl⟩)) hj
        · cases hj
    · cases hj
  · cases hj
end JSTEP2
