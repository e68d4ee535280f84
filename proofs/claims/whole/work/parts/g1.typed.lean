/-! the codes that are read are such as can be told -/
def spAlQ (c : Int) : Bool := decide (c = 40) || (decide (45 ≤ c) && decide (c ≤ 48)) || (decide (60 ≤ c) && decide (c ≤ 61))
def spAlM : Nat → Int → Bool
  | 0 => spAlC
  | 1 => spAlT
  | _ => spAlQ
theorem spTys_app {al : Int → Bool} : ∀ (K1 K2 : List Int) (t t1 : List Bool), spTys al K1 t = some t1 → spTys al (K1 ++ K2) t = spTys al K2 t1 := by
  intro K1
  induction K1 with
  | nil => intro K2 t t1 h; cases h; rfl
  | cons c l ih =>
    intro K2 t t1 h
    show (match spTy al c t with | none => none | some t' => spTys al (l ++ K2) t') = _
    have h' : (match spTy al c t with | none => none | some t' => spTys al l t') = some t1 := h
    cases e : spTy al c t with
    | none => rw [e] at h'; cases h'
    | some t' => rw [e] at h'; exact ih K2 t' t1 h'
theorem spTys_one {al : Int → Bool} {c : Int} {t t1 : List Bool} (h : spTy al c t = some t1) : spTys al [c] t = some t1 := by
  show (match spTy al c t with | none => none | some t' => spTys al [] t') = _
  rw [h]
  rfl
theorem spTy_two {al : Int → Bool} {c : Int} {t : List Bool} (h : 1 ≤ c ∧ c ≤ 6) : spTy al c (false :: false :: t) = some (false :: t) := by
  unfold spTy
  rw [if_neg (by omega), if_neg (by omega), if_neg (by omega), if_neg (by omega), if_neg (by omega), if_pos h]
theorem spTy_cmp {al : Int → Bool} {c : Int} {t : List Bool} (h : 7 ≤ c ∧ c ≤ 9) : spTy al c (false :: false :: t) = some (true :: t) := by
  unfold spTy
  rw [if_neg (by omega), if_neg (by omega), if_neg (by omega), if_neg (by omega), if_neg (by omega), if_neg (by omega), if_pos h]
theorem spTy_lg {al : Int → Bool} {c : Int} {t : List Bool} (h : c = 10 ∨ c = 11) : spTy al c (true :: true :: t) = some (true :: t) := by
  unfold spTy
  rw [if_neg (by omega), if_neg (by omega), if_neg (by omega), if_neg (by omega), if_neg (by omega), if_neg (by omega), if_neg (by omega), if_pos h]
/-- a reader's codes leave one answer -/
def spDp (al : Int → Bool) (b : Bool) (d : Nat) (P : spF) : Prop := ∀ k g k2 g2 K, P k g = .inr (k2, g2, K) → ∀ t : List Bool, t.length + d ≤ 64 → spTys al K t = some (b :: t)
theorem spProdL_dp {tp : List Int} {P : spF} {al : Int → Bool} {d : Nat} (hP : spDp al false d P) : ∀ f k g k2 g2 K, spProdL tp P f k g = .inr (k2, g2, K) → ∀ t : List Bool, t.length + (d + 1) ≤ 64 → spTys al K (false :: t) = some (false :: t) := by
  intro f
  induction f with
  | zero =>
    intro k g k2 g2 K h t _
    obtain ⟨rfl, h2⟩ := Prod.mk.inj (Sum.inr.inj h)
    obtain ⟨rfl, rfl⟩ := Prod.mk.inj h2
    rfl
  | succ f ih =>
    intro k g k2 g2 K h t ht
    unfold spProdL at h
    split at h
    · obtain ⟨k1, g1, K1, K2, e1, e2, e3⟩ := spThen_inr h
      obtain ⟨K3, e4, e5⟩ := spEmt_inr e1
      have h1 := hP _ _ _ _ _ e4 (false :: t) (by rw [List.length_cons]; omega)
      rw [e3, e5, List.append_assoc, spTys_app _ _ _ _ h1, spTys_app _ _ _ _ (spTys_one (spTy_two (by split <;> omega)))]
      exact ih _ _ _ _ _ e2 t ht
    · obtain ⟨rfl, h2⟩ := Prod.mk.inj (Sum.inr.inj h)
      obtain ⟨rfl, rfl⟩ := Prod.mk.inj h2
      rfl
theorem spThen_dp {al : Int → Bool} {b : Bool} {d d2 : Nat} {A : spF} {L : Nat → Int → spR} (hA : spDp al b d A) (hd : d ≤ d2) (hL : ∀ k g k2 g2 K, L k g = .inr (k2, g2, K) → ∀ t : List Bool, t.length + d2 ≤ 64 → spTys al K (b :: t) = some (b :: t)) : spDp al b d2 (fun k g => spThen (A k g) L) := by
  intro k g k2 g2 K h t ht
  obtain ⟨k1, g1, K1, K2, e1, e2, e3⟩ := spThen_inr h
  rw [e3, spTys_app _ _ _ _ (hA _ _ _ _ _ e1 t (by omega))]
  exact hL _ _ _ _ _ e2 t ht
theorem spProd_dp {tp : List Int} {P : spF} {al : Int → Bool} {d : Nat} (hP : spDp al false d P) : spDp al false (d + 1) (spProd tp P) := spThen_dp hP (by omega) (spProdL_dp hP 1600)
theorem spSumL_dp {tp : List Int} {P : spF} {al : Int → Bool} {d : Nat} (hP : spDp al false d P) : ∀ f k g k2 g2 K, spSumL tp P f k g = .inr (k2, g2, K) → ∀ t : List Bool, t.length + (d + 2) ≤ 64 → spTys al K (false :: t) = some (false :: t) := by
  intro f
  induction f with
  | zero =>
    intro k g k2 g2 K h t _
    obtain ⟨rfl, h2⟩ := Prod.mk.inj (Sum.inr.inj h)
    obtain ⟨rfl, rfl⟩ := Prod.mk.inj h2
    rfl
  | succ f ih =>
    intro k g k2 g2 K h t ht
    unfold spSumL at h
    split at h
    · obtain ⟨k1, g1, K1, K2, e1, e2, e3⟩ := spThen_inr h
      obtain ⟨K3, e4, e5⟩ := spEmt_inr e1
      have h1 := spProd_dp hP _ _ _ _ _ e4 (false :: t) (by rw [List.length_cons]; omega)
      rw [e3, e5, List.append_assoc, spTys_app _ _ _ _ h1, spTys_app _ _ _ _ (spTys_one (spTy_two (by split <;> omega)))]
      exact ih _ _ _ _ _ e2 t ht
    · obtain ⟨rfl, h2⟩ := Prod.mk.inj (Sum.inr.inj h)
      obtain ⟨rfl, rfl⟩ := Prod.mk.inj h2
      rfl
theorem spSms_dp {tp : List Int} {P : spF} {al : Int → Bool} {d : Nat} (hP : spDp al false d P) : spDp al false (d + 2) (spSms tp P) := spThen_dp (spProd_dp hP) (by omega) (spSumL_dp hP 1600)
theorem spBothL_dp {tp : List Int} {F : spF} {al : Int → Bool} {d : Nat} (hF : spDp al true d F) : ∀ f k g k2 g2 K, spBothL tp F f k g = .inr (k2, g2, K) → ∀ t : List Bool, t.length + (d + 1) ≤ 64 → spTys al K (true :: t) = some (true :: t) := by
  intro f
  induction f with
  | zero =>
    intro k g k2 g2 K h t _
    obtain ⟨rfl, h2⟩ := Prod.mk.inj (Sum.inr.inj h)
    obtain ⟨rfl, rfl⟩ := Prod.mk.inj h2
    rfl
  | succ f ih =>
    intro k g k2 g2 K h t ht
    unfold spBothL at h
    split at h
    · obtain ⟨k1, g1, K1, K2, e1, e2, e3⟩ := spThen_inr h
      obtain ⟨K3, e4, e5⟩ := spEmt_inr e1
      have h1 := hF _ _ _ _ _ e4 (true :: t) (by rw [List.length_cons]; omega)
      rw [e3, e5, List.append_assoc, spTys_app _ _ _ _ h1, spTys_app _ _ _ _ (spTys_one (spTy_lg (Or.inl rfl)))]
      exact ih _ _ _ _ _ e2 t ht
    · obtain ⟨rfl, h2⟩ := Prod.mk.inj (Sum.inr.inj h)
      obtain ⟨rfl, rfl⟩ := Prod.mk.inj h2
      rfl
theorem spBoth_dp {tp : List Int} {F : spF} {al : Int → Bool} {d : Nat} (hF : spDp al true d F) : spDp al true (d + 1) (spBoth tp F) := spThen_dp hF (by omega) (spBothL_dp hF 1600)
theorem spTestL_dp {tp : List Int} {F : spF} {al : Int → Bool} {d : Nat} (hF : spDp al true d F) : ∀ f k g k2 g2 K, spTestL tp F f k g = .inr (k2, g2, K) → ∀ t : List Bool, t.length + (d + 2) ≤ 64 → spTys al K (true :: t) = some (true :: t) := by
  intro f
  induction f with
  | zero =>
    intro k g k2 g2 K h t _
    obtain ⟨rfl, h2⟩ := Prod.mk.inj (Sum.inr.inj h)
    obtain ⟨rfl, rfl⟩ := Prod.mk.inj h2
    rfl
  | succ f ih =>
    intro k g k2 g2 K h t ht
    unfold spTestL at h
    split at h
    · obtain ⟨k1, g1, K1, K2, e1, e2, e3⟩ := spThen_inr h
      obtain ⟨K3, e4, e5⟩ := spEmt_inr e1
      have h1 := spBoth_dp hF _ _ _ _ _ e4 (true :: t) (by rw [List.length_cons]; omega)
      rw [e3, e5, List.append_assoc, spTys_app _ _ _ _ h1, spTys_app _ _ _ _ (spTys_one (spTy_lg (Or.inr rfl)))]
      exact ih _ _ _ _ _ e2 t ht
    · obtain ⟨rfl, h2⟩ := Prod.mk.inj (Sum.inr.inj h)
      obtain ⟨rfl, rfl⟩ := Prod.mk.inj h2
      rfl
theorem spTest_dp {tp : List Int} {F : spF} {al : Int → Bool} {d : Nat} (hF : spDp al true d F) : spDp al true (d + 2) (spTest tp F) := spThen_dp (spBoth_dp hF) (by omega) (spTestL_dp hF 1600)
theorem spPair_dp {tp : List Int} {inner : Option spF} {c : Int} {al : Int → Bool} {d : Nat} (hc : 1 ≤ c ∧ c ≤ 6) (hI : ∀ P, inner = some P → spDp al false d P) {k : Nat} {g : Int} {k2 g2 K} (h : spPair tp inner k g c = .inr (k2, g2, K)) (t : List Bool) (ht : t.length + (d + 3) ≤ 64) : spTys al K t = some (false :: t) := by
  unfold spPair at h
  split at h
  · cases inner with
    | none => cases h
    | some P =>
      obtain ⟨K1, e1, e2⟩ := spEmt_inr h
      obtain ⟨k1, e3, -, -⟩ := spSign_inr e1
      obtain ⟨k4, g4, K4, K5, e5, e6, e7⟩ := spThen_inr e3
      obtain ⟨k6, e8, -, -⟩ := spSign_inr e5
      have hP := spSms_dp (tp := tp) (hI P rfl)
      have h1 := hP _ _ _ _ _ e8 t (by omega)
      have h2 := hP _ _ _ _ _ e6 (false :: t) (by rw [List.length_cons]; omega)
      rw [e2, e7, List.append_assoc, spTys_app _ _ _ _ h1, spTys_app _ _ _ _ h2]
      exact spTys_one (spTy_two hc)
  · cases h
theorem spPartS_dp {tp : List Int} {md d : Nat} {inner : Option spF} (hI : ∀ P, inner = some P → spDp (spAlM md) false d P) : spDp (spAlM md) false (d + 3) (spPartS tp md inner) := by
  intro k g k2 g2 K h t ht
  unfold spPartS at h
  split at h
  · split at h
    · cases h
    · rename_i v e hn
      have h1 := spNum_ok hn
      obtain ⟨rfl, h2⟩ := Prod.mk.inj (Sum.inr.inj h)
      obtain ⟨rfl, rfl⟩ := Prod.mk.inj h2
      refine spTys_one ?_
      unfold spTy
      rw [if_pos (by omega), if_pos ⟨by omega, by omega⟩]
  · split at h
    · split at h
      · cases h
      · rename_i P
        obtain ⟨k1, e3, -, -⟩ := spSign_inr h
        exact spSms_dp (hI P rfl) _ _ _ _ _ e3 t (by omega)
    · split at h
      · exact spPair_dp (by decide) hI h t ht
      · split at h
        · exact spPair_dp (by decide) hI h t ht
        · split at h
          · cases h
          · rename_i hw
            have h1 := spWq_word (tp := tp) (g := g) (k := k) (fun e => hw (Or.inl e))
            have hal : spAld md (spWq tp g k) = true := by
              cases c : spAld md (spWq tp g k)
              · exact absurd (Or.inr c) hw
              · rfl
            split at h
            · rename_i h9
              obtain ⟨rfl, h2⟩ := Prod.mk.inj (Sum.inr.inj h)
              obtain ⟨rfl, rfl⟩ := Prod.mk.inj h2
              refine spTys_one ?_
              have hm : spAlM md (40 + spWq tp g k) = true := by
                unfold spAld at hal
                match md with
                | 0 =>
                  rw [if_pos rfl] at hal
                  have := of_decide_eq_true hal
                  show spAlC _ = true
                  unfold spAlC
                  rw [decide_eq_true (by omega), decide_eq_true (by omega)]
                  rfl
                | 1 =>
                  rw [if_neg (by decide), if_pos rfl] at hal
                  have := of_decide_eq_true hal
                  show spAlT _ = true
                  unfold spAlT
                  rw [decide_eq_true (by omega), decide_eq_true (by omega)]
                  rfl
                | n + 2 =>
                  rw [if_neg (by omega), if_neg (by omega)] at hal
                  show spAlQ _ = true
                  unfold spAlQ
                  rcases (Bool.or_eq_true _ _ ▸ hal : _ = true ∨ _ = true) with e | e
                  · have := of_decide_eq_true e
                    rw [decide_eq_true (by omega)]
                    rfl
                  · have := of_decide_eq_true e
                    rw [decide_eq_true (show 45 ≤ 40 + spWq tp g k by omega), decide_eq_true (show 40 + spWq tp g k ≤ 48 by omega)]
                    simp
              unfold spTy
              rw [if_neg (by omega), if_neg (by omega), if_pos (by omega), if_pos ⟨by omega, hm, by omega⟩]
            · rename_i h9
              split at h
              · cases h
              · rename_i P
                obtain ⟨K1, e1, e2⟩ := spEmt_inr h
                have h3 := hI P rfl _ _ _ _ _ e1 t (by omega)
                rw [e2, spTys_app _ _ _ _ h3]
                refine spTys_one ?_
                have hm : spAlM md (60 + (spWq tp g k - 9)) = true := by
                  unfold spAld at hal
                  match md with
                  | 0 =>
                    rw [if_pos rfl] at hal
                    have := of_decide_eq_true hal
                    omega
                  | 1 =>
                    rw [if_neg (by decide), if_pos rfl] at hal
                    have := of_decide_eq_true hal
                    omega
                  | n + 2 =>
                    show spAlQ _ = true
                    unfold spAlQ
                    rw [decide_eq_true (show 60 ≤ 60 + (spWq tp g k - 9) by omega), decide_eq_true (show 60 + (spWq tp g k - 9) ≤ 61 by omega)]
                    simp
                unfold spTy
                rw [if_neg (by omega), if_pos (by omega), if_pos ⟨by omega, hm⟩]
theorem spPart_dp {tp : List Int} {md : Nat} : ∀ r, spDp (spAlM md) false (3 * r + 3) (spPart tp md r) := by
  intro r
  induction r with
  | zero => exact spPartS_dp (d := 0) (fun P h => by cases h)
  | succ r ih => exact spPartS_dp (d := 3 * r + 3) (fun P h => by cases h; exact ih)
theorem spCmp_dp {tp : List Int} {P : spF} {al : Int → Bool} {d : Nat} (hP : spDp al false d P) : spDp al true (d + 3) (spCmp tp P) := by
  intro k g k2 g2 K h t ht
  unfold spCmp at h
  split at h
  · cases h
  · rename_i k1 g1 K1 h1
    split at h
    · obtain ⟨k3, g3, K3, K4, e1, e2, e3⟩ := spThen_inr h
      obtain ⟨rfl, h2⟩ := Prod.mk.inj (Sum.inr.inj e1)
      obtain ⟨rfl, rfl⟩ := Prod.mk.inj h2
      obtain ⟨K5, e4, e5⟩ := spEmt_inr e2
      have a1 := spSms_dp (tp := tp) hP _ _ _ _ _ h1 t (by omega)
      have a2 := spSms_dp (tp := tp) hP _ _ _ _ _ e4 (false :: t) (by rw [List.length_cons]; omega)
      rw [e3, e5, spTys_app _ _ _ _ a1, spTys_app _ _ _ _ a2]
      exact spTys_one (spTy_cmp (by split; omega; split <;> omega))
    · cases h
theorem spFactS_dp {tp : List Int} {P : spF} {inner : Option spF} {al : Int → Bool} {d : Nat} (hP : spDp al false d P) (hI : ∀ F, inner = some F → spDp al true (d + 3) F) : spDp al true (d + 5) (spFactS tp P inner) := by
  intro k g k2 g2 K h t ht
  unfold spFactS at h
  split at h
  · split at h
    · cases h
    · rename_i F
      obtain ⟨K1, e1, e2⟩ := spEmt_inr h
      have h3 := hI F rfl _ _ _ _ _ e1 t (by omega)
      rw [e2, spTys_app _ _ _ _ h3]
      refine spTys_one ?_
      unfold spTy
      rw [if_neg (by decide), if_neg (by decide), if_neg (by decide), if_neg (by decide), if_pos rfl]
  · split at h
    · split at h
      · cases h
      · rename_i F
        obtain ⟨k1, e3, -, -⟩ := spSign_inr h
        exact spTest_dp (hI F rfl) _ _ _ _ _ e3 t (by omega)
    · split at h
      · obtain ⟨rfl, h2⟩ := Prod.mk.inj (Sum.inr.inj h)
        obtain ⟨rfl, rfl⟩ := Prod.mk.inj h2
        refine spTys_one ?_
        unfold spTy
        rw [if_neg (by decide), if_neg (by decide), if_neg (by decide), if_pos rfl, if_pos (by omega)]
      · exact spCmp_dp hP _ _ _ _ _ h t (by omega)
theorem spFact_dp {tp : List Int} {md : Nat} : ∀ r, spDp (spAlM md) true (3 * r + 8) (spFact tp md r) := by
  intro r
  induction r with
  | zero => exact spFactS_dp (d := 3) (spPart_dp 0) (fun P h => by cases h)
  | succ r ih => exact spFactS_dp (d := 3 * (r + 1) + 3) (spPart_dp (r + 1)) (fun P h k g k2 g2 K hh t ht => by cases h; exact ih _ _ _ _ _ hh t (by omega))
