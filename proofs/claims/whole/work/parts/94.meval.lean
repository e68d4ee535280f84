/-! formulas: the reference tells what the spec tells -/
def MEf (o : Nat) (h h' : jH) : Prop := (∀ q, q ≠ o → q ≠ o + 67 → h' q = h q) ∧ ∀ f, f ≠ 105 → h' o f = h o f
section EVM
variable {o : Nat}
theorem m_puts {h : jH} {st : List Int} {v : Int} (h4 : h o 105 = (st.length : Int)) (hc : CSt (h (o + 67)) st) (hl : st.length < 1700) : ∃ h', M_qPuts h o v = some h' ∧ MEf o h h' ∧ h' o 105 = ((v :: st).length : Int) ∧ CSt (h' (o + 67)) (v :: st) := by
  unfold M_qPuts
  rw [h4, if_pos (by omega), Int.toNat_natCast, jup_ne (show o ≠ o + 67 by omega), h4, pw (by omega) (by omega)]
  refine ⟨_, rfl, ⟨fun q q1 q2 => by rw [jup_ne q1, jup_ne q2], fun k hk => by rw [ju_ne hk, jup_ne (by omega)]⟩, by rw [ju_eq, List.length_cons]; omega, ?_, ?_⟩
  · rw [jup_ne (by omega), ju_eq]
  · refine hc.up (fun i hi => ?_)
    rw [jup_ne (by omega), ju_ne (by omega)]
theorem m_clip {v : Int} : M_qClip v = some (spClip v) := by
  unfold M_qClip spClip jcmp
  by_cases a : 1000000 < v
  · rw [if_pos (by rw [if_neg (by omega), if_neg (by omega)]; decide), if_pos a]
  · rw [if_neg a, if_neg (by split; decide; split <;> omega)]
    by_cases b : v < -1000000
    · rw [if_pos (by rw [if_pos b]; decide), if_pos b]
    · rw [if_neg (by rw [if_neg b]; split <;> decide), if_neg b]
theorem spClip_id {v : Int} (h : -1000000 ≤ v ∧ v ≤ 1000000) : spClip v = v := by unfold spClip; rw [if_neg (by omega), if_neg (by omega)]
theorem jcmp_lt {a b : Int} : jcmp a b < 0 ↔ a < b := by unfold jcmp; split; simp_all; split <;> simp_all
theorem jcmp_gt {a b : Int} : 0 < jcmp a b ↔ b < a := by unfold jcmp; split; omega; split <;> omega
theorem jcmp_eq {a b : Int} : jcmp a b = 0 ↔ a = b := by unfold jcmp; split; omega; split <;> omega
theorem m_floor {a b : Int} (ha : -1000000 ≤ a ∧ a ≤ 1000000) : M_qFloor a b = some (spFlo a b) := by
  have e1 : (a.tdiv b).natAbs = a.natAbs / b.natAbs := Int.natAbs_tdiv a b
  have e2 : a.natAbs / b.natAbs ≤ a.natAbs := Nat.div_le_self _ _
  generalize a.natAbs / b.natAbs = q at e1 e2
  have hq : wl (a.tdiv b) = a.tdiv b := pv (by omega) (by omega)
  unfold M_qFloor spFlo
  by_cases h0 : b = 0
  · rw [if_pos (jcmp_eq.mpr h0), if_pos h0]
  · rw [if_neg (fun h => h0 (jcmp_eq.mp h)), if_pos h0, if_pos h0, if_neg h0, hq]
    unfold M_qFloor_p53 M_qFloor_p32 M_qFloor_p43 M_qFloor_p53
    have hp : wl (a.tdiv b - 1) = a.tdiv b - 1 := pv (by omega) (by omega)
    rw [hp]
    by_cases c : a.tmod b = 0
    · rw [if_pos (jcmp_eq.mpr c), if_neg (fun h => h.1 c)]
    · rw [if_neg (fun h => c (jcmp_eq.mp h))]
      by_cases a0 : a < 0
      · by_cases b0 : b < 0
        · rw [if_pos (jcmp_lt.mpr a0), if_pos (jcmp_lt.mpr b0), if_pos rfl, if_neg]
          intro h; exact h.2 ⟨fun _ => b0, fun _ => a0⟩
        · rw [if_pos (jcmp_lt.mpr a0), if_neg (fun h => b0 (jcmp_lt.mp h)), if_neg (by decide), if_pos]
          exact ⟨c, fun h => b0 (h.mp a0)⟩
      · by_cases b0 : b < 0
        · rw [if_neg (fun h => a0 (jcmp_lt.mp h)), if_pos (jcmp_lt.mpr b0), if_neg (by decide), if_pos]
          exact ⟨c, fun h => a0 (h.mpr b0)⟩
        · rw [if_neg (fun h => a0 (jcmp_lt.mp h)), if_neg (fun h => b0 (jcmp_lt.mp h)), if_pos rfl, if_neg]
          intro h; exact h.2 ⟨fun h => absurd h a0, fun h => absurd h b0⟩
/-- two that wait are joined -/
theorem m_join {h : jH} {c a b : Int} {r : List Int} (hc1 : 1 ≤ c ∧ c ≤ 11) (ha : -1000000 ≤ a ∧ a ≤ 1000000) (hb : -1000000 ≤ b ∧ b ≤ 1000000) (h4 : h o 105 = ((b :: a :: r).length : Int)) (hc : CSt (h (o + 67)) (b :: a :: r)) (hl : r.length < 1600) : ∃ h', M_qJoins h o c = some h' ∧ MEf o h h' ∧ h' o 105 = ((spOp c a b :: r).length : Int) ∧ CSt (h' (o + 67)) (spOp c a b :: r) := by
  have hm := mul_bd ha hb
  rw [List.length_cons, List.length_cons] at h4
  have hb1 : h (o + 67) (r.length + 1) = b := hc.1
  have ha1 : h (o + 67) r.length = a := hc.2.1
  have put : ∀ v : Int, ∃ h', M_qPuts (jup h o 105 (r.length : Int)) o v = some h' ∧ MEf o h h' ∧ h' o 105 = ((v :: r).length : Int) ∧ CSt (h' (o + 67)) (v :: r) := by
    intro v
    obtain ⟨h', e1, e2, e3, e4⟩ := m_puts (h := jup h o 105 (r.length : Int)) (o := o) (st := r) (v := v) ju_eq (by rw [jup_ne (by omega)]; exact hc.2.2) (by omega)
    exact ⟨h', e1, ⟨fun q q1 q2 => by rw [e2.1 q q1 q2, jup_ne q1], fun f hf => by rw [e2.2 f hf, ju_ne hf]⟩, e3, e4⟩
  have fin : ∀ v : Int, M_qJoins h o c = Option.bind (M_qPuts (jup h o 105 (r.length : Int)) o v) (fun x => some x) → v = spOp c a b → ∃ h', M_qJoins h o c = some h' ∧ MEf o h h' ∧ h' o 105 = ((spOp c a b :: r).length : Int) ∧ CSt (h' (o + 67)) (spOp c a b :: r) := by
    intro v hv hv2
    obtain ⟨h', e1, e2⟩ := put v
    rw [hv2] at e1 e2 hv
    rw [hv, e1]
    exact ⟨h', rfl, e2⟩
  have hJ : ∀ X : Option jH, (if (0 : Int) ≤ (wr ((h o 105) - 1)) ∧ ((wr ((h o 105) - 1)) : Int).toNat < 1700 then (if (0 : Int) ≤ (wr ((h o 105) - 2)) ∧ ((wr ((h o 105) - 2)) : Int).toNat < 1700 then X else none) else none) = X := by
    intro X
    rw [h4, pw (by omega) (by omega), pw (by omega) (by omega), if_pos (by omega), if_pos (by omega)]
  have ib : (h (o + 67) ((wr ((h o 105) - 1)) : Int).toNat) = b := by rw [h4, pw (by omega) (by omega), show (((r.length + 1 + 1 : Nat) : Int) - 1).toNat = r.length + 1 by omega, hb1]
  have ia : (h (o + 67) ((wr ((h o 105) - 2)) : Int).toNat) = a := by rw [h4, pw (by omega) (by omega), show (((r.length + 1 + 1 : Nat) : Int) - 2).toNat = r.length by omega, ha1]
  have i2 : wr ((h o 105) - 2) = (r.length : Int) := by rw [h4, pw (by omega) (by omega)]; omega
  have hc2 : c = 1 ∨ c = 2 ∨ c = 3 ∨ c = 4 ∨ c = 5 ∨ c = 6 ∨ c = 7 ∨ c = 8 ∨ c = 9 ∨ c = 10 ∨ c = 11 := by omega
  rcases hc2 with e | e | e | e | e | e | e | e | e | e | e <;> subst e
  · refine fin (spClip (a + b)) ?_ (by unfold spOp; simp)
    unfold M_qJoins; rw [hJ, ia, ib, i2]; simp only [Int.reduceEq, ↓reduceIte]
    rw [pv (by omega) (by omega), m_clip]; rfl
  · refine fin (spClip (a - b)) ?_ (by unfold spOp; simp)
    unfold M_qJoins; rw [hJ, ia, ib, i2]; simp only [Int.reduceEq, ↓reduceIte]
    rw [pv (by omega) (by omega), m_clip]; rfl
  · refine fin (spClip (a * b)) ?_ (by unfold spOp; simp)
    unfold M_qJoins; rw [hJ, ia, ib, i2]; simp only [Int.reduceEq, ↓reduceIte]
    rw [pv (by omega) (by omega), m_clip]; rfl
  · refine fin (spFlo a b) ?_ (by unfold spOp; simp)
    unfold M_qJoins; rw [hJ, ia, ib, i2]; simp only [Int.reduceEq, ↓reduceIte]
    rw [m_floor ha]; rfl
  · refine fin (min a b) ?_ (by unfold spOp; simp)
    unfold M_qJoins M_qJoins_p161; rw [hJ, ia, ib, i2]; simp only [Int.reduceEq, ↓reduceIte]
    by_cases d : a < b
    · rw [if_pos (jcmp_lt.mpr d), show min a b = a by omega]
    · rw [if_neg (fun h => d (jcmp_lt.mp h)), show min a b = b by omega]
  · refine fin (max a b) ?_ (by unfold spOp; simp)
    unfold M_qJoins M_qJoins_p181; rw [hJ, ia, ib, i2]; simp only [Int.reduceEq, ↓reduceIte]
    by_cases d : b < a
    · rw [if_pos (jcmp_gt.mpr d), show max a b = a by omega]
    · rw [if_neg (fun h => d (jcmp_gt.mp h)), show max a b = b by omega]
  · refine fin (if a < b then 1 else 0) ?_ (by unfold spOp; simp)
    unfold M_qJoins M_qJoins_p200; rw [hJ, ia, ib, i2]; simp only [Int.reduceEq, ↓reduceIte]
    by_cases d : a < b
    · rw [if_pos (jcmp_lt.mpr d), if_pos d]
    · rw [if_neg (fun h => d (jcmp_lt.mp h)), if_neg d]
  · refine fin (if b < a then 1 else 0) ?_ (by unfold spOp; simp)
    unfold M_qJoins M_qJoins_p219; rw [hJ, ia, ib, i2]; simp only [Int.reduceEq, ↓reduceIte]
    by_cases d : b < a
    · rw [if_pos (jcmp_gt.mpr d), if_pos d]
    · rw [if_neg (fun h => d (jcmp_gt.mp h)), if_neg d]
  · refine fin (if a = b then 1 else 0) ?_ (by unfold spOp; simp)
    unfold M_qJoins M_qJoins_p238; rw [hJ, ia, ib, i2]; simp only [Int.reduceEq, ↓reduceIte]
    by_cases d : a = b
    · rw [if_pos (jcmp_eq.mpr d), if_pos d]
    · rw [if_neg (fun h => d (jcmp_eq.mp h)), if_neg d]
  · refine fin (a * b) ?_ (by unfold spOp; simp)
    unfold M_qJoins; rw [hJ, ia, ib, i2]; simp only [Int.reduceEq, ↓reduceIte]
    rw [pv (by omega) (by omega)]
  · refine fin (if 0 < a + b then 1 else 0) ?_ (by unfold spOp; simp)
    unfold M_qJoins M_qJoins_p270; rw [hJ, ia, ib, i2]; simp only [Int.reduceEq, ↓reduceIte]
    rw [pv (by omega) (by omega)]
    by_cases d : 0 < a + b
    · rw [if_pos (jcmp_gt.mpr d), if_pos d]
    · rw [if_neg (fun h => d (jcmp_gt.mp h)), if_neg d]
theorem m_not {h : jH} {x : Int} {r : List Int} (hx : x = 0 ∨ x = 1) (h4 : h o 105 = ((x :: r).length : Int)) (hc : CSt (h (o + 67)) (x :: r)) (hl : r.length < 1600) (i : Int) : ∃ h', (if (0 : Int) ≤ (wr ((h o 105) - 1)) ∧ ((wr ((h o 105) - 1)) : Int).toNat < 1700 then (if (0 : Int) ≤ (wr ((h o 105) - 1)) ∧ ((wr ((h o 105) - 1)) : Int).toNat < 1700 then (some (.inl (i, (jup h (o + 67) ((wr ((h o 105) - 1)) : Int).toNat (wl (1 - (h (o + 67) ((wr ((h o 105) - 1)) : Int).toNat)))))) : Option ((Int × jH) ⊕ (Int × jH))) else none) else none) = some (.inl (i, h')) ∧ MEf o h h' ∧ h' o 105 = (((1 - x) :: r).length : Int) ∧ CSt (h' (o + 67)) ((1 - x) :: r) := by
  rw [List.length_cons] at h4
  rw [h4, pw (by omega) (by omega), show (((r.length + 1 : Nat) : Int) - 1).toNat = r.length by omega, if_pos (by omega), if_pos (by omega), hc.1, pv (by omega) (by omega)]
  refine ⟨_, rfl, ⟨fun q q1 q2 => jup_ne q2, fun k hk => by rw [jup_ne (by omega)]⟩, by rw [jup_ne (by omega), h4, List.length_cons], ju_eq, ?_⟩
  exact hc.2.up (fun i hi => ju_ne (by omega))
/-- what stands while a formula is told -/
def MEi (o : Nat) (I : jH → Prop) (al : Int → Bool) (e : spEnv) (j : Int) : Prop :=
  (∀ g g', I g → MEf o g g' → I g') ∧ (∀ g (k : Nat), I g → k ≤ 8 → al (40 + (k : Int)) = true → ∃ g', M_qPartOf g o (k : Int) j = some (e.1 k, g') ∧ I g' ∧ g' (o + 67) = g (o + 67) ∧ g' o 105 = g o 105) ∧ (∀ g x, I g → -1000000 ≤ x ∧ x ≤ 1000000 → al 60 = true → M_qOf g o 0 x j = some (e.2.1 x)) ∧ ∀ g x, I g → -1000000 ≤ x ∧ x ≤ 1000000 → al 61 = true → M_qOf g o 1 x j = some (e.2.2 x)
theorem spStk2 {b1 b2 : Bool} {r : List Bool} {st : List Int} (hv : spVals (b1 :: b2 :: r) st) : ∃ b a s, st = b :: a :: s ∧ spVal b1 b ∧ spVal b2 a ∧ spVals r s := by
  match st, hv with
  | [], hv => exact hv.elim
  | [x], hv => exact hv.2.elim
  | b :: a :: s, hv => exact ⟨b, a, s, rfl, hv.1, hv.2.1, hv.2.2⟩
theorem spVal_bd {b : Bool} {x : Int} (h : spVal b x) : -1000000 ≤ x ∧ x ≤ 1000000 := by unfold spVal at h; split at h <;> omega
theorem spTy_join {al : Int → Bool} {c : Int} {t t' : List Bool} {st : List Int} (h : spTy al c t = some t') (hv : spVals t st) (h1 : ¬ 40 ≤ c) (h2 : c ≠ 13) (h3 : c ≠ 12) : 1 ≤ c ∧ c ≤ 11 ∧ ∃ b a s, st = b :: a :: s ∧ (-1000000 ≤ a ∧ a ≤ 1000000) ∧ (-1000000 ≤ b ∧ b ≤ 1000000) := by
  unfold spTy at h
  rw [if_neg (by omega), if_neg (by omega), if_neg h1, if_neg h2, if_neg h3] at h
  split at h
  · split at h
    · obtain ⟨b, a, s, rfl, v1, v2, v3⟩ := spStk2 hv
      exact ⟨by omega, by omega, b, a, s, rfl, spVal_bd v2, spVal_bd v1⟩
    · cases h
  · split at h
    · split at h
      · obtain ⟨b, a, s, rfl, v1, v2, v3⟩ := spStk2 hv
        exact ⟨by omega, by omega, b, a, s, rfl, spVal_bd v2, spVal_bd v1⟩
      · cases h
    · split at h
      · split at h
        · obtain ⟨b, a, s, rfl, v1, v2, v3⟩ := spStk2 hv
          exact ⟨by omega, by omega, b, a, s, rfl, spVal_bd v2, spVal_bd v1⟩
        · cases h
      · cases h
/-- a group's formula: one code -/
theorem m_tellStep {h : jH} {I : jH → Prop} {al : Int → Bool} {e : spEnv} {which en : Int} {w k : Nat} {c : Int} {t t' : List Bool} {st : List Int} (hI : MEi o I al e 0) (h0 : I h) (hw : which = (w : Int)) (hw2 : w < 2) (hen : h (o + 31) (2 + w) = en) (hk : (k : Int) < en) (hk2 : k < 1600) (hcode : h (o + 32) (1600 + k) = c) (hal : al 60 = false ∧ al 61 = false) (ht : spTy al c t = some t') (hv : spVals t st) (hlt : t.length ≤ 64) (h4 : h o 105 = (st.length : Int)) (hc : CSt (h (o + 67)) st) :
    ∃ h', M_codesTell_B19 h o which (k : Int) = some (.inl (((k + 1 : Nat) : Int), h')) ∧ I h' ∧ h' o 105 = ((spStp e c st).length : Int) ∧ CSt (h' (o + 67)) (spStp e c st) := by
  subst hw
  have hlen := spVals_len hv
  have put : ∀ (g : jH) (s : List Int) (v : Int), I g → g o 105 = (s.length : Int) → CSt (g (o + 67)) s → s.length < 1700 → ∃ h', Option.bind (M_qPuts g o v) (fun b4 => (some (.inl (((k + 1 : Nat) : Int), b4)) : Option ((Int × jH) ⊕ (Int × jH)))) = some (.inl (((k + 1 : Nat) : Int), h')) ∧ I h' ∧ h' o 105 = ((v :: s).length : Int) ∧ CSt (h' (o + 67)) (v :: s) := by
    intro g s v g0 g1 g2 g3
    obtain ⟨h', e1, e2, e3, e4⟩ := m_puts (v := v) g1 g2 g3
    exact ⟨h', by rw [e1]; rfl, hI.1 g h' g0 e2, e3, e4⟩
  unfold M_codesTell_B19
  rw [pw (x := 2 + (w : Int)) (by omega) (by omega), if_pos (by omega), show (2 + (w : Int)).toNat = 2 + w by omega, hen, if_pos hk, pw (x := 1600 + (k : Int)) (by omega) (by omega), if_pos (by omega), show (1600 + (k : Int)).toNat = 1600 + k by omega, hcode, pw (x := (k : Int) + 1) (by omega) (by omega), show (k : Int) + 1 = ((k + 1 : Nat) : Int) by omega]
  have ht0 := ht
  unfold spTy at ht
  unfold spStp
  by_cases c1 : 1000 ≤ c
  · rw [if_pos c1] at ht ⊢
    split at ht
    · rename_i c2
      rw [if_neg (by omega), pw (by omega) (by omega)]
      exact put h st _ h0 h4 hc (by omega)
    · cases ht
  rw [if_neg c1] at ht ⊢
  by_cases c2 : 60 ≤ c
  · rw [if_pos c2] at ht
    split at ht
    · rename_i ca
      have : c = 60 ∨ c = 61 := by omega
      rcases this with h | h <;> subst h
      · rw [hal.1] at ca; cases ca.2
      · rw [hal.2] at ca; cases ca.2
    · cases ht
  rw [if_neg c2] at ht ⊢
  by_cases c3 : 40 ≤ c
  · rw [if_pos c3] at ht ⊢
    split at ht
    · rename_i ca
      obtain ⟨kk, hkk⟩ : ∃ kk : Nat, c = 40 + (kk : Int) := ⟨(c - 40).toNat, by omega⟩
      obtain ⟨g, p1, p2, p3, p4⟩ := hI.2.1 h kk h0 (by omega) (by rw [← hkk]; exact ca.2.1)
      rw [if_pos (by omega), if_neg (by omega), pw (by omega) (by omega), show c - 40 = (kk : Int) by omega, p1]
      simp only [Option.bind_some]
      exact put g st _ p2 (by rw [p4]; exact h4) (by rw [p3]; exact hc) (by omega)
    · cases ht
  rw [if_neg c3] at ht ⊢
  by_cases c4 : c = 13
  · subst c4
    rw [if_pos (by decide), if_pos (by decide), if_pos rfl, if_pos rfl]
    exact put h st _ h0 h4 hc (by omega)
  rw [if_neg c4] at ht ⊢
  by_cases c5 : c = 12
  · subst c5
    rw [if_pos rfl] at ht ⊢
    split at ht
    · cases st with
      | nil => exact hv.elim
      | cons x r =>
        have hx := hv.1
        unfold spVal at hx
        rw [if_pos rfl] at hx
        rw [if_pos (by decide), if_pos (by decide), if_neg (show ¬ (12 : Int) = 13 by decide), if_pos (show (12 : Int) = 12 from rfl)]
        obtain ⟨h', e1, e2, e3, e4⟩ := m_not (o := o) hx h4 hc (by rw [List.length_cons, List.length_cons] at hlen; rw [List.length_cons] at hlt; omega) ((k + 1 : Nat) : Int)
        exact ⟨h', e1, hI.1 h h' h0 e2, e3, e4⟩
    · cases ht
  rw [if_neg c5] at ht ⊢
  obtain ⟨j1, j2, b, a, s, rfl, j3, j4⟩ := spTy_join ht0 hv c3 c4 c5
  rw [if_pos (by omega), if_pos (by omega), if_neg c4, if_neg c5]
  obtain ⟨h', e1, e2, e3, e4⟩ := m_join (o := o) ⟨j1, j2⟩ j3 j4 h4 hc (by rw [List.length_cons, List.length_cons] at hlen; omega)
  rw [e1]
  exact ⟨h', rfl, hI.1 h h' h0 e2, e3, e4⟩
/-- a question's formula: one code -/
theorem m_toldStep {h : jH} {I : jH → Prop} {al : Int → Bool} {e : spEnv} {j : Int} {k n : Nat} {c : Int} {t t' : List Bool} {st : List Int} (hI : MEi o I al e j) (h0 : I h) (hen : h o 99 = (n : Int)) (hk : k < n) (hk2 : k < 1700) (hcode : h (o + 65) k = c) (ht : spTy al c t = some t') (hv : spVals t st) (hlt : t.length ≤ 64) (he : spEok e) (h4 : h o 105 = (st.length : Int)) (hc : CSt (h (o + 67)) st) :
    ∃ h', M_qTold_B7 h o j (k : Int) = some (.inl (((k + 1 : Nat) : Int), h')) ∧ I h' ∧ h' o 105 = ((spStp e c st).length : Int) ∧ CSt (h' (o + 67)) (spStp e c st) := by
  have hlen := spVals_len hv
  have put : ∀ (g : jH) (s : List Int) (v : Int), I g → g o 105 = (s.length : Int) → CSt (g (o + 67)) s → s.length < 1700 → ∃ h', Option.bind (M_qPuts g o v) (fun b4 => (some (.inl (((k + 1 : Nat) : Int), b4)) : Option ((Int × jH) ⊕ (Int × jH)))) = some (.inl (((k + 1 : Nat) : Int), h')) ∧ I h' ∧ h' o 105 = ((v :: s).length : Int) ∧ CSt (h' (o + 67)) (v :: s) := by
    intro g s v g0 g1 g2 g3
    obtain ⟨h', e1, e2, e3, e4⟩ := m_puts (v := v) g1 g2 g3
    exact ⟨h', by rw [e1]; rfl, hI.1 g h' g0 e2, e3, e4⟩
  unfold M_qTold_B7
  rw [hen, if_pos (by omega), if_pos (by omega), Int.toNat_natCast, hcode, pw (x := (k : Int) + 1) (by omega) (by omega), show (k : Int) + 1 = ((k + 1 : Nat) : Int) by omega]
  have ht0 := ht
  unfold spTy at ht
  unfold spStp
  by_cases c1 : 1000 ≤ c
  · rw [if_pos c1] at ht ⊢
    split at ht
    · rename_i c2
      rw [if_neg (by omega), pw (by omega) (by omega)]
      exact put h st _ h0 h4 hc (by omega)
    · cases ht
  rw [if_neg c1] at ht ⊢
  by_cases c2 : 60 ≤ c
  · rw [if_pos c2] at ht ⊢
    split at ht
    · rename_i ca
      split at ht
      · cases st with
        | nil => exact hv.elim
        | cons x r =>
          have hx := hv.1
          unfold spVal at hx
          rw [if_neg (by decide)] at hx
          rw [List.length_cons] at h4
          rw [List.length_cons, List.length_cons] at hlen
          rw [List.length_cons] at hlt
          have hof : M_qOf h o (c - 60) x j = some (if c = 60 then e.2.1 x else e.2.2 x) := by
            have : c = 60 ∨ c = 61 := by omega
            rcases this with h | h <;> subst h
            · exact hI.2.2.1 _ x h0 hx ca.2
            · exact hI.2.2.2 _ x h0 hx ca.2
          have hr : -1000000 ≤ (if c = 60 then e.2.1 x else e.2.2 x) ∧ (if c = 60 then e.2.1 x else e.2.2 x) ≤ 1000000 := by split; exact he.2.1 x; exact he.2.2 x
          rw [if_pos (by omega), if_neg (by omega), h4, pw (x := ((r.length + 1 : Nat) : Int) - 1) (by omega) (by omega), show (((r.length + 1 : Nat) : Int) - 1).toNat = r.length by omega, if_pos (by omega), hc.1, pw (x := c - 60) (by omega) (by omega), hof]
          simp only [Option.bind_some]
          rw [m_clip, spClip_id hr]
          simp only [Option.bind_some]
          rw [if_pos (by omega)]
          refine ⟨_, rfl, hI.1 h _ h0 ⟨fun q q1 q2 => jup_ne q2, fun f hf => by rw [jup_ne (by omega)]⟩, by rw [jup_ne (by omega), h4, List.length_cons], ju_eq, ?_⟩
          exact hc.2.up (fun i hi => ju_ne (by omega))
      · cases ht
    · cases ht
  rw [if_neg c2] at ht ⊢
  by_cases c3 : 40 ≤ c
  · rw [if_pos c3] at ht ⊢
    split at ht
    · rename_i ca
      obtain ⟨kk, hkk⟩ : ∃ kk : Nat, c = 40 + (kk : Int) := ⟨(c - 40).toNat, by omega⟩
      obtain ⟨g, p1, p2, p3, p4⟩ := hI.2.1 h kk h0 (by omega) (by rw [← hkk]; exact ca.2.1)
      rw [if_pos (by omega), if_pos (by omega), if_neg (by omega), pw (by omega) (by omega), show c - 40 = (kk : Int) by omega, p1]
      simp only [Option.bind_some]
      rw [m_clip, spClip_id (he.1 kk)]
      simp only [Option.bind_some]
      exact put g st _ p2 (by rw [p4]; exact h4) (by rw [p3]; exact hc) (by omega)
    · cases ht
  rw [if_neg c3] at ht ⊢
  by_cases c4 : c = 13
  · subst c4
    rw [if_pos (by decide), if_pos (by decide), if_pos (by decide), if_pos rfl, if_pos rfl]
    exact put h st _ h0 h4 hc (by omega)
  rw [if_neg c4] at ht ⊢
  by_cases c5 : c = 12
  · subst c5
    rw [if_pos rfl] at ht ⊢
    split at ht
    · cases st with
      | nil => exact hv.elim
      | cons x r =>
        have hx := hv.1
        unfold spVal at hx
        rw [if_pos rfl] at hx
        rw [if_pos (by decide), if_pos (by decide), if_pos (by decide), if_neg (show ¬ (12 : Int) = 13 by decide), if_pos (show (12 : Int) = 12 from rfl)]
        obtain ⟨h', e1, e2, e3, e4⟩ := m_not (o := o) hx h4 hc (by rw [List.length_cons, List.length_cons] at hlen; rw [List.length_cons] at hlt; omega) ((k + 1 : Nat) : Int)
        exact ⟨h', e1, hI.1 h h' h0 e2, e3, e4⟩
    · cases ht
  rw [if_neg c5] at ht ⊢
  obtain ⟨j1, j2, b, a, s, rfl, j3, j4⟩ := spTy_join ht0 hv c3 c4 c5
  rw [if_pos (by omega), if_pos (by omega), if_pos (by omega), if_neg c4, if_neg c5]
  obtain ⟨h', e1, e2, e3, e4⟩ := m_join (o := o) ⟨j1, j2⟩ j3 j4 h4 hc (by rw [List.length_cons, List.length_cons] at hlen; omega)
  rw [e1]
  exact ⟨h', rfl, hI.1 h h' h0 e2, e3, e4⟩
theorem m_tellL {I : jH → Prop} {al : Int → Bool} {e : spEnv} {b : Bool} {which : Int} {w from0 : Nat} {cs : List Int} (hI : MEi o I al e 0) (he : spEok e) (hal : al 60 = false ∧ al 61 = false) (hw : which = (w : Int)) (hw2 : w < 2) (hfr : from0 + cs.length ≤ 1600) (hcd : ∀ g, I g → g (o + 31) (2 + w) = ((from0 + cs.length : Nat) : Int) ∧ ∀ (i : Nat) (c : Int), cs[i]? = some c → g (o + 32) (1600 + (from0 + i)) = c) : ∀ (m i : Nat) (h : jH) (t : List Bool) (st : List Int), i + m = cs.length → I h → spTys al (cs.drop i) t = some [b] → spVals t st → t.length ≤ 64 → h o 105 = (st.length : Int) → CSt (h (o + 67)) st →
    ∃ v h', M_codesTell_L19 h o which ((from0 + i : Nat) : Int) = some (v, h') ∧ spRun e (cs.drop i) st = [v] ∧ I h' ∧ spVal b v := by
  unfold M_codesTell_L19
  intro m
  induction m with
  | zero =>
    intro i h t st hi h0 ht hv hlt h4 hc
    rw [List.drop_of_length_le (by omega)] at ht ⊢
    have ht2 : t = [b] := Option.some.inj ht
    subst ht2
    match st, hv with
    | [], hv => exact hv.elim
    | _ :: _ :: _, hv => exact hv.2.elim
    | [v], hv =>
      refine ⟨v, h, jloop_r ?_, rfl, h0, hv.1⟩
      show M_codesTell_B19 h o which ((from0 + i : Nat) : Int) = _
      subst hw
      unfold M_codesTell_B19
      rw [pw (x := 2 + (w : Int)) (by omega) (by omega), if_pos (by omega), show (2 + (w : Int)).toNat = 2 + w by omega, (hcd h h0).1, if_neg (by omega), if_pos (by decide)]
      have : h (o + 67) 0 = v := hc.1
      rw [show ((0 : Int)).toNat = 0 from rfl, this]
      rfl
  | succ m ih =>
    intro i h t st hi h0 ht hv hlt h4 hc
    have hlt2 : i < cs.length := by omega
    rw [List.drop_eq_getElem_cons hlt2] at ht ⊢
    unfold spTys at ht
    split at ht
    · cases ht
    · rename_i t' ht'
      obtain ⟨h1, e1, e2, e3, e4⟩ := m_tellStep (k := from0 + i) hI h0 hw hw2 (hcd h h0).1 (by omega) (by omega) ((hcd h h0).2 i _ (List.getElem?_eq_getElem hlt2)) hal ht' hv hlt h4 hc
      obtain ⟨v, h', w1, w2, w3, w4⟩ := ih (i + 1) h1 t' _ (by omega) e2 ht (spStp_ok ht' hv he) (spTys_len ht' hlt) e3 e4
      exact ⟨v, h', (jloop_l e1).trans w1, w2, w3, w4⟩
theorem m_toldL {I : jH → Prop} {al : Int → Bool} {e : spEnv} {b : Bool} {j : Int} {cs : List Int} (hI : MEi o I al e j) (he : spEok e) (hfr : cs.length ≤ 1600) (hcd : ∀ g, I g → g o 99 = (cs.length : Int) ∧ ∀ (i : Nat) (c : Int), cs[i]? = some c → g (o + 65) i = c) : ∀ (m i : Nat) (h : jH) (t : List Bool) (st : List Int), i + m = cs.length → I h → spTys al (cs.drop i) t = some [b] → spVals t st → t.length ≤ 64 → h o 105 = (st.length : Int) → CSt (h (o + 67)) st →
    ∃ v h', M_qTold_L7 h o j (i : Int) = some (v, h') ∧ spRun e (cs.drop i) st = [v] ∧ I h' ∧ spVal b v := by
  unfold M_qTold_L7
  intro m
  induction m with
  | zero =>
    intro i h t st hi h0 ht hv hlt h4 hc
    rw [List.drop_of_length_le (by omega)] at ht ⊢
    have ht2 : t = [b] := Option.some.inj ht
    subst ht2
    match st, hv with
    | [], hv => exact hv.elim
    | _ :: _ :: _, hv => exact hv.2.elim
    | [v], hv =>
      refine ⟨v, h, jloop_r ?_, rfl, h0, hv.1⟩
      show M_qTold_B7 h o j (i : Int) = _
      unfold M_qTold_B7
      rw [(hcd h h0).1, if_neg (by omega), if_pos (by decide)]
      have : h (o + 67) 0 = v := hc.1
      rw [show ((0 : Int)).toNat = 0 from rfl, this]
      rfl
  | succ m ih =>
    intro i h t st hi h0 ht hv hlt h4 hc
    have hlt2 : i < cs.length := by omega
    rw [List.drop_eq_getElem_cons hlt2] at ht ⊢
    unfold spTys at ht
    split at ht
    · cases ht
    · rename_i t' ht'
      obtain ⟨h1, e1, e2, e3, e4⟩ := m_toldStep (k := i) hI h0 (hcd h h0).1 hlt2 (by omega) ((hcd h h0).2 i _ (List.getElem?_eq_getElem hlt2)) ht' hv hlt he h4 hc
      obtain ⟨v, h', w1, w2, w3, w4⟩ := ih (i + 1) h1 t' _ (by omega) e2 ht (spStp_ok ht' hv he) (spTys_len ht' hlt) e3 e4
      exact ⟨v, h', (jloop_l e1).trans w1, w2, w3, w4⟩
end EVM
