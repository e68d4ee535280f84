/-! the reference reads products, sums, parts: as the spec does -/
section MSU
variable {o : Nat} {tp : List Int} {md k op bs : Nat} {g was : Int} {W C : List Int}
theorem mProdL {P : spF} (hP : mRd o tp md bs was op P) (hG : spGr tp P) (hbs : bs ≤ W.length) (hW : W.head? ≠ some 3 ∧ W.head? ≠ some 4) : ∀ (f : Nat) (k : Nat) (g : Int) (m C : List Int) (h : jH), tp.length ≤ k + f → (∀ x ∈ m, x = 3 ∨ x = 4) → MK h o tp md k g op bs (m ++ W) C → (∀ e, spProdL tp P f k g = .inl e → mBd o h (mFG o was h) e) ∧ ∀ k2 g2 K, spProdL tp P f k g = .inr (k2, g2, K) → ∃ h' m' C', mFG o was h = mFG o was h' ∧ MKg o h h' ∧ MK h' o tp md k2 g2 op bs (m' ++ W) C' ∧ (∀ x ∈ m', x = 3 ∨ x = 4) ∧ C' ++ m' = C ++ m ++ K ∧ spTx tp k2 ≠ 42 ∧ spTx tp k2 ≠ 47 := by
  intro f
  induction f with
  | zero =>
    intro k g m C h hf hm hs
    have hno := spTx_no (tp := tp) (k := k) hf
    refine ⟨fun e he => (by cases he), fun k2 g2 K he => ?_⟩
    cases he
    exact ⟨h, m, C, rfl, MKg.rf, hs, hm, by rw [List.append_nil], by rw [hno]; decide, by rw [hno]; decide⟩
  | succ f ih =>
    intro k g m C h hf hm hs
    unfold spProdL
    by_cases c : spTx tp k = 42 ∨ spTx tp k = 47
    rotate_left
    · rw [if_neg c]
      refine ⟨fun e he => (by cases he), fun k2 g2 K he => ?_⟩
      cases he
      exact ⟨h, m, C, rfl, MKg.rf, hs, hm, by rw [List.append_nil], fun e => c (Or.inl e), fun e => c (Or.inr e)⟩
    rw [if_pos c]
    obtain ⟨h1, a1, a2, a3⟩ := k_mul hs c
    have hbd := hs.2.2.2.2.2.2
    have hpk := (spPk_in (tp := tp) (k + 1)).1
    obtain ⟨v, hv⟩ : ∃ v : Int, v = (if spTx tp k = 42 then 3 else 4) := ⟨_, rfl⟩
    rw [← hv] at a1 ⊢
    have hv34 : v = 3 ∨ v = 4 := by rw [hv]; split; exact Or.inl rfl; exact Or.inr rfl
    obtain ⟨h2, b1, b2, b3⟩ := k_162 (v := v) hW m C h1 hm a3 (by omega)
    have hF2 : mFG o was h = mFT o was h2 := mFG_on (a1.trans b1) b3.1.2.2.2
    have f2 : MKg o h h2 := a2.k.tr b2
    obtain ⟨p1, p2⟩ := hP h2 _ _ _ _ (by rw [List.length_cons]; omega) b3
    rw [hF2]
    cases hp : P (spPk tp (k + 1)) g with
    | inl e0 =>
      refine ⟨fun e he => ?_, fun k2 g2 K he => (by cases he)⟩
      cases he
      exact mBd.tr f2 (p1 e0 hp)
    | inr x =>
      obtain ⟨k1, g1, K1⟩ := x
      obtain ⟨h3, q1, q2, q3⟩ := p2 k1 g1 K1 hp
      have hgr := hG _ _ _ _ _ hp
      rw [q1, mFE_G (Or.inr ⟨v, W, rfl, by omega, hbs⟩) q3]
      obtain ⟨i1, i2⟩ := ih k1 g1 [v] _ h3 (by omega) (fun x hx => by rw [List.mem_singleton.mp hx]; exact hv34) q3
      show (∀ e, (match spProdL tp P f k1 g1 with | .inl e => (.inl e : spR) | .inr (k2, g2, K2) => .inr (k2, g2, (K1 ++ [v]) ++ K2)) = .inl e → _) ∧ ∀ k2 g2 K, (match spProdL tp P f k1 g1 with | .inl e => (.inl e : spR) | .inr (k2, g2, K2) => .inr (k2, g2, (K1 ++ [v]) ++ K2)) = .inr (k2, g2, K) → _
      cases hl : spProdL tp P f k1 g1 with
      | inl e0 =>
        refine ⟨fun e he => ?_, fun k2 g2 K he => (by cases he)⟩
        cases he
        exact mBd.tr (f2.tr q2) (i1 e0 hl)
      | inr y =>
        obtain ⟨k2', g2', K2⟩ := y
        refine ⟨fun e he => (by cases he), fun k2 g2 K he => ?_⟩
        cases he
        obtain ⟨h4, m', C', r1, r2, r3, r4, r5, r6⟩ := i2 k2' g2' K2 hl
        exact ⟨h4, m', C', r1, f2.tr (q2.tr r2), r3, r4, by rw [r5]; simp only [List.append_assoc], r6⟩
/-- a product: the sign before it waits -/
theorem mProd {P : spF} (hP : mRd o tp md bs was op P) (hG : spGr tp P) (hbs : bs ≤ W.length) (hw : W.length = bs ∨ ∃ w W', W = w :: W' ∧ w < 60 ∧ bs ≤ W'.length) (hW : W.head? ≠ some 3 ∧ W.head? ≠ some 4) {h : jH} (hs : MK h o tp md k g op bs W C) : (∀ e, spProd tp P k g = .inl e → mBd o h (mFT o was h) e) ∧ ∀ k2 g2 K, spProd tp P k g = .inr (k2, g2, K) → ∃ h' m' C', mFT o was h = mFG o was h' ∧ MKg o h h' ∧ MK h' o tp md k2 g2 op bs (m' ++ W) C' ∧ (∀ x ∈ m', x = 3 ∨ x = 4) ∧ C' ++ m' = C ++ K ∧ spTx tp k2 ≠ 42 ∧ spTx tp k2 ≠ 47 := by
  obtain ⟨p1, p2⟩ := hP h _ _ _ _ hbs hs
  have hl := hs.1.le
  unfold spProd
  cases hp : P k g with
  | inl e0 =>
    refine ⟨fun e he => ?_, fun k2 g2 K he => (by cases he)⟩
    cases he
    exact p1 e0 hp
  | inr x =>
    obtain ⟨k1, g1, K1⟩ := x
    obtain ⟨h3, q1, q2, q3⟩ := p2 k1 g1 K1 hp
    rw [q1, mFE_G hw q3]
    obtain ⟨i1, i2⟩ := mProdL hP hG hbs hW 1600 k1 g1 [] _ h3 (by omega) (fun x hx => absurd hx List.not_mem_nil) q3
    show (∀ e, (match spProdL tp P 1600 k1 g1 with | .inl e => (.inl e : spR) | .inr (k2, g2, K2) => .inr (k2, g2, K1 ++ K2)) = .inl e → _) ∧ ∀ k2 g2 K, (match spProdL tp P 1600 k1 g1 with | .inl e => (.inl e : spR) | .inr (k2, g2, K2) => .inr (k2, g2, K1 ++ K2)) = .inr (k2, g2, K) → _
    cases hl : spProdL tp P 1600 k1 g1 with
    | inl e0 =>
      refine ⟨fun e he => ?_, fun k2 g2 K he => (by cases he)⟩
      cases he
      exact mBd.tr q2 (i1 e0 hl)
    | inr y =>
      obtain ⟨k2', g2', K2⟩ := y
      refine ⟨fun e he => (by cases he), fun k2 g2 K he => ?_⟩
      cases he
      obtain ⟨h4, m', C', r1, r2, r3, r4, r5, r6⟩ := i2 k2' g2' K2 hl
      exact ⟨h4, m', C', r1, q2.tr r2, r3, r4, by rw [r5]; simp only [List.append_assoc, List.nil_append], r6⟩
theorem mSumL {P : spF} (hP : mRd o tp md bs was op P) (hG : spGr tp P) (hbs : bs ≤ W.length) (hW : W.head? ≠ some 3 ∧ W.head? ≠ some 4 ∧ W.head? ≠ some 1 ∧ W.head? ≠ some 2) : ∀ (f : Nat) (k : Nat) (g : Int) (m C : List Int) (h : jH), tp.length ≤ k + f → (∀ x ∈ m, x = 3 ∨ x = 4 ∨ x = 1 ∨ x = 2) → spTx tp k ≠ 42 → spTx tp k ≠ 47 → MK h o tp md k g op bs (m ++ W) C → (∀ e, spSumL tp P f k g = .inl e → mBd o h (mFG o was h) e) ∧ ∀ k2 g2 K, spSumL tp P f k g = .inr (k2, g2, K) → ∃ h' m' C', mFG o was h = mFG o was h' ∧ MKg o h h' ∧ MK h' o tp md k2 g2 op bs (m' ++ W) C' ∧ (∀ x ∈ m', x = 3 ∨ x = 4 ∨ x = 1 ∨ x = 2) ∧ C' ++ m' = C ++ m ++ K ∧ spTx tp k2 ≠ 42 ∧ spTx tp k2 ≠ 47 ∧ spTx tp k2 ≠ 43 ∧ spTx tp k2 ≠ 45 := by
  intro f
  induction f with
  | zero =>
    intro k g m C h hf hm n1 n2 hs
    have hno := spTx_no (tp := tp) (k := k) hf
    refine ⟨fun e he => (by cases he), fun k2 g2 K he => ?_⟩
    cases he
    exact ⟨h, m, C, rfl, MKg.rf, hs, hm, by rw [List.append_nil], n1, n2, by rw [hno]; decide, by rw [hno]; decide⟩
  | succ f ih =>
    intro k g m C h hf hm n1 n2 hs
    unfold spSumL
    by_cases c : spTx tp k = 43 ∨ spTx tp k = 45
    rotate_left
    · rw [if_neg c]
      refine ⟨fun e he => (by cases he), fun k2 g2 K he => ?_⟩
      cases he
      exact ⟨h, m, C, rfl, MKg.rf, hs, hm, by rw [List.append_nil], n1, n2, fun e => c (Or.inl e), fun e => c (Or.inr e)⟩
    rw [if_pos c]
    obtain ⟨h1, a1, a2, a3⟩ := k_add hs c
    have hbd := hs.2.2.2.2.2.2
    have hpk := (spPk_in (tp := tp) (k + 1)).1
    obtain ⟨v, hv⟩ : ∃ v : Int, v = (if spTx tp k = 43 then 1 else 2) := ⟨_, rfl⟩
    rw [← hv] at a1 ⊢
    have hv12 : v = 1 ∨ v = 2 := by rw [hv]; split; exact Or.inl rfl; exact Or.inr rfl
    obtain ⟨h2, b1, b2, b3⟩ := k_247 (v := v) hW m C h1 hm a3 (by omega)
    have hF2 : mFG o was h = mFT o was h2 := mFG_on (a1.trans b1) b3.1.2.2.2
    have f2 : MKg o h h2 := a2.k.tr b2
    have hne : ∀ c : Int, v ≠ c → (v :: W).head? ≠ some c := fun c hc h => hc (Option.some.inj h)
    obtain ⟨p1, p2⟩ := mProd hP hG (W := v :: W) (by rw [List.length_cons]; omega) (Or.inr ⟨v, W, rfl, by omega, hbs⟩) ⟨hne 3 (by omega), hne 4 (by omega)⟩ b3
    rw [hF2]
    cases hp : spProd tp P (spPk tp (k + 1)) g with
    | inl e0 =>
      refine ⟨fun e he => ?_, fun k2 g2 K he => (by cases he)⟩
      cases he
      exact mBd.tr f2 (p1 e0 hp)
    | inr x =>
      obtain ⟨k1, g1, K1⟩ := x
      obtain ⟨h3, m1, C1, q1, q2, q3, q4, q5, q6, q7⟩ := p2 k1 g1 K1 hp
      have hgr := spProd_gr hG _ _ _ _ _ hp
      rw [q1]
      have q3' : MK h3 o tp md k1 g1 op bs ((m1 ++ [v]) ++ W) C1 := by rw [List.append_assoc]; exact q3
      obtain ⟨i1, i2⟩ := ih k1 g1 (m1 ++ [v]) C1 h3 (by omega) (fun x hx => by
        rcases List.mem_append.mp hx with hx | hx
        · rcases q4 x hx with e | e
          · exact Or.inl e
          · exact Or.inr (Or.inl e)
        · rw [List.mem_singleton.mp hx]; exact Or.inr (Or.inr hv12)) q6 q7 q3'
      show (∀ e, (match spSumL tp P f k1 g1 with | .inl e => (.inl e : spR) | .inr (k2, g2, K2) => .inr (k2, g2, (K1 ++ [v]) ++ K2)) = .inl e → _) ∧ ∀ k2 g2 K, (match spSumL tp P f k1 g1 with | .inl e => (.inl e : spR) | .inr (k2, g2, K2) => .inr (k2, g2, (K1 ++ [v]) ++ K2)) = .inr (k2, g2, K) → _
      cases hl : spSumL tp P f k1 g1 with
      | inl e0 =>
        refine ⟨fun e he => ?_, fun k2 g2 K he => (by cases he)⟩
        cases he
        exact mBd.tr (f2.tr q2) (i1 e0 hl)
      | inr y =>
        obtain ⟨k2', g2', K2⟩ := y
        refine ⟨fun e he => (by cases he), fun k2 g2 K he => ?_⟩
        cases he
        obtain ⟨h4, m', C', r1, r2, r3, r4, r5, r6⟩ := i2 k2' g2' K2 hl
        exact ⟨h4, m', C', r1, f2.tr (q2.tr r2), r3, r4, by rw [r5, ← List.append_assoc C1, q5]; simp only [List.append_assoc], r6⟩
/-- a sum: what is left stands on top -/
theorem mSms {P : spF} (hP : mRd o tp md bs was op P) (hG : spGr tp P) (hbs : bs ≤ W.length) (hw : W.length = bs ∨ ∃ w W', W = w :: W' ∧ w < 60 ∧ bs ≤ W'.length) (hW : W.head? ≠ some 3 ∧ W.head? ≠ some 4 ∧ W.head? ≠ some 1 ∧ W.head? ≠ some 2) {h : jH} (hs : MK h o tp md k g op bs W C) : (∀ e, spSms tp P k g = .inl e → mBd o h (mFT o was h) e) ∧ ∀ k2 g2 K, spSms tp P k g = .inr (k2, g2, K) → ∃ h' m' C', mFT o was h = mFG o was h' ∧ MKg o h h' ∧ MK h' o tp md k2 g2 op bs (m' ++ W) C' ∧ (∀ x ∈ m', x = 3 ∨ x = 4 ∨ x = 1 ∨ x = 2) ∧ C' ++ m' = C ++ K ∧ spTx tp k2 ≠ 42 ∧ spTx tp k2 ≠ 47 ∧ spTx tp k2 ≠ 43 ∧ spTx tp k2 ≠ 45 := by
  obtain ⟨p1, p2⟩ := mProd hP hG hbs hw ⟨hW.1, hW.2.1⟩ hs
  have hl := hs.1.le
  unfold spSms
  cases hp : spProd tp P k g with
  | inl e0 =>
    refine ⟨fun e he => ?_, fun k2 g2 K he => (by cases he)⟩
    cases he
    exact p1 e0 hp
  | inr x =>
    obtain ⟨k1, g1, K1⟩ := x
    obtain ⟨h3, m1, C1, q1, q2, q3, q4, q5, q6, q7⟩ := p2 k1 g1 K1 hp
    rw [q1]
    obtain ⟨i1, i2⟩ := mSumL hP hG hbs hW 1600 k1 g1 m1 C1 h3 (by omega) (fun x hx => by
      rcases q4 x hx with e | e
      · exact Or.inl e
      · exact Or.inr (Or.inl e)) q6 q7 q3
    show (∀ e, (match spSumL tp P 1600 k1 g1 with | .inl e => (.inl e : spR) | .inr (k2, g2, K2) => .inr (k2, g2, K1 ++ K2)) = .inl e → _) ∧ ∀ k2 g2 K, (match spSumL tp P 1600 k1 g1 with | .inl e => (.inl e : spR) | .inr (k2, g2, K2) => .inr (k2, g2, K1 ++ K2)) = .inr (k2, g2, K) → _
    cases hl : spSumL tp P 1600 k1 g1 with
    | inl e0 =>
      refine ⟨fun e he => ?_, fun k2 g2 K he => (by cases he)⟩
      cases he
      exact mBd.tr q2 (i1 e0 hl)
    | inr y =>
      obtain ⟨k2', g2', K2⟩ := y
      refine ⟨fun e he => (by cases he), fun k2 g2 K he => ?_⟩
      cases he
      obtain ⟨h4, m', C', r1, r2, r3, r4, r5, r6⟩ := i2 k2' g2' K2 hl
      exact ⟨h4, m', C', r1, q2.tr r2, r3, r4, by rw [r5, q5]; simp only [List.append_assoc], r6⟩
theorem notB {m : List Int} (hm : ∀ x ∈ m, x = 3 ∨ x = 4 ∨ x = 1 ∨ x = 2) : ∀ x ∈ m, spIsB x = false := fun x hx => by
  rcases hm x hx with e | e | e | e <;> rw [e] <;> decide
/-- a sum behind an open bracket, and the bracket closes -/
theorem mClosed {P : spF} (hop : op ≤ 5) (hP : mRd o tp md bs was (op + 1) P) (hG : spGr tp P) (hbs : bs ≤ W.length) {b : Int} (hb : b = 20 ∨ b = 23 ∨ b = 24) {h : jH} (hs : MK h o tp md k g (op + 1) bs (b :: W) C) : (∀ e, spSign tp 41 (spSms tp P k g) = .inl e → mBd o h (mFT o was h) e) ∧ ∀ k2 g2 K, spSign tp 41 (spSms tp P k g) = .inr (k2, g2, K) → ∃ h', mFT o was h = mFE o was h' ∧ MKg o h h' ∧ MK h' o tp md k2 g2 op bs W (C ++ (K ++ (if b = 20 then [] else if b = 23 then [5] else [6]))) := by
  have hne : ∀ c : Int, b ≠ c → (b :: W).head? ≠ some c := fun c hc h => hc (Option.some.inj h)
  have hbB : spIsB b = true := by rcases hb with e | e | e <;> rw [e] <;> decide
  obtain ⟨p1, p2⟩ := mSms hP hG (W := b :: W) (by rw [List.length_cons]; omega) (Or.inr ⟨b, W, rfl, by omega, hbs⟩) ⟨hne 3 (by omega), hne 4 (by omega), hne 1 (by omega), hne 2 (by omega)⟩ hs
  cases hp : spSms tp P k g with
  | inl e0 =>
    refine ⟨fun e he => ?_, fun k2 g2 K he => (by cases he)⟩
    cases he
    exact p1 e0 hp
  | inr x =>
    obtain ⟨k1, g1, K1⟩ := x
    obtain ⟨h3, m1, C1, q1, q2, q3, q4, q5, q6⟩ := p2 k1 g1 K1 hp
    rw [q1]
    show (∀ e, (if spTx tp k1 = 41 then (.inr (spPk tp (k1 + 1), g1, K1) : spR) else .inl (1, k1)) = .inl e → _) ∧ ∀ k2 g2 K, (if spTx tp k1 = 41 then (.inr (spPk tp (k1 + 1), g1, K1) : spR) else .inl (1, k1)) = .inr (k2, g2, K) → _
    by_cases c : spTx tp k1 = 41
    · rw [if_pos c]
      refine ⟨fun e he => (by cases he), fun k2 g2 K he => ?_⟩
      cases he
      obtain ⟨h4, r1, r2, r3⟩ := k_close (was := was) (notB q4) hb hbs (by omega) q3 c
      exact ⟨h4, r1, q2.tr r2, by rw [q5, List.append_assoc] at r3; exact r3⟩
    · rw [if_neg c]
      refine ⟨fun e he => ?_, fun k2 g2 K he => (by cases he)⟩
      cases he
      exact mBd.tr q2 (k_stuck (notB q4) hbB (by omega) hbs q3 q6 c)
/-- a pair -/
theorem mPair {P : spF} (hop : op ≤ 5) (hP : mRd o tp md bs was (op + 1) P) (hG : spGr tp P) (hbs : bs ≤ W.length) {b : Int} (hb : b = 21 ∨ b = 22) {h : jH} (hs : MK h o tp md k g (op + 1) bs (b :: W) C) : (∀ e, spSign tp 41 (spThen (spSign tp 44 (spSms tp P k g)) (spSms tp P)) = .inl e → mBd o h (mFT o was h) e) ∧ ∀ k2 g2 K, spSign tp 41 (spThen (spSign tp 44 (spSms tp P k g)) (spSms tp P)) = .inr (k2, g2, K) → ∃ h', mFT o was h = mFE o was h' ∧ MKg o h h' ∧ MK h' o tp md k2 g2 op bs W (C ++ (K ++ (if b = 21 then [5] else [6]))) := by
  have hne : ∀ c : Int, b ≠ c → (b :: W).head? ≠ some c := fun c hc h => hc (Option.some.inj h)
  obtain ⟨p1, p2⟩ := mSms hP hG (W := b :: W) (by rw [List.length_cons]; omega) (Or.inr ⟨b, W, rfl, by omega, hbs⟩) ⟨hne 3 (by omega), hne 4 (by omega), hne 1 (by omega), hne 2 (by omega)⟩ hs
  cases hp : spSms tp P k g with
  | inl e0 =>
    refine ⟨fun e he => ?_, fun k2 g2 K he => (by cases he)⟩
    cases he
    exact p1 e0 hp
  | inr x =>
    obtain ⟨k1, g1, K1⟩ := x
    obtain ⟨h3, m1, C1, q1, q2, q3, q4, q5, q6⟩ := p2 k1 g1 K1 hp
    obtain ⟨r1, r2⟩ := k_comma (was := was) (notB q4) hb hbs q3 q6
    rw [q1]
    by_cases c : spTx tp k1 = 44
    rotate_left
    · have e0 : spSign tp 44 (.inr (k1, g1, K1)) = .inl (1, k1) := if_neg c
      rw [e0]
      refine ⟨fun e he => ?_, fun k2 g2 K he => (by cases he)⟩
      cases he
      exact mBd.tr q2 (r1 c)
    have e0 : spSign tp 44 (.inr (k1, g1, K1)) = .inr (spPk tp (k1 + 1), g1, K1) := if_pos c
    rw [e0]
    obtain ⟨h4, s1, s2, s3⟩ := r2 c
    rw [q5] at s3
    obtain ⟨t1, t2⟩ := mClosed (b := b + 2) hop hP hG hbs (by omega) s3
    rw [s1]
    cases hp2 : spSms tp P (spPk tp (k1 + 1)) g1 with
    | inl e1 =>
      have e2 : spThen (.inr (spPk tp (k1 + 1), g1, K1)) (spSms tp P) = .inl e1 := by unfold spThen; dsimp only; rw [hp2]
      rw [e2]
      refine ⟨fun e he => ?_, fun k2 g2 K he => (by cases he)⟩
      cases he
      exact mBd.tr (q2.tr s2) (t1 e1 (by rw [hp2]; rfl))
    | inr y =>
      obtain ⟨k2, g2, K2⟩ := y
      have e2 : spThen (.inr (spPk tp (k1 + 1), g1, K1)) (spSms tp P) = .inr (k2, g2, K1 ++ K2) := by unfold spThen; dsimp only; rw [hp2]
      rw [e2]
      by_cases d : spTx tp k2 = 41
      · have e3 : spSign tp 41 (.inr (k2, g2, K1 ++ K2)) = .inr (spPk tp (k2 + 1), g2, K1 ++ K2) := if_pos d
        have e4 : spSign tp 41 (.inr (k2, g2, K2)) = .inr (spPk tp (k2 + 1), g2, K2) := if_pos d
        rw [e3]
        refine ⟨fun e he => (by cases he), fun k3 g3 K he => ?_⟩
        cases he
        obtain ⟨h5, u1, u2, u3⟩ := t2 (spPk tp (k2 + 1)) g2 K2 (by rw [hp2]; exact e4)
        refine ⟨h5, u1, q2.tr (s2.tr u2), ?_⟩
        have hq : (if b + 2 = 20 then ([] : List Int) else if b + 2 = 23 then [5] else [6]) = (if b = 21 then [5] else [6]) := by rcases hb with e | e <;> rw [e] <;> decide
        rw [hq] at u3
        simp only [List.append_assoc] at u3 ⊢
        exact u3
      · have e3 : spSign tp 41 (.inr (k2, g2, K1 ++ K2)) = .inl (1, k2) := if_neg d
        have e4 : spSign tp 41 (.inr (k2, g2, K2)) = .inl (1, k2) := if_neg d
        rw [e3]
        refine ⟨fun e he => ?_, fun k2 g2 K he => (by cases he)⟩
        cases he
        exact mBd.tr (q2.tr s2) (t1 (1, k2) (by rw [hp2]; exact e4))
/-- a part -/
theorem mPartS {inner : Option spF} (hmd : md = 0 ∨ md = 1 ∨ md = 2) (hin : inner = none ∧ op = 6 ∨ ∃ P, inner = some P ∧ op ≤ 5 ∧ mRd o tp md bs was (op + 1) P ∧ spGr tp P) : mRd o tp md bs was op (spPartS tp md inner) := by
  intro h k g W C hbs hs
  have hop : op ≤ 6 := by rcases hin with ⟨-, e⟩ | ⟨_, -, e, -⟩ <;> omega
  unfold spPartS
  by_cases c0 : spDg (spTx tp k) = true
  · rw [if_pos c0]
    have hlt : spLt (spTx tp k) = false := by
      unfold spDg at c0
      unfold spLt
      simp only [Bool.and_eq_true, decide_eq_true_eq] at c0
      rw [decide_eq_false (by omega)]
      rfl
    have h40 : spTx tp k ≠ 40 := fun e => by rw [e] at c0; exact absurd c0 (by decide)
    have hq := spWq_noLt (g := g) hlt
    obtain ⟨-, p2⟩ := pt_leaf (was := was) hmd hs h40 (spWd_noLt hlt (by decide)) (spWd_noLt hlt (by decide)) (fun e => by omega)
    obtain ⟨p3, p4⟩ := p2 (fun e => by omega)
    cases hn : spNum tp g k 0 9999 with
    | inl e0 =>
      refine ⟨fun e he => ?_, fun k2 g2 K he => (by cases he)⟩
      cases he
      exact p3 e0 hn
    | inr x =>
      obtain ⟨x, e⟩ := x
      refine ⟨fun e he => (by cases he), fun k2 g2 K he => ?_⟩
      cases he
      exact p4 x e hn
  rw [if_neg c0]
  by_cases c1 : spTx tp k = 40
  · rw [if_pos c1]
    obtain ⟨p1, p2⟩ := pt_par (was := was) hmd hop hs c1
    rcases hin with ⟨rfl, e6⟩ | ⟨P, rfl, e5, hP, hG⟩
    · refine ⟨fun e he => ?_, fun k2 g2 K he => (by cases he)⟩
      cases he
      exact p1 e6
    · obtain ⟨h1, a1, a2, a3⟩ := p2 e5
      obtain ⟨q1, q2⟩ := mClosed e5 hP hG hbs (Or.inl rfl) a3
      rw [a1]
      refine ⟨fun e he => mBd.tr a2 (q1 e he), fun k2 g2 K he => ?_⟩
      obtain ⟨h2, b1, b2, b3⟩ := q2 k2 g2 K he
      exact ⟨h2, b1, a2.tr b2, by rw [if_pos rfl, List.append_nil] at b3; exact b3⟩
  rw [if_neg c1]
  have pair : ∀ (v c : Int) (h0 : jH), (v = 0 ∨ v = 1) → c = (if v = 0 then 6 else 5) → MKg o h h0 → MK h0 o tp md (spPk tp (k + 3)) ((k + 3 : Nat) : Int) op bs W C → M_qPartTold_B2 h o 1 = M_qPartTold_p101 h0 o 1 v → (∀ e, spPair tp inner (spPk tp (k + 3)) ((k + 3 : Nat) : Int) c = .inl e → mBd o h (mFT o was h) e) ∧ ∀ k2 g2 K, spPair tp inner (spPk tp (k + 3)) ((k + 3 : Nat) : Int) c = .inr (k2, g2, K) → ∃ h', mFT o was h = mFE o was h' ∧ MKg o h h' ∧ MK h' o tp md k2 g2 op bs W (C ++ K) := by
    intro v c h0 hv hcv hf hs0 hB
    obtain ⟨p1, p2, p3⟩ := pt_101 (was := was) hop hf hs0 hv hB
    unfold spPair
    by_cases d : spTx tp (spPk tp (k + 3)) = 40
    rotate_left
    · rw [if_neg d]
      refine ⟨fun e he => ?_, fun k2 g2 K he => (by cases he)⟩
      cases he
      exact p1 d
    rw [if_pos d]
    rcases hin with ⟨rfl, e6⟩ | ⟨P, rfl, e5, hP, hG⟩
    · refine ⟨fun e he => ?_, fun k2 g2 K he => (by cases he)⟩
      cases he
      exact p2 d e6
    obtain ⟨h1, a1, a2, a3⟩ := p3 d e5
    obtain ⟨q1, q2⟩ := mPair e5 hP hG hbs (show (if v = 0 then (22 : Int) else 21) = 21 ∨ (if v = 0 then (22 : Int) else 21) = 22 by rcases hv with e | e <;> rw [e] <;> decide) a3
    have hc2 : (if (if v = 0 then (22 : Int) else 21) = 21 then ([5] : List Int) else [6]) = [c] := by rw [hcv]; rcases hv with e | e <;> rw [e] <;> decide
    rw [hc2] at q2
    rw [a1]
    dsimp only
    cases hr : spSign tp 41 (spThen (spSign tp 44 (spSms tp P (spPk tp (spPk tp (k + 3) + 1)) ((k + 3 : Nat) : Int))) (spSms tp P)) with
    | inl e0 =>
      refine ⟨fun e he => ?_, fun k2 g2 K he => (by cases he)⟩
      cases he
      exact mBd.tr a2 (q1 e0 hr)
    | inr x =>
      obtain ⟨k1, g1, K1⟩ := x
      refine ⟨fun e he => (by cases he), fun k2 g2 K he => ?_⟩
      cases he
      obtain ⟨h2, b1, b2, b3⟩ := q2 k1 g1 K1 hr
      exact ⟨h2, b1, a2.tr b2, b3⟩
  cases c2 : spWd tp g k spWmin with
  | true =>
    rw [if_pos (show true = true from rfl)]
    obtain ⟨h0, a1, a2, a3⟩ := pt_min hmd hs c1 c2
    exact pair 1 5 h0 (Or.inr rfl) rfl a1 a2 a3
  | false =>
  rw [if_neg (show ¬ false = true by decide)]
  cases c3 : spWd tp g k spWmax with
  | true =>
    rw [if_pos (show true = true from rfl)]
    obtain ⟨h0, a1, a2, a3⟩ := pt_max hmd hs c1 c2 c3
    exact pair 0 6 h0 (Or.inl rfl) rfl a1 a2 a3
  | false =>
  rw [if_neg (show ¬ false = true by decide)]
  have hnum : spNum tp g k 0 9999 = .inl (1, k) := by
    unfold spNum
    rw [if_pos (Or.inl (Bool.eq_false_iff.mpr c0))]
  by_cases c4 : spWq tp g k = -1 ∨ spAld md (spWq tp g k) = false
  · rw [if_pos c4]
    have hna : ¬ (0 ≤ spWq tp g k ∧ spAld md (spWq tp g k) = true) := by
      rcases c4 with e | e
      · rw [e]; exact fun h => absurd h.1 (by decide)
      · rw [e]; exact fun h => absurd h.2 (by decide)
    obtain ⟨-, p2⟩ := pt_leaf (was := was) hmd hs c1 c2 c3 (fun e => hna ⟨by omega, e.2⟩)
    refine ⟨fun e he => ?_, fun k2 g2 K he => (by cases he)⟩
    cases he
    exact (p2 hna).1 _ hnum
  rw [if_neg c4]
  have hq : spWq tp g k ≠ -1 := fun e => c4 (Or.inl e)
  have ha : spAld md (spWq tp g k) = true := by
    cases e : spAld md (spWq tp g k) with
    | true => rfl
    | false => exact absurd (Or.inr e) c4
  have hw := spWq_word hq
  by_cases c5 : spWq tp g k < 9
  · rw [if_pos c5]
    obtain ⟨p1, -⟩ := pt_leaf (was := was) hmd hs c1 c2 c3 (fun e => by omega)
    refine ⟨fun e he => (by cases he), fun k2 g2 K he => ?_⟩
    cases he
    exact p1 ⟨hw.1, ha⟩
  rw [if_neg c5]
  obtain ⟨p1, p2⟩ := pt_word (was := was) hmd hop hs c1 c2 c3 (by omega) ha
  rcases hin with ⟨rfl, e6⟩ | ⟨P, rfl, e5, hP, hG⟩
  · refine ⟨fun e he => ?_, fun k2 g2 K he => (by cases he)⟩
    cases he
    exact p1 e6
  obtain ⟨h1, a1, a2, a3⟩ := p2 e5
  obtain ⟨q1, q2⟩ := hP h1 _ _ _ _ (by rw [List.length_cons]; omega) a3
  rw [a1]
  dsimp only
  cases hr : P (spPk tp (k + 5)) ((k + 5 : Nat) : Int) with
  | inl e0 =>
    refine ⟨fun e he => ?_, fun k2 g2 K he => (by cases he)⟩
    cases he
    exact mBd.tr a2 (q1 e0 hr)
  | inr x =>
    obtain ⟨k1, g1, K1⟩ := x
    refine ⟨fun e he => (by cases he), fun k2 g2 K he => ?_⟩
    cases he
    obtain ⟨h2, b1, b2, b3⟩ := q2 k1 g1 K1 hr
    obtain ⟨h3, d1, d2, d3⟩ := k_ends1 (by omega) hbs (by omega) b3
    refine ⟨h3, ?_, a2.tr (b2.tr d2), by rw [List.append_assoc] at d3; exact d3⟩
    rw [b1]
    unfold mFE
    rw [d1]
theorem mPart (hmd : md = 0 ∨ md = 1 ∨ md = 2) : ∀ r op, op + r = 6 → mRd o tp md bs was op (spPart tp md r) := by
  intro r
  induction r with
  | zero => intro op e; exact mPartS hmd (Or.inl ⟨rfl, by omega⟩)
  | succ r ih => intro op e; exact mPartS hmd (Or.inr ⟨_, rfl, by omega, ih (op + 1) (by omega), spPart_gr r⟩)
end MSU
