/-! ticks till all up to a number are acknowledged: the spec, the reference -/
def spTill (p : spPl) (rule : Nat) (tgt : Int) : Nat → Nat → Int → spSt → Int × Int
  | 0, v, acc, s => (if s.2.2.1.2.2 < tgt then -1 else (v : Int), acc)
  | m + 1, v, acc, s => if s.2.2.1.2.2 < tgt then (if spTkn s < 999 then spTill p rule tgt m (v + 1) (acc + (spAcks s : Int) * ((v : Int) + 1)) (spTick p rule s).1 else (-1, acc)) else ((v : Int), acc)
section TIL
variable {ns blk len : Nat} {b : Int} {p : spPl}
theorem spAcks_le {s : spSt} (hI : spInv ns blk len b s) : spAcks s ≤ 16 := by
  have := hI.que
  unfold spAcks
  split
  · omega
  · split
    · exact this.2.2.2.2.2.1
    · omega
theorem m_tillL {h : jH} {o rule : Nat} {tgt : Int} {s : spSt} (hp : spPp ns blk len p) (hs : MS h o ns blk len s.2.2.2.1.2 s) (hI0 : spInv ns blk len b s) : ∀ (m v : Nat) (acc : Int) (g : jH) (sX : spSt), v + m = 100 → RT h g o ns blk len s sX → spOK ns blk len b sX → g o 52 = (if rule = 0 then -1 else (rule : Int)) → g o 56 = 1 → MPl g o p → jI32 (g o 53) → g o 55 = (v : Int) → g o 54 = acc → 0 ≤ acc → acc ≤ 1600 * (v : Int) →
    ∃ g', M_ticksTill_L16 g o tgt (v : Int) = some ((spTill p rule tgt m v acc sX).1, g') ∧ (∀ z, z ≠ o → z ≠ o + 33 → z ≠ o + 34 → z ≠ o + 35 → z ≠ o + 67 → g' z = g z) ∧ (∀ f, f ≠ 44 → f ≠ 46 → f ≠ 47 → f ≠ 50 → f ≠ 53 → f ≠ 54 → f ≠ 55 → f ≠ 56 → f ≠ 105 → g' o f = g o f) ∧ g' o 56 = 0 ∧ MS g' o ns blk len s.2.2.2.1.2 s ∧ g' o 54 = (spTill p rule tgt m v acc sX).2 ∧ jI32 (g' o 53) := by
  unfold M_ticksTill_L16
  have stop : ∀ (v : Nat) (acc : Int) (g : jH) (sX : spSt), RT h g o ns blk len s sX → g o 56 = 1 → jI32 (g o 53) → g o 54 = acc → ∃ g', M_ticksTill_p54 g o tgt (v : Int) = some ((if sX.2.2.1.2.2 < tgt then -1 else (v : Int)), g') ∧ (∀ z, z ≠ o → z ≠ o + 33 → z ≠ o + 34 → z ≠ o + 35 → z ≠ o + 67 → g' z = g z) ∧ (∀ f, f ≠ 44 → f ≠ 46 → f ≠ 47 → f ≠ 50 → f ≠ 53 → f ≠ 54 → f ≠ 55 → f ≠ 56 → f ≠ 105 → g' o f = g o f) ∧ g' o 56 = 0 ∧ MS g' o ns blk len s.2.2.2.1.2 s ∧ g' o 54 = acc ∧ jI32 (g' o 53) := by
    intro v acc g sX t h56 h53 h54
    obtain ⟨g3, y1, y2, y3, y4, y5⟩ := t.back hs hI0
    have hq := t.2.1.que
    refine ⟨g3, ?_, fun z z1 z2 _ _ _ => y2 z z1 z2, fun f _ _ _ _ _ _ _ f8 _ => y3 f f8, y4, y5, by rw [y3 54 (by decide)]; exact h54, by rw [y3 53 (by decide)]; exact h53⟩
    unfold M_ticksTill_p54 M_ticksTill_p69
    rw [if_pos (by decide), show ((2 : Int)).toNat = 2 from rfl, hq.2.1, y1]
    simp only [Option.bind_some]
    by_cases a : sX.2.2.1.2.2 < tgt
    · rw [if_pos a, if_pos a]; rfl
    · rw [if_neg a, if_neg a]; rfl
  intro m
  induction m with
  | zero =>
    intro v acc g sX hv t hI h52 h56 hP h53 h55 h54 ha ha2
    obtain ⟨g', e1, e2⟩ := stop v acc g sX t h56 h53 h54
    have hq := t.2.1.que
    refine ⟨g', (jloop_x ?_).trans e1, e2⟩
    show M_ticksTill_B16 g o tgt (v : Int) = _
    unfold M_ticksTill_B16
    rw [if_pos (by decide), show ((2 : Int)).toNat = 2 from rfl, hq.2.1]
    by_cases a : sX.2.2.1.2.2 < tgt
    · rw [if_pos a, if_neg (by omega)]
    · rw [if_neg a]
  | succ m ih =>
    intro v acc g sX hv t hI h52 h56 hP h53 h55 h54 ha ha2
    have hq := t.2.1.que
    have hi := hI.1.que
    unfold spTill
    by_cases a : sX.2.2.1.2.2 < tgt
    rotate_left
    · rw [if_neg a]
      obtain ⟨g', e1, e2⟩ := stop v acc g sX t h56 h53 h54
      rw [if_neg a] at e1
      refine ⟨g', (jloop_x ?_).trans e1, e2⟩
      show M_ticksTill_B16 g o tgt (v : Int) = _
      unfold M_ticksTill_B16
      rw [if_pos (by decide), show ((2 : Int)).toNat = 2 from rfl, hq.2.1, if_neg a]
    rw [if_pos a]
    by_cases a2 : spTkn sX < 999
    rotate_left
    · rw [if_neg a2]
      obtain ⟨g', e1, e2⟩ := stop v acc g sX t h56 h53 h54
      rw [if_pos a] at e1
      refine ⟨g', (jloop_x ?_).trans e1, e2⟩
      show M_ticksTill_B16 g o tgt (v : Int) = _
      unfold M_ticksTill_B16
      unfold spTkn at a2
      rw [if_pos (by decide), show ((2 : Int)).toNat = 2 from rfl, hq.2.1, if_pos a, if_pos (by omega), if_pos (by decide), show ((0 : Int)).toNat = 0 from rfl, hq.2.2.2.2.2.2.2.2.2, if_neg a2]
    rw [if_pos a2]
    have hac := spAcks_le hI.1
    have hmul : (0 : Int) ≤ (spAcks sX : Int) * ((v : Int) + 1) ∧ (spAcks sX : Int) * ((v : Int) + 1) ≤ 1600 := by
      refine ⟨Int.mul_nonneg (by omega) (by omega), ?_⟩
      exact Int.le_trans (Int.mul_le_mul_of_nonneg_right (show (spAcks sX : Int) ≤ 16 by omega) (by omega)) (by omega)
    have e55 : wr (g o 55 + 1) = (v : Int) + 1 := by rw [h55, pw (by omega) (by omega)]
    have ht2 : sX.2.2.2.2.2.2.2.2.2.2 ≤ 998 := by unfold spTkn at a2; omega
    obtain ⟨g1, e1, e2, e3, e4, e5, e6⟩ := m_tick (o := o) (rule := rule) (th := 1) hp.1 hp.2.1 hp.2.2.1 hP hp.2.2.2 t.2.1 hI.1 h52 ht2 (Or.inr rfl) (fun z => by cases z) h56 h53
    rw [if_neg (by decide)] at e3
    rw [e55] at e5 e6
    have e6' := e6 (by rw [h54]; exact ha) (by omega) (by rw [h54]; omega)
    have t1 : RT h g1 o ns blk len s (spTick p rule sX).1 := ⟨fun i hi2 => by rw [e2.1 _ (by omega) (by omega) (by omega) (by omega) (by omega)]; exact t.1 i hi2, e3, by rw [e2.1 _ (by omega) (by omega) (by omega) (by omega) (by omega)]; exact t.2.2⟩
    obtain ⟨g', w1, w2, w3, w4⟩ := ih (v + 1) (acc + (spAcks sX : Int) * ((v : Int) + 1)) g1 (spTick p rule sX).1 (by omega) t1 ⟨spInv_tick hp.1 hp.2.1 hp.2.2.1 hI.1 ht2, spHal_tick hI.2⟩ (by rw [e2.2 52 (by decide) (by decide) (by decide) (by decide) (by decide) (by decide) (by decide) (by decide)]; exact h52) (by rw [e2.2 56 (by decide) (by decide) (by decide) (by decide) (by decide) (by decide) (by decide) (by decide)]; exact h56) (hP.eq (e2.1 _ (by omega) (by omega) (by omega) (by omega) (by omega)) (e2.1 _ (by omega) (by omega) (by omega) (by omega) (by omega)) (e2.1 _ (by omega) (by omega) (by omega) (by omega) (by omega))) (by rw [e4]; exact wr_in _) (by rw [e5]; omega) (by rw [e6', h54]) (by omega) (by omega)
    refine ⟨g', (jloop_l (s' := (((v + 1 : Nat) : Int), g1)) ?_).trans w1, fun z z1 z2 z3 z4 z5 => by rw [w2 z z1 z2 z3 z4 z5, e2.1 z z1 z2 z3 z4 z5], fun f f1 f2 f3 f4 f5 f6 f7 f8 f9 => by rw [w3 f f1 f2 f3 f4 f5 f6 f7 f8 f9, e2.2 f f1 f2 f3 f4 f5 f6 f7 f9], w4⟩
    show M_ticksTill_B16 g o tgt (v : Int) = _
    unfold M_ticksTill_B16
    unfold spTkn at a2
    rw [if_pos (by decide), show ((2 : Int)).toNat = 2 from rfl, hq.2.1, if_pos a, if_pos (by omega), if_pos (by decide), show ((0 : Int)).toNat = 0 from rfl, hq.2.2.2.2.2.2.2.2.2, if_pos a2, e1]
    simp only [Option.bind_some]
    rw [pw (by omega) (by omega)]
    rfl
end TIL
