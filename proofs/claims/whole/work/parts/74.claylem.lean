/-! the class lays records -/
def CF (h : jH) (of len : Nat) (F : spFl) : Prop := h of 2 = (F.length : Int) ∧ ∀ i e, F[i]? = some e → h (of + 1) i = ((e.1 * len + e.2.1 : Nat) : Int) ∧ h (of + 2) i = e.2.2
def CQ (h : jH) (oq : Nat) (q : List spRec) (fl : Nat) (first : Int) : Prop := h oq 4 = first ∧ h oq 5 = (fl : Int) ∧ h oq 6 = (q.length : Int) ∧ q.length ≤ 32 ∧ ∀ i r, q[i]? = some r → h (oq + 1) i = r.1 ∧ h (oq + 2) i = r.2.1 ∧ h (oq + 3) i = r.2.2.1 ∧ h (oq + 4) i = r.2.2.2
section CLAY
variable {h : jH} {od ns blk len : Nat} {D C : Nat → Nat → Int}
theorem c_behL (hd0 : spDim ns blk len) (hc : CD h od ns blk len D C) : ∀ (f k left t : Nat), k ≤ len → left ≤ 100 → t + f = 5 → 5 ≤ k / blk + (f + 1) →  Di_behindRecord_L8 h od (k : Int) (left : Int) (t : Int) = some (match spBeh blk len (f + 1) k left with | some e => (e : Int) | none => -1) := by
  have hl := hd0.len
  have b0 : 0 < blk := by have := hd0.2.2.1; omega
  have b1 := hd0.2.2.1
  have b2 := hd0.2.2.2.1
  have b4 : len ≤ 4 * blk := by
    obtain ⟨m, h1, h2, rfl⟩ := hd0.2.2.2.2
    exact Nat.mul_le_mul_right _ h2
  unfold Di_behindRecord_L8
  intro f
  induction f with
  | zero =>
    intro k left t hk hlf ht hkb
    refine jloop_x (X := some _) ?_
    show Di_behindRecord_B8 h od (k : Int) (left : Int) (t : Int) = _
    have : 4 * blk ≤ k := by
      have := Nat.div_mul_le_self k blk
      have h3 : 4 ≤ k / blk := by omega
      have := Nat.mul_le_mul_right blk h3
      omega
    have hst := spStart_le b0 hl.2.2.2 hk
    unfold Di_behindRecord_B8 Di_behindRecord_p89 spBeh
    by_cases a : left = 0
    · rw [if_neg (by omega), if_neg (by omega), if_pos a]
    · rw [if_pos (by omega), if_pos (by omega), if_pos (by omega), if_neg a, if_pos (by omega)]
  | succ f ih =>
    intro k left t hk hlf ht hkb
    have hst := spStart_le b0 hl.2.2.2 hk
    have hge := spEnd_gt (blk := blk) (k := k) b0
    conv => rhs; unfold spBeh
    by_cases a : left = 0
    · refine (jloop_x (X := some _) ?_).trans rfl
      show Di_behindRecord_B8 h od (k : Int) (left : Int) (t : Int) = _
      unfold Di_behindRecord_B8 Di_behindRecord_p89
      rw [if_neg (by omega), if_neg (by omega), if_pos a]
    · rw [if_neg a]
      have hB : Di_behindRecord_B8 h od (k : Int) (left : Int) (t : Int) = Di_behindRecord_p46 h od (spStart blk k : Int) (left : Int) (t : Int) (spEnd blk (spStart blk k) : Int) := by
        unfold Di_behindRecord_B8
        rw [if_pos (by omega), if_neg (by omega), c_bend hd0 hc (by omega)]
        simp only [Option.bind_some]
        rw [pw (by omega) (by omega)]
        unfold spStart
        by_cases c : spEnd blk k - k ≤ 4
        · rw [if_neg (by omega), if_pos c, hc.2.2.1, pw (by omega) (by omega)]
          have e1 := spEnd_mod (blk := blk) (k := k) b0
          have e2 : spEnd blk (spEnd blk k) = spEnd blk k + blk := by
            generalize spEnd blk k = t at e1
            unfold spEnd
            omega
          rw [e2]
          rfl
        · rw [if_pos (by omega), if_neg c]
      by_cases b : len ≤ spStart blk k
      · rw [if_pos b]
        refine jloop_r ?_
        show Di_behindRecord_B8 h od (k : Int) (left : Int) (t : Int) = _
        rw [hB]
        unfold Di_behindRecord_p46
        rw [hc.2.1, if_neg (by omega)]
        rfl
      · rw [if_neg b]
        have hr := spStart_room (blk := blk) (k := k) (by omega)
        have he := spEnd_le b0 hl.2.2.2 (show spStart blk k < len by omega)
        have hge2 := spEnd_gt (blk := blk) (k := spStart blk k) b0
        have hdiv : k / blk ≤ spStart blk k / blk := Nat.div_le_div_right hst.1
        have hmul := spEnd_mul (blk := blk) (k := spStart blk k) b0
        generalize spStart blk k = j at hB b hr he hge2 hdiv hmul hst ⊢
        generalize hn : min left (spEnd blk j - j - 4) = n
        refine (jloop_l (s' := (((j + 4 + n : Nat) : Int), ((left - n : Nat) : Int), ((t + 1 : Nat) : Int))) ?_).trans ?_
        · show Di_behindRecord_B8 h od (k : Int) (left : Int) (t : Int) = _
          rw [hB]
          unfold Di_behindRecord_p46
          rw [hc.2.1, if_pos (by omega)]
          have e1 : wr (wr ((spEnd blk j : Int) - (j : Int)) - 4) = ((spEnd blk j - j - 4 : Nat) : Int) := by
            rw [pw (x := (spEnd blk j : Int) - (j : Int)) (by omega) (by omega), pw (by omega) (by omega)]
            omega
          rw [e1, show min (left : Int) ((spEnd blk j - j - 4 : Nat) : Int) = ((n : Nat) : Int) by omega]
          rw [pw (x := 4 + (n : Int)) (by omega) (by omega), pw (by omega) (by omega), pw (by omega) (by omega), pw (by omega) (by omega)]
          congr 3
          · omega
          · congr 1
            omega
        · by_cases d : left - n = 0
          · -- nothing is left
            refine (jloop_x (X := some ((j + 4 + n : Nat) : Int)) ?_).trans ?_
            · show Di_behindRecord_B8 h od ((j + 4 + n : Nat) : Int) ((left - n : Nat) : Int) ((t + 1 : Nat) : Int) = _
              unfold Di_behindRecord_B8 Di_behindRecord_p89
              rw [if_neg (by omega), if_neg (by omega)]
            · unfold spBeh
              rw [if_pos d]
          · refine ih (j + 4 + n) (left - n) (t + 1) (by omega) (by omega) (by omega) ?_
            have : j + 4 + n = spEnd blk j := by omega
            rw [this, hmul, Nat.mul_div_cancel _ b0]
            omega
theorem c_beh (hd0 : spDim ns blk len) (hc : CD h od ns blk len D C) {k left : Nat} (hk : k ≤ len) (hlf : left ≤ 100) : Di_behindRecord h od (k : Int) (left : Int) = some (match spBeh blk len 6 k left with | some e => (e : Int) | none => -1) := by
  unfold Di_behindRecord
  exact c_behL hd0 hc 5 k left 0 hk hlf rfl (Nat.le_trans (by decide) (Nat.le_add_left 6 (k / blk)))
/-- the bits of where the pen was -/
def spVb (v : Int) (vis : Nat → Bool) : Prop := ∃ n : Nat, n < 16 ∧ v = n ∧ ∀ i, i < 4 → n.testBit i = vis i
theorem jbit_and : ∀ n : Nat, n < 16 → ∀ i : Nat, i < 4 → (jand (n : Int) (jshl 1 (i : Int)) = 0 ↔ n.testBit i = false) := by decide +kernel
theorem jbit_or : ∀ n : Nat, n < 16 → ∀ i : Nat, i < 4 → jor (n : Int) (jshl 1 (i : Int)) = ((n ||| 1 <<< i : Nat) : Int) ∧ (n ||| 1 <<< i) < 16 ∧ ∀ j, j < 4 → (n ||| 1 <<< i).testBit j = (decide (j = i) || n.testBit j) := by decide +kernel
theorem jbit_one : ∀ i : Nat, i < 4 → jshl 1 (i : Int) = ((1 <<< i : Nat) : Int) ∧ (1 <<< i : Nat) < 16 ∧ ∀ j, j < 4 → (1 <<< i : Nat).testBit j = decide (j = i) := by decide +kernel
def CP (h : jH) (pn : Nat) (q : spP) : Prop := h pn 0 = (q.1 : Int) ∧ h pn 1 = (q.2.1 : Int) ∧ h pn 2 = q.2.2.1 ∧ h pn 3 = q.2.2.2.1 ∧ spVb (h pn 4) q.2.2.2.2
theorem c_free {o pn : Nat} {tp : Nat → Int} {snap : Int} {vis : Nat → Bool} (hd0 : spDim ns blk len) (h2 : h (o + 1) 2 = (ns : Int)) (hv : spVb (h pn 4) vis) (ht : ∀ i, i < 4 → (vis i = false → h (o + 20) i = tp i)) (hs : h (o) 7 = snap) : Pe_freeSegment h pn o = some (spFirst (spIsF tp snap vis) ns 0) := by
  have hn := hd0.2.1
  obtain ⟨n, n1, n2, n3⟩ := hv
  have key : ∀ m i, i + m = ns → Pe_freeSegment_L2 h pn o (i : Int) = some (spFirst (spIsF tp snap vis) m i) := by
    unfold Pe_freeSegment_L2
    intro m
    induction m with
    | zero =>
      intro i hi
      refine jloop_r ?_
      show Pe_freeSegment_B2 h pn o (i : Int) = _
      unfold Pe_freeSegment_B2
      rw [h2, if_neg (by omega)]
      rfl
    | succ m ih =>
      intro i hi
      have i4 : i < 4 := by omega
      have b := jbit_and n n1 i i4
      rw [n3 i i4] at b
      unfold spFirst
      have hf : St_isFree h o (i : Int) = some (if h (o + 20) i < snap then 1 else 0) := by
        unfold St_isFree St_isFree_p30
        rw [if_neg (by omega), if_pos (by omega), if_pos (by omega), hs, Int.toNat_natCast]
        by_cases a : h (o + 20) i < snap
        · rw [if_pos a, if_pos a]
        · rw [if_neg a, if_neg a]
      have hB : Pe_freeSegment_B2 h pn o (i : Int) = (if spIsF tp snap vis i = true then some (.inr (i : Int)) else some (.inl ((i + 1 : Nat) : Int))) := by
        unfold Pe_freeSegment_B2
        rw [h2, if_pos (by omega), n2, pw (by omega) (by omega), show (i : Int) + 1 = ((i + 1 : Nat) : Int) by omega]
        unfold spIsF
        cases hv : vis i with
        | true =>
          rw [if_neg (fun e => by rw [hv] at b; cases b.mp e)]
          simp
        | false =>
          rw [if_pos (b.mpr hv), hf, ht i i4 hv]
          by_cases a : tp i < snap
          · simp [a]
          · simp [a]
      by_cases a : spIsF tp snap vis i = true
      · rw [if_pos a]
        rw [if_pos a] at hB
        exact jloop_r hB
      · rw [if_neg a]
        rw [if_neg a] at hB
        exact (jloop_l hB).trans (ih (i + 1) (by omega))
  unfold Pe_freeSegment
  exact key ns 0 (by omega)
theorem spFirst_in {p : Nat → Bool} : ∀ m i, spFirst p m i = -1 ∨ ∃ t : Nat, spFirst p m i = t ∧ i ≤ t ∧ t < i + m ∧ p t = true := by
  intro m
  induction m with
  | zero => intro i; exact Or.inl rfl
  | succ m ih =>
    intro i
    unfold spFirst
    by_cases a : p i = true
    · rw [if_pos a]; exact Or.inr ⟨i, rfl, Nat.le_refl _, by omega, a⟩
    · rw [if_neg a]
      rcases ih (i + 1) with h | ⟨t, h1, h2, h3, h4⟩
      · exact Or.inl h
      · exact Or.inr ⟨t, h1, by omega, by omega, h4⟩
/-- whether a record has room where the pen is, or in a segment that it opens -/
theorem c_goes {o pn : Nat} {tp : Nat → Int} {snap : Int} {q : spP} {P : Nat} (hd0 : spDim ns blk len) (hc : CD h (o + 1) ns blk len D C) (hq : CP h pn q) (hk : q.2.1 ≤ len) (hP : P ≤ 100) (ht : ∀ i, i < 4 → (q.2.2.2.2 i = false → h (o + 20) i = tp i)) (hs : h o 7 = snap) :
    ∃ h', Pe_goesTo h pn o (P : Int) = some (if spGoes ns blk len tp snap P q = none then 0 else 1, h') ∧ (∀ x, x ≠ pn → h' x = h x) ∧ (∀ y op, spGoes ns blk len tp snap P q = some (y, op) → CP h' pn y) ∧ (spGoes ns blk len tp snap P q = none → h' = h) := by
  obtain ⟨q1, q2, q3, q4, q5⟩ := hq
  have hl := hd0.len
  unfold Pe_goesTo
  rw [q2, c_beh hd0 hc hk hP]
  simp only [Option.bind_some]
  cases e : spBeh blk len 6 q.2.1 P with
  | some x =>
    have hg : spGoes ns blk len tp snap P q = some (q, false) := by unfold spGoes; rw [e]; rfl
    rw [hg, if_neg (show ¬ (x : Int) = -1 by omega)]
    refine ⟨h, rfl, fun _ _ => rfl, fun y op hy => ?_, fun hy => by cases hy⟩
    have : q = y := congrArg Prod.fst (Option.some.inj hy)
    rw [← this]
    exact ⟨q1, q2, q3, q4, q5⟩
  | none =>
    rw [if_pos rfl, c_free hd0 hc.1 q5 ht hs]
    simp only [Option.bind_some]
    rcases spFirst_in (p := spIsF tp snap q.2.2.2.2) ns 0 with hf | ⟨t, hf, _, ht2, _⟩
    · have hg : spGoes ns blk len tp snap P q = none := by unfold spGoes; rw [e, hf]; rfl
      rw [hf, if_pos rfl, hg]
      exact ⟨h, rfl, fun _ _ => rfl, fun y op hy => (by cases hy), fun _ => rfl⟩
    · rw [hf, if_neg (show ¬ (t : Int) = -1 by omega)]
      have hb5 := c_beh (k := 5) (left := P) hd0 hc (by omega) hP
      rw [show (5 : Int) = ((5 : Nat) : Int) from rfl, hb5]
      simp only [Option.bind_some]
      cases e5 : spBeh blk len 6 5 P with
      | none =>
        have hg : spGoes ns blk len tp snap P q = none := by
          unfold spGoes
          rw [e, hf, e5, if_neg (by simp), if_neg (by omega), if_pos rfl]
        rw [if_pos rfl, hg]
        exact ⟨h, rfl, fun _ _ => rfl, fun y op hy => (by cases hy), fun _ => rfl⟩
      | some x =>
        have hg : spGoes ns blk len tp snap P q = some ((t, 5, wr (q.2.2.2.1 + 1), wr (q.2.2.2.1 + 1), spVis q.2.2.2.2 t), true) := by
          unfold spGoes
          rw [e, hf, e5, if_neg (by simp), if_neg (by omega), if_neg (by simp), Int.toNat_natCast]
        rw [if_neg (show ¬ (x : Int) = -1 by omega), hg]
        obtain ⟨n, n1, n2, n3⟩ := q5
        have t4 : t < 4 := by have := hd0.2.1; omega
        have bo := jbit_or n n1 t t4
        refine ⟨_, rfl, fun x hx => ?_, fun y op hy => ?_, fun hy => by cases hy⟩
        · rw [jup_ne hx, jup_ne hx, jup_ne hx, jup_ne hx, jup_ne hx]
        · have hy2 := congrArg Prod.fst (Option.some.inj hy)
          dsimp only at hy2
          rw [← hy2]
          refine ⟨?_, ?_, ?_, ?_, (n ||| 1 <<< t), bo.2.1, ?_, fun i hi => ?_⟩
          · simp [ju_if]
          · simp [ju_if]
          · simp [ju_if, q4]
          · simp [ju_if, q4]
          · simp [ju_if, n2]
            exact bo.1
          · rw [bo.2.2 i hi, n3 i hi]
            rfl
end CLAY
