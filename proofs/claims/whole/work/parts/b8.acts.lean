/-! a record is added; a snap is taken; on both sides -/
section ACT
variable {ns blk len : Nat}
theorem spInv_mono {b b' : Int} {s : spSt} (h : b ≤ b') (h2 : b' ≤ 700000) (hI : spInv ns blk len b s) : spInv ns blk len b' s := by
  obtain ⟨⟨D, C⟩, ⟨F, lf⟩, ⟨q, fl, first⟩, ⟨wt, kp⟩, ⟨tab, stab, snap, tops⟩, ⟨sg, at', ser, gr, hl, tk⟩⟩ := s
  obtain ⟨i1, i2, ⟨j1, j2, j3, j4, j5, j6, j7, j8⟩, i4⟩ := hI
  exact ⟨i1, i2, ⟨j1, j2, j3, j4, j5, j6, by omega, h2⟩, i4⟩
def spApp (k v sz : Int) : spSt → spSt
  | (dc, f, (q, fl, first), w, t, (sg, at', ser, gr, hl, tk)) => (dc, f, (q ++ [(k, v, sz, tk)], fl, first), w, t, (sg, at', ser, gr, hl, tk))
def spCanA (blk len : Nat) (k v sz : Int) (s : spSt) : Bool :=
  !s.2.2.2.2.2.2.2.2.2.1 && decide (spWtg s < 16) && decide (0 ≤ k) && decide (k < 16) && decide (0 ≤ v) && decide (v < 1000) && decide (0 ≤ sz) && decide (sz < 41) && decide (spBeh blk len 6 5 (3 + sz.toNat) ≠ none)
theorem spInv_app {b k v sz : Int} {s : spSt} (hb : b + 1 ≤ 700000) (hI : spInv ns blk len b s) (hc : spCanA blk len k v sz s = true) : spInv ns blk len (b + 1) (spApp k v sz s) := by
  obtain ⟨⟨D, C⟩, ⟨F, lf⟩, ⟨q, fl, first⟩, ⟨wt, kp⟩, ⟨tab, stab, snap, tops⟩, ⟨sg, at', ser, gr, hl, tk⟩⟩ := s
  obtain ⟨i1, i2, ⟨j1, j2, j3, j4, j5, j6, j7, j8⟩, i4, i5, i6, i7⟩ := hI
  unfold spCanA spWtg at hc
  simp only [Bool.and_eq_true, decide_eq_true_eq] at hc
  obtain ⟨⟨⟨⟨⟨⟨⟨⟨x0, x1⟩, x2⟩, x3⟩, x4⟩, x5⟩, x6⟩, x7⟩, x8⟩ := hc
  refine ⟨i1, i2, ⟨fun r hr => ?_, ?_, j3, ?_, j5, j6, ?_, hb⟩, i4, i5, i6, i7⟩
  · rcases List.mem_append.mp hr with h | h
    · exact j1 r h
    · rw [List.mem_singleton.mp h]
      exact ⟨⟨x2, x3, x4, x5, x6, x7⟩, i6.2.2.2.2.1, i6.2.2.2.2.2⟩
  · rw [List.length_append]; omega
  · rw [List.length_append]; simp only [List.length_cons, List.length_nil]; omega
  · rw [List.length_append]; simp only [List.length_cons, List.length_nil]; omega
theorem c_takes {h : jH} {o n : Nat} {b k v sz : Int} {s : spSt} (hs : CS h o ns blk len n s) (hI : spInv ns blk len b s) : St_takesRecord h o k v sz = some (if spCanA blk len k v sz s = true then 1 else 0) := by
  obtain ⟨⟨D, C⟩, ⟨F, lf⟩, ⟨q, fl, first⟩, ⟨wt, kp⟩, ⟨tab, stab, snap, tops⟩, ⟨sg, at', ser, gr, hl, tk⟩⟩ := s
  obtain ⟨i1, i2, ⟨j1, j2, j3, j4, j5, j6, j7, j8⟩, i4, i5, i6, i7⟩ := hI
  obtain ⟨c1, ⟨c2, c2'⟩, c3, ⟨c4, c4'⟩, ⟨t1, t2, t3, t4⟩, p1, p2, p3, p4, p5, p6⟩ := hs
  have hl5 := i1.1.len
  have no : ∀ X : Prop, ¬ (spCanA blk len k v sz ((D, C), (F, lf), (q, fl, first), (wt, kp), (tab, stab, snap, tops), (sg, at', ser, gr, hl, tk)) = true) → (some (0 : Int)) = some (if spCanA blk len k v sz ((D, C), (F, lf), (q, fl, first), (wt, kp), (tab, stab, snap, tops), (sg, at', ser, gr, hl, tk)) = true then 1 else 0) := fun _ h => by rw [if_neg h]
  unfold St_takesRecord St_takesRecord_p69 Qu_waitingCount
  rw [p5, c3.2.1, c3.2.2.1, pw (by omega) (by omega)]
  simp only [Option.bind_some]
  by_cases a : hl = true
  · rw [if_neg (by rw [if_pos a]; decide)]
    refine no True (fun h => ?_)
    unfold spCanA at h; simp only [Bool.and_eq_true, decide_eq_true_eq] at h
    rw [a] at h; simp at h
  rw [if_pos (by rw [if_neg a])]
  have a' : hl = false := by cases hl with | true => exact absurd rfl a | false => rfl
  have cn : ∀ X : Prop, (spCanA blk len k v sz ((D, C), (F, lf), (q, fl, first), (wt, kp), (tab, stab, snap, tops), (sg, at', ser, gr, hl, tk)) = true ↔ (q.length - fl < 16 ∧ 0 ≤ k ∧ k < 16 ∧ 0 ≤ v ∧ v < 1000 ∧ 0 ≤ sz ∧ sz < 41 ∧ spBeh blk len 6 5 (3 + sz.toNat) ≠ none)) := by
    intro _
    unfold spCanA spWtg
    simp only [Bool.and_eq_true, decide_eq_true_eq, a', Bool.not_false, true_and, and_assoc]
  by_cases b1 : (q.length : Int) - (fl : Int) < 16
  rotate_left
  · rw [if_neg b1]; exact no True (fun h => b1 (by have := ((cn True).mp h).1; omega))
  rw [if_pos b1]
  by_cases b2 : k < 0
  · rw [if_pos b2]; exact no True (fun h => by have := (cn True).mp h; omega)
  rw [if_neg b2]
  by_cases b3 : k < 16
  rotate_left
  · rw [if_neg b3]; exact no True (fun h => by have := (cn True).mp h; omega)
  rw [if_pos b3]
  by_cases b4 : v < 0
  · rw [if_pos b4]; exact no True (fun h => by have := (cn True).mp h; omega)
  rw [if_neg b4]
  by_cases b5 : v < 1000
  rotate_left
  · rw [if_neg b5]; exact no True (fun h => by have := (cn True).mp h; omega)
  rw [if_pos b5]
  by_cases b6 : sz < 0
  · rw [if_pos b6]; exact no True (fun h => by have := (cn True).mp h; omega)
  rw [if_neg b6]
  by_cases b7 : sz < 41
  rotate_left
  · rw [if_neg b7]; exact no True (fun h => by have := (cn True).mp h; omega)
  rw [if_pos b7, pw (by omega) (by omega)]
  have hb := c_beh (k := 5) (left := 3 + sz.toNat) i1.1 c1 (by omega) (by omega)
  rw [show ((5 : Nat) : Int) = 5 from rfl, show ((3 + sz.toNat : Nat) : Int) = 3 + sz by omega] at hb
  rw [hb]
  simp only [Option.bind_some]
  cases hq : spBeh blk len 6 5 (3 + sz.toNat) with
  | none =>
    rw [if_pos rfl]
    exact no True (fun h => ((cn True).mp h).2.2.2.2.2.2.2 hq)
  | some e =>
    rw [if_neg (by show ¬ ((e : Int) = -1); omega), if_pos ((cn True).mpr ⟨by omega, by omega, b3, by omega, b5, by omega, b7, by rw [hq]; simp⟩)]
theorem c_addQ {h : jH} {o n : Nat} {b k v sz : Int} {s : spSt} (hs : CS h o ns blk len n s) (hI : spInv ns blk len b s) (hw : spWtg s < 16) : ∃ h', Qu_add h (o + 7) k v sz (h o 9) = some h' ∧ (∀ z, (z < o + 7 ∨ o + 11 < z) → h' z = h z) ∧ CS h' o ns blk len n (spApp k v sz s) := by
  have hs0 := hs
  obtain ⟨⟨D, C⟩, ⟨F, lf⟩, ⟨q, fl, first⟩, ⟨wt, kp⟩, ⟨tab, stab, snap, tops⟩, ⟨sg, at', ser, gr, hl, tk⟩⟩ := s
  obtain ⟨i1, i2, ⟨j1, j2, j3, j4, j5, j6, j7, j8⟩, i4, i5, i6, i7⟩ := hI
  obtain ⟨c1, ⟨c2, c2'⟩, c3, ⟨c4, c4'⟩, ⟨t1, t2, t3, t4⟩, p1, p2, p3, p4, p5, p6⟩ := hs
  unfold spWtg at hw
  dsimp only at hw
  unfold Qu_add
  rw [c3.2.2.1, g_putN (by omega)]
  simp only [Option.bind_some]
  rw [jup_ne (show o + 7 ≠ o + 7 + 1 by omega), c3.2.2.1, g_putN (by omega)]
  simp only [Option.bind_some]
  rw [jup_ne (show o + 7 ≠ o + 7 + 2 by omega), jup_ne (show o + 7 ≠ o + 7 + 1 by omega), c3.2.2.1, g_putN (by omega)]
  simp only [Option.bind_some]
  rw [jup_ne (show o + 7 ≠ o + 7 + 3 by omega), jup_ne (show o + 7 ≠ o + 7 + 2 by omega), jup_ne (show o + 7 ≠ o + 7 + 1 by omega), c3.2.2.1, g_putN (by omega)]
  simp only [Option.bind_some]
  rw [jup_ne (show o + 7 ≠ o + 7 + 4 by omega), jup_ne (show o + 7 ≠ o + 7 + 3 by omega), jup_ne (show o + 7 ≠ o + 7 + 2 by omega), jup_ne (show o + 7 ≠ o + 7 + 1 by omega), c3.2.2.1, pw (by omega) (by omega), p6]
  obtain ⟨g, hg⟩ : ∃ g : jH, g = jup (jup (jup (jup (jup h (o + 7 + 1) q.length k) (o + 7 + 2) q.length v) (o + 7 + 3) q.length sz) (o + 7 + 4) q.length tk) (o + 7) 6 ((q.length : Int) + 1) := ⟨_, rfl⟩
  rw [← hg]
  have go : ∀ z, (z < o + 7 ∨ o + 11 < z) → g z = h z := fun z hz => by rw [hg, jup_ne (by omega), jup_ne (by omega), jup_ne (by omega), jup_ne (by omega), jup_ne (by omega)]
  have r0 : ∀ f, f ≠ 6 → g (o + 7) f = h (o + 7) f := fun f hf => by rw [hg, ju_ne hf, jup_ne (by omega), jup_ne (by omega), jup_ne (by omega), jup_ne (by omega)]
  have r1 : ∀ f, g (o + 7 + 1) f = if f = q.length then k else h (o + 7 + 1) f := fun f => by rw [hg, jup_ne (by omega), jup_ne (by omega), jup_ne (by omega), jup_ne (by omega), ju_if]
  have r2 : ∀ f, g (o + 7 + 2) f = if f = q.length then v else h (o + 7 + 2) f := fun f => by rw [hg, jup_ne (by omega), jup_ne (by omega), jup_ne (by omega), ju_if, jup_ne (by omega)]
  have r3 : ∀ f, g (o + 7 + 3) f = if f = q.length then sz else h (o + 7 + 3) f := fun f => by rw [hg, jup_ne (by omega), jup_ne (by omega), ju_if, jup_ne (by omega), jup_ne (by omega)]
  have r4 : ∀ f, g (o + 7 + 4) f = if f = q.length then tk else h (o + 7 + 4) f := fun f => by rw [hg, jup_ne (by omega), ju_if, jup_ne (by omega), jup_ne (by omega), jup_ne (by omega)]
  refine ⟨g, rfl, go, c1.eq (fun z z1 z2 => go z (by omega)), ⟨?_, by rw [go _ (by omega)]; exact c2'⟩, ⟨by rw [r0 4 (by decide)]; exact c3.1, by rw [r0 5 (by decide)]; exact c3.2.1, by rw [hg, ju_eq, List.length_append]; simp, by rw [List.length_append]; simp only [List.length_cons, List.length_nil]; omega, fun i r hr => ?_⟩, ⟨?_, ?_⟩, ⟨?_, ?_, by rw [go _ (by omega)]; exact t3, ?_⟩, by rw [go _ (by omega)]; exact p1, by rw [go _ (by omega)]; exact p2, by rw [go _ (by omega)]; exact p3, by rw [go _ (by omega)]; exact p4, by rw [go _ (by omega)]; exact p5, by rw [go _ (by omega)]; exact p6⟩
  · unfold CF; rw [go _ (by omega), go _ (by omega), go _ (by omega)]; exact c2
  · rw [List.getElem?_append] at hr
    by_cases hi : i < q.length
    · rw [if_pos hi] at hr
      rw [r1, r2, r3, r4, if_neg (by omega), if_neg (by omega), if_neg (by omega), if_neg (by omega)]
      exact c3.2.2.2.2 i r hr
    · rw [if_neg hi] at hr
      have h0 : i - q.length = 0 := by
        have := (List.getElem?_eq_some_iff.mp hr).1
        simp at this
        omega
      rw [h0] at hr
      have := Option.some.inj hr
      have hiq : i = q.length := by omega
      rw [r1, r2, r3, r4, if_pos hiq, if_pos hiq, if_pos hiq, if_pos hiq, ← this]
      exact ⟨rfl, rfl, rfl, rfl⟩
  · unfold CW CWa; rw [go _ (by omega), go _ (by omega), go _ (by omega)]; exact c4
  · unfold CKn; rw [go _ (by omega), go _ (by omega), go _ (by omega), go _ (by omega)]; exact c4'
  · rw [go _ (by omega)]; exact t1
  · rw [go _ (by omega)]; exact t2
  · rw [go _ (by omega)]; exact t4
theorem m_appends {h : jH} {o : Nat} {b k v sz : Int} {kpm : spKp} {s : spSt} (hs : MS h o ns blk len kpm s) (hI : spInv ns blk len b s) (hw : spWtg s < 16) : ∃ h', M_appends h o k v sz = some h' ∧ (∀ z, z ≠ o + 33 → h' z = h z) ∧ MS h' o ns blk len kpm (spApp k v sz s) ∧ h' (o + 33) 1 = s.2.2.1.2.2 + (s.2.2.1.1.length : Int) + 1 := by
  obtain ⟨⟨D, C⟩, ⟨F, lf⟩, ⟨q, fl, first⟩, ⟨wt, kp⟩, ⟨tab, stab, snap, tops⟩, ⟨sg, at', ser, gr, hl, tk⟩⟩ := s
  have hF := spInv_F hI
  obtain ⟨i1, i2, ⟨j1, j2, j3, j4, j5, j6, j7, j8⟩, i4, i5, i6, i7⟩ := hI
  obtain ⟨c1, ⟨c2, c2'⟩, c3, ⟨c4, c4', c4''⟩, c5, ⟨t1, t2, t3, t4⟩, p1, p2, p3, p4, p5, p6, p7⟩ := hs
  unfold spWtg at hw
  dsimp only at hw hF
  obtain ⟨m, hm⟩ : ∃ m : Nat, m = ((first + (q.length : Int)) % 32).toNat := ⟨_, rfl⟩
  have hm32 : m < 32 := by omega
  have e1 : wr (16 + wr (4 * jand (h (o + 33) 1) 31)) = ((16 + 4 * m : Nat) : Int) := by
    rw [pj_31, c3.2.1, pw (x := 4 * ((first + (q.length : Int)) % 32)) (by omega) (by omega), pw (by omega) (by omega)]
    omega
  unfold M_appends
  simp only [show ((1 : Int)).toNat = 1 from rfl, show ((11 : Int)).toNat = 11 from rfl, show ((0 : Int)).toNat = 0 from rfl, e1]
  rw [pw (x := ((16 + 4 * m : Nat) : Int) + 1) (by omega) (by omega), pw (x := ((16 + 4 * m : Nat) : Int) + 2) (by omega) (by omega), pw (x := ((16 + 4 * m : Nat) : Int) + 3) (by omega) (by omega)]
  rw [show (((16 + 4 * m : Nat) : Int) + 1).toNat = 16 + 4 * m + 1 by omega, show (((16 + 4 * m : Nat) : Int) + 2).toNat = 16 + 4 * m + 2 by omega, show (((16 + 4 * m : Nat) : Int) + 3).toNat = 16 + 4 * m + 3 by omega, Int.toNat_natCast]
  rw [if_pos (by decide), if_pos (by omega), if_pos (by omega), if_pos (by omega), if_pos (by decide), if_pos (by omega), if_pos (by decide), if_pos (by decide), if_pos (by decide), if_pos (by decide)]
  rw [ju_ne (show (0 : Nat) ≠ 16 + 4 * m + 2 by omega), ju_ne (show (0 : Nat) ≠ 16 + 4 * m + 1 by omega), ju_ne (show (0 : Nat) ≠ 16 + 4 * m by omega), p6]
  rw [ju_ne (show (1 : Nat) ≠ 16 + 4 * m + 3 by omega), ju_ne (show (1 : Nat) ≠ 16 + 4 * m + 2 by omega), ju_ne (show (1 : Nat) ≠ 16 + 4 * m + 1 by omega), ju_ne (show (1 : Nat) ≠ 16 + 4 * m by omega), c3.2.1, pw (x := first + (q.length : Int) + 1) (by omega) (by omega)]
  rw [ju_ne (show (11 : Nat) ≠ 1 by decide), ju_ne (show (11 : Nat) ≠ 16 + 4 * m + 3 by omega), ju_ne (show (11 : Nat) ≠ 16 + 4 * m + 2 by omega), ju_ne (show (11 : Nat) ≠ 16 + 4 * m + 1 by omega), ju_ne (show (11 : Nat) ≠ 16 + 4 * m by omega), c3.2.2.1, pw (x := (q.length : Int) - (fl : Int) + 1) (by omega) (by omega)]
  obtain ⟨g, hg⟩ : ∃ g : jH, g = jup (jup (jup (jup (jup (jup h (o + 33) (16 + 4 * m) k) (o + 33) (16 + 4 * m + 1) v) (o + 33) (16 + 4 * m + 2) sz) (o + 33) (16 + 4 * m + 3) tk) (o + 33) 1 (first + (q.length : Int) + 1)) (o + 33) 11 ((q.length : Int) - (fl : Int) + 1) := ⟨_, rfl⟩
  rw [← hg]
  have go : ∀ z, z ≠ o + 33 → g z = h z := fun z hz => by rw [hg, jup_ne hz, jup_ne hz, jup_ne hz, jup_ne hz, jup_ne hz, jup_ne hz]
  have gw : ∀ i, g (o + 33) i = if i = 11 then (q.length : Int) - (fl : Int) + 1 else if i = 1 then first + (q.length : Int) + 1 else if i = 16 + 4 * m + 3 then tk else if i = 16 + 4 * m + 2 then sz else if i = 16 + 4 * m + 1 then v else if i = 16 + 4 * m then k else h (o + 33) i := fun i => by rw [hg, ju_if, ju_if, ju_if, ju_if, ju_if, ju_if]
  have kk : ∀ i, i ≠ 11 → i ≠ 1 → ¬ (16 + 4 * m ≤ i ∧ i ≤ 16 + 4 * m + 3) → g (o + 33) i = h (o + 33) i := fun i i1 i2 i3 => by rw [gw, if_neg i1, if_neg i2, if_neg (by omega), if_neg (by omega), if_neg (by omega), if_neg (by omega)]
  refine ⟨g, rfl, go, ⟨c1.fr i1.1 (go _ (by omega)) (fun i _ _ => kk i (by omega) (by omega) (by omega)), ⟨⟨by rw [kk _ (by omega) (by omega) (by omega)]; exact c2.1, fun i e he => ?_⟩, by rw [kk _ (by omega) (by omega) (by omega)]; exact c2'⟩, ⟨by rw [kk _ (by omega) (by omega) (by omega)]; exact c3.1, ?_, ?_, ?_, ?_, fun i r hr => ?_⟩, ⟨by rw [kk _ (by omega) (by omega) (by omega)]; exact c4, fun i e he => ?_, fun x hx => by rw [kk _ (by omega) (by omega) (by omega)]; exact c4'' x hx⟩, ⟨by rw [kk _ (by omega) (by omega) (by omega)]; exact c5.1, c5.2.1, fun i e he => ?_⟩, ⟨fun i hi => by rw [kk _ (by omega) (by omega) (by omega)]; exact t1 i hi, fun i hi => by rw [kk _ (by omega) (by omega) (by omega)]; exact t2 i hi, by rw [kk _ (by omega) (by omega) (by omega)]; exact t3, fun i hi => by rw [kk _ (by omega) (by omega) (by omega)]; exact t4 i hi⟩, by rw [kk _ (by omega) (by omega) (by omega)]; exact p1, by rw [kk _ (by omega) (by omega) (by omega)]; exact p2, by rw [kk _ (by omega) (by omega) (by omega)]; exact p3, by rw [kk _ (by omega) (by omega) (by omega)]; exact p4, by rw [kk _ (by omega) (by omega) (by omega)]; exact p5, by rw [kk _ (by omega) (by omega) (by omega)]; exact p6, by rw [kk _ (by omega) (by omega) (by omega)]; exact p7⟩, ?_⟩
  · rw [kk _ (by omega) (by omega) (by omega), kk _ (by omega) (by omega) (by omega)]; exact c2.2 i e he
  · rw [gw, if_neg (by decide), if_pos rfl, List.length_append]; simp only [List.length_cons, List.length_nil]; omega
  · rw [gw, if_pos rfl, List.length_append]; simp only [List.length_cons, List.length_nil]; omega
  · rw [List.length_append]; simp only [List.length_cons, List.length_nil]; omega
  · rw [List.length_append]; omega
  · rw [List.getElem?_append] at hr
    by_cases hi : i < q.length
    · rw [if_pos hi] at hr
      have hne : ((first + (i : Int)) % 32).toNat ≠ m := by omega
      have hlt : ((first + (i : Int)) % 32).toNat < 32 := by omega
      rw [kk _ (by omega) (by omega) (by omega), kk _ (by omega) (by omega) (by omega), kk _ (by omega) (by omega) (by omega), kk _ (by omega) (by omega) (by omega)]
      exact c3.2.2.2.2.2 i r hr
    · rw [if_neg hi] at hr
      have h0 : i - q.length = 0 := by
        have := (List.getElem?_eq_some_iff.mp hr).1
        simp at this
        omega
      rw [h0] at hr
      have := Option.some.inj hr
      have hiq : i = q.length := by omega
      subst hiq
      rw [← hm, ← this, gw, gw, gw, gw]
      refine ⟨?_, ?_, ?_, ?_⟩
      · rw [if_neg (by omega), if_neg (by omega), if_neg (by omega), if_neg (by omega), if_neg (by omega), if_pos rfl]
      · rw [if_neg (by omega), if_neg (by omega), if_neg (by omega), if_neg (by omega), if_pos rfl]
      · rw [if_neg (by omega), if_neg (by omega), if_neg (by omega), if_pos rfl]
      · rw [if_neg (by omega), if_neg (by omega), if_pos rfl]
  · have hi := (List.getElem?_eq_some_iff.mp he).1
    have := i4.1
    rw [kk _ (by omega) (by omega) (by omega)]; exact c4' i e he
  · have hi := (List.getElem?_eq_some_iff.mp he).1
    have := c5.2.1
    rw [kk _ (by omega) (by omega) (by omega), kk _ (by omega) (by omega) (by omega), kk _ (by omega) (by omega) (by omega)]; exact c5.2.2 i e he
  · rw [gw, if_neg (by decide), if_pos rfl]
end ACT
