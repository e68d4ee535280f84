/-! a question is answered: the reference -/
/-- what answering may change -/
def MAa (o : Nat) (h h' : jH) : Prop := (∀ z, z ≠ o → z ≠ o + 37 → z ≠ o + 67 → h' z = h z) ∧ ∀ f, f ≠ 48 → f ≠ 105 → f ≠ 106 → f ≠ 107 → (f < 59 ∨ 65 < f) → h' o f = h o f
theorem MAa.tr {o : Nat} {h h1 h2 : jH} (a : MAa o h h1) (b : MAa o h1 h2) : MAa o h h2 := ⟨fun z x y w => (b.1 z x y w).trans (a.1 z x y w), fun f x1 x2 x3 x4 x5 => (b.2 f x1 x2 x3 x4 x5).trans (a.2 f x1 x2 x3 x4 x5)⟩
section MAN
variable {o ns blk len : Nat} {b : Int}
theorem m_qTakes {h : jH} {kd j : Nat} {v acc : Int} (hkd : kd ≤ 5) (hv : kd ≤ 2 → v = 0 ∨ v = 1) (hb : -1000000 ≤ v ∧ v ≤ 1000000) (ha : -100000000 ≤ acc ∧ acc ≤ 100000000) (h1 : kd < 4 → h o 106 = acc) (h2 : 4 ≤ kd → (acc = spAc0 kd ∧ h o 107 ≠ 0) ∨ (h o 107 = 0 ∧ h o 106 = acc)) : ∃ h', M_qTakes h o (kd : Int) v (j : Int) = some h' ∧ (∀ z, z ≠ o → h' z = h z) ∧ (∀ f, f ≠ 106 → f ≠ 107 → h' o f = h o f) ∧ h' o 107 = 0 ∧ h' o 106 = spAcc kd (j : Int) v acc := by
  have fin : ∀ x : Int, (∀ z, z ≠ o → (jup (jup h o 106 x) o 107 0) z = h z) ∧ (∀ f, f ≠ 106 → f ≠ 107 → (jup (jup h o 106 x) o 107 0) o f = h o f) ∧ (jup (jup h o 106 x) o 107 0) o 107 = 0 ∧ (jup (jup h o 106 x) o 107 0) o 106 = x := fun x => ⟨fun z hz => by rw [jup_ne hz, jup_ne hz], fun f f1 f2 => by rw [ju_ne f2, ju_ne f1], ju_eq, by rw [ju_ne (by decide), ju_eq]⟩
  have fin0 : (∀ z, z ≠ o → (jup h o 107 0) z = h z) ∧ (∀ f, f ≠ 106 → f ≠ 107 → (jup h o 107 0) o f = h o f) ∧ (jup h o 107 0) o 107 = 0 ∧ (jup h o 107 0) o 106 = h o 106 := ⟨fun z hz => jup_ne hz, fun f _ f2 => ju_ne f2, ju_eq, ju_ne (by decide)⟩
  have hk6 : kd = 0 ∨ kd = 1 ∨ kd = 2 ∨ kd = 3 ∨ kd = 4 ∨ kd = 5 := by omega
  rcases hk6 with e | e | e | e | e | e <;> subst e
  · have h106 := h1 (by decide)
    rcases hv (by decide) with e | e <;> subst e
    · refine ⟨_, ?_, fin0.1, fin0.2.1, fin0.2.2.1, ?_⟩
      · simp [M_qTakes, M_qTakes_p15, M_qTakes_p16, M_qTakes_p38, M_qTakes_p55, M_qTakes_p75, M_qTakes_p90, jcmp_eq]
      · rw [fin0.2.2.2, h106]; simp [spAcc]
    · by_cases c : acc = -1
      · refine ⟨_, ?_, (fin (j : Int)).1, (fin (j : Int)).2.1, (fin (j : Int)).2.2.1, ?_⟩
        · simp [M_qTakes, M_qTakes_p15, M_qTakes_p16, M_qTakes_p38, M_qTakes_p48, M_qTakes_p55, M_qTakes_p75, M_qTakes_p90, jcmp_eq, h106, c]
        · rw [(fin (j : Int)).2.2.2]; simp [spAcc, c]
      · refine ⟨_, ?_, fin0.1, fin0.2.1, fin0.2.2.1, ?_⟩
        · simp [M_qTakes, M_qTakes_p15, M_qTakes_p16, M_qTakes_p38, M_qTakes_p55, M_qTakes_p75, M_qTakes_p90, jcmp_eq, h106, c]
        · rw [fin0.2.2.2, h106]; simp [spAcc, c]
  · have h106 := h1 (by decide)
    rcases hv (by decide) with e | e <;> subst e
    · refine ⟨_, ?_, fin0.1, fin0.2.1, fin0.2.2.1, ?_⟩
      · simp [M_qTakes, M_qTakes_p15, M_qTakes_p16, M_qTakes_p38, M_qTakes_p55, M_qTakes_p75, M_qTakes_p90, jcmp_eq]
      · rw [fin0.2.2.2, h106]; simp [spAcc]
    · refine ⟨_, ?_, (fin (j : Int)).1, (fin (j : Int)).2.1, (fin (j : Int)).2.2.1, ?_⟩
      · simp [M_qTakes, M_qTakes_p15, M_qTakes_p16, M_qTakes_p38, M_qTakes_p48, M_qTakes_p55, M_qTakes_p75, M_qTakes_p90, jcmp_eq]
      · rw [(fin (j : Int)).2.2.2]; simp [spAcc]
  · have h106 := h1 (by decide)
    rcases hv (by decide) with e | e <;> subst e
    · refine ⟨_, ?_, fin0.1, fin0.2.1, fin0.2.2.1, ?_⟩
      · simp [M_qTakes, M_qTakes_p15, M_qTakes_p16, M_qTakes_p38, M_qTakes_p55, M_qTakes_p75, M_qTakes_p90, jcmp_eq]
      · rw [fin0.2.2.2, h106]; simp [spAcc]
    · have ew : wl (acc + 1) = acc + 1 := pv (by omega) (by omega)
      refine ⟨_, ?_, (fin (acc + 1)).1, (fin (acc + 1)).2.1, (fin (acc + 1)).2.2.1, ?_⟩
      · simp [M_qTakes, M_qTakes_p15, M_qTakes_p16, M_qTakes_p38, M_qTakes_p48, M_qTakes_p55, M_qTakes_p75, M_qTakes_p90, jcmp_eq, h106, ew]
      · rw [(fin (acc + 1)).2.2.2]; simp [spAcc]
  · have h106 := h1 (by decide)
    have ew : wl (acc + v) = acc + v := pv (by omega) (by omega)
    refine ⟨_, ?_, (fin (acc + v)).1, (fin (acc + v)).2.1, (fin (acc + v)).2.2.1, ?_⟩
    · simp [M_qTakes, M_qTakes_p15, M_qTakes_p16, M_qTakes_p38, M_qTakes_p55, M_qTakes_p75, M_qTakes_p90, h106, ew]
    · rw [(fin (acc + v)).2.2.2]; simp [spAcc]
  · rcases h2 (by decide) with ⟨g1, g2⟩ | ⟨g1, g2⟩
    · refine ⟨_, ?_, (fin v).1, (fin v).2.1, (fin v).2.2.1, ?_⟩
      · simp [M_qTakes, M_qTakes_p15, M_qTakes_p16, M_qTakes_p38, M_qTakes_p55, M_qTakes_p75, M_qTakes_p90, M_qTakes_p128, g2]
      · rw [(fin v).2.2.2, g1]
        show v = max (-1000000) v
        omega
    · by_cases c : acc < v
      · refine ⟨_, ?_, (fin v).1, (fin v).2.1, (fin v).2.2.1, ?_⟩
        · simp [M_qTakes, M_qTakes_p15, M_qTakes_p16, M_qTakes_p38, M_qTakes_p55, M_qTakes_p75, M_qTakes_p90, M_qTakes_p128, g1, g2, jcmp_gt, c]
        · rw [(fin v).2.2.2]
          show v = max acc v
          omega
      · refine ⟨_, ?_, fin0.1, fin0.2.1, fin0.2.2.1, ?_⟩
        · simp [M_qTakes, M_qTakes_p15, M_qTakes_p16, M_qTakes_p38, M_qTakes_p55, M_qTakes_p75, M_qTakes_p90, M_qTakes_p128, g1, g2, jcmp_gt, c]
        · rw [fin0.2.2.2, g2]
          show acc = max acc v
          omega
  · rcases h2 (by decide) with ⟨g1, g2⟩ | ⟨g1, g2⟩
    · refine ⟨_, ?_, (fin v).1, (fin v).2.1, (fin v).2.2.1, ?_⟩
      · simp [M_qTakes, M_qTakes_p15, M_qTakes_p16, M_qTakes_p38, M_qTakes_p55, M_qTakes_p75, M_qTakes_p90, M_qTakes_p128, g2]
      · rw [(fin v).2.2.2, g1]
        show v = min 1000000 v
        omega
    · by_cases c : v < acc
      · refine ⟨_, ?_, (fin v).1, (fin v).2.1, (fin v).2.2.1, ?_⟩
        · simp [M_qTakes, M_qTakes_p15, M_qTakes_p16, M_qTakes_p38, M_qTakes_p55, M_qTakes_p75, M_qTakes_p90, M_qTakes_p128, g1, g2, jcmp_lt, c]
        · rw [(fin v).2.2.2]
          show v = min acc v
          omega
      · refine ⟨_, ?_, fin0.1, fin0.2.1, fin0.2.2.1, ?_⟩
        · simp [M_qTakes, M_qTakes_p15, M_qTakes_p16, M_qTakes_p38, M_qTakes_p55, M_qTakes_p75, M_qTakes_p90, M_qTakes_p128, g1, g2, jcmp_lt, c]
        · rw [fin0.2.2.2, g2]
          show acc = min acc v
          omega
/-- what a question's formula is told: the reference -/
theorem m_qei {g0 : jH} {s : spSt} {kpm : spKp} {j : Nat} (hI : spInv ns blk len b s) (hs : MS g0 o ns blk len kpm s) (hj : j < ns) (h48 : g0 o 48 = (j : Int)) : MEi o (fun g => (∀ z, z ≠ o → z ≠ o + 37 → z ≠ o + 67 → g z = g0 z) ∧ ∀ f, f ≠ 105 → (f < 59 ∨ 65 < f) → g o f = g0 o f) spAlQ (spQe blk len s j) (j : Int) := by
  have hd0 : spDim ns blk len := by
    obtain ⟨⟨D, C⟩, ⟨F, lf⟩, ⟨q, fl, first⟩, ⟨wt, kp⟩, ⟨tab, stab, snap, tops⟩, ⟨sg, at', ser, gr, hl, tk⟩⟩ := s
    exact hI.1.1
  have hl5 := hd0.len
  have hn4 := hd0.2.1
  have hy := hI.que.2.2.2.2.2.2.1
  have hD0 := hs.que.2.2.2.2.2.2.2.2.1
  have htk := hs.que.2.2.2.2.2.2.2.2.2
  have htab : ∀ i, i < 16 → g0 (o + 33) (144 + i) = s.2.2.2.2.1.1 i := by
    obtain ⟨⟨D, C⟩, ⟨F, lf⟩, ⟨q, fl, first⟩, ⟨wt, kp⟩, ⟨tab, stab, snap, tops⟩, ⟨sg, at', ser, gr, hl, tk⟩⟩ := s
    obtain ⟨c1, c2, c3, c4, c5, ⟨t1, t2, t3, t4⟩, p1⟩ := hs
    exact t1
  have tin : ∀ i, i < 16 → -1 ≤ s.2.2.2.2.1.1 i := by
    obtain ⟨⟨D, C⟩, ⟨F, lf⟩, ⟨q, fl, first⟩, ⟨wt, kp⟩, ⟨tab, stab, snap, tops⟩, ⟨sg, at', ser, gr, hl, tk⟩⟩ := s
    obtain ⟨i1, i2, i3, i4, i5, i6, i7⟩ := hI
    exact fun i hi => (i5.1 i hi).1
  have hD : ∀ g : jH, ((∀ z, z ≠ o → z ≠ o + 37 → z ≠ o + 67 → g z = g0 z) ∧ ∀ f, f ≠ 105 → (f < 59 ∨ 65 < f) → g o f = g0 o f) → MD g o ns blk len s.1.1 s.1.2 := fun g hg => hD0.fr hd0 (hg.1 _ (by omega) (by omega) (by omega)) (fun i _ _ => by rw [hg.1 _ (by omega) (by omega) (by omega)])
  refine ⟨fun g1 g2 a c => ⟨fun z z1 z2 z3 => (c.1 z z1 z3).trans (a.1 z z1 z2 z3), fun f f1 f2 => (c.2 f f1).trans (a.2 f f1 f2)⟩, fun g k hg hk hal => ?_, fun g x hg hx _ => ?_, fun g x hg hx _ => ?_⟩
  · unfold spAlQ at hal
    simp only [Bool.or_eq_true, Bool.and_eq_true, decide_eq_true_eq] at hal
    have hk5 : k = 0 ∨ k = 5 ∨ k = 6 ∨ k = 7 ∨ k = 8 := by omega
    have e48 : g o 48 = (j : Int) := by rw [hg.2 48 (by decide) (by decide)]; exact h48
    have e33 : g (o + 33) = g0 (o + 33) := hg.1 _ (by omega) (by omega) (by omega)
    unfold M_qPartOf
    rcases hk5 with e | e | e | e | e <;> subst e
    · rw [if_pos (by decide), if_pos (by decide)]
      refine ⟨g, ?_, hg, rfl, rfl⟩
      rw [show ((0 : Int)).toNat = 0 from rfl, e33, htk]
      rfl
    · rw [if_neg (by decide), if_neg (by decide), if_neg (by decide), if_neg (by decide), if_neg (by decide), if_pos (by decide)]
      refine ⟨g, ?_, hg, rfl, rfl⟩
      rw [e48]
      rfl
    · rw [if_neg (by decide), if_neg (by decide), if_neg (by decide), if_neg (by decide), if_neg (by decide), if_neg (by decide), if_pos (by decide), e48, m_head hd0 (hD g hg) hy hj, Option.bind_some, m_ser hd0 (hD g hg) hy hj]
      refine ⟨g, ?_, hg, rfl, rfl⟩
      show _ = some ((if spHead (s.1.1 j) = true then spSer (s.1.1 j) else 0), g)
      by_cases c : spHead (s.1.1 j) = true
      · rw [if_pos c, if_neg (by decide), if_pos c]; rfl
      · rw [if_neg c, if_pos rfl, if_neg c]
    · rw [if_neg (by decide), if_neg (by decide), if_neg (by decide), if_neg (by decide), if_neg (by decide), if_neg (by decide), if_neg (by decide), if_pos (by decide), e48, m_head hd0 (hD g hg) hy hj, Option.bind_some, m_fst hd0 (hD g hg) hy hj]
      refine ⟨g, ?_, hg, rfl, rfl⟩
      show _ = some ((if spHead (s.1.1 j) = true then spFst (s.1.1 j) else 0), g)
      by_cases c : spHead (s.1.1 j) = true
      · rw [if_pos c, if_neg (by decide), if_pos c]; rfl
      · rw [if_neg c, if_pos rfl, if_neg c]
    · rw [if_neg (by decide), if_neg (by decide), if_neg (by decide), if_neg (by decide), if_neg (by decide), if_neg (by decide), if_neg (by decide), if_neg (by decide), e48]
      obtain ⟨g', x1, x2, x3, -⟩ := m_framesOf hd0 (hD g hg) hy hj
      rw [x1, Option.bind_some]
      exact ⟨g', rfl, ⟨fun z z1 z2 z3 => (x2 z z1 z2).trans (hg.1 z z1 z2 z3), fun f f1 f2 => (x3 f f2).trans (hg.2 f f1 f2)⟩, x2 _ (by omega) (by omega), x3 105 (by decide)⟩
  · unfold M_qOf
    rw [if_pos rfl, m_len (hD g hg) hd0, Option.bind_some, pw (x := (len : Int) - 1) (by omega) (by omega), m_isIn, Option.bind_some]
    show _ = some (if 0 ≤ x ∧ x < (len : Int) then s.1.1 j x.toNat else 0)
    by_cases c : 0 ≤ x ∧ x < (len : Int)
    · rw [if_pos (show 0 ≤ x ∧ x ≤ (len : Int) - 1 by omega), if_neg (by decide), if_pos c, pw (x := x) (by omega) (by omega)]
      have hat := m_at (h := g) (o := o) (s := j) (k := x.toNat) (by omega) (by omega)
      rw [show ((x.toNat : Nat) : Int) = x by omega] at hat
      rw [hat, Option.bind_some, (hD g hg).2.2.2.1 j x.toNat hj (by omega)]
    · rw [if_neg (show ¬ (0 ≤ x ∧ x ≤ (len : Int) - 1) by omega), if_pos rfl, if_neg c]
  · unfold M_qOf M_qOf_p90
    rw [if_neg (by decide), m_isIn, Option.bind_some]
    show _ = some (if 0 ≤ x ∧ x < 16 then max 0 (s.2.2.2.2.1.1 x.toNat) else 0)
    by_cases c : 0 ≤ x ∧ x < 16
    · have hx16 := tin x.toNat (by omega)
      rw [if_pos (show 0 ≤ x ∧ x ≤ 15 by omega), if_neg (by decide), if_pos c, pw (x := x) (by omega) (by omega), pw (x := 144 + x) (by omega) (by omega), if_pos (by omega), show (144 + x).toNat = 144 + x.toNat by omega, hg.1 (o + 33) (by omega) (by omega) (by omega), htab _ (by omega)]
      by_cases c2 : s.2.2.2.2.1.1 x.toNat = -1
      · rw [if_pos c2, c2]; rfl
      · rw [if_neg c2, if_pos (by omega), show max 0 (s.2.2.2.2.1.1 x.toNat) = s.2.2.2.2.1.1 x.toNat by omega]
    · rw [if_neg (show ¬ (0 ≤ x ∧ x ≤ 15) by omega), if_pos rfl, if_neg c]
theorem m_ansL {kd : Nat} {s : spSt} {kpm : spKp} {K : List Int} (hkd : kd ≤ 5) (hI : spInv ns blk len b s) (ht : spTys spAlQ K [] = some [decide (kd ≤ 2)]) (hKl : K.length ≤ 1600) : ∀ (r j : Nat) (h : jH), r + j = ns → MS h o ns blk len kpm s → h o 99 = (K.length : Int) → (∀ (i : Nat) (c : Int), K[i]? = some c → h (o + 65) i = c) → (kd < 4 → h o 106 = spAns (fun i => spTold (spQe blk len s i) K) kd j) → (4 ≤ kd → (j = 0 ∧ h o 107 ≠ 0) ∨ (h o 107 = 0 ∧ h o 106 = spAns (fun i => spTold (spQe blk len s i) K) kd j)) → ∃ h', M_ask_L183 h o (kd : Int) (j : Int) = some (spAns (fun i => spTold (spQe blk len s i) K) kd ns, h') ∧ MAa o h h' := by
  obtain ⟨vals, hvals⟩ : ∃ vals : Nat → Int, vals = fun i => spTold (spQe blk len s i) K := ⟨_, rfl⟩
  have hd0 : spDim ns blk len := by
    obtain ⟨⟨D, C⟩, ⟨F, lf⟩, ⟨q, fl, first⟩, ⟨wt, kp⟩, ⟨tab, stab, snap, tops⟩, ⟨sg, at', ser, gr, hl, tk⟩⟩ := s
    exact hI.1.1
  have hn4 := hd0.2.1
  have hn2 := hd0.1
  rw [← hvals]
  have hvb : ∀ i, i < ns → -1000000 ≤ vals i ∧ vals i ≤ 1000000 := by
    intro i hi
    rw [hvals]
    exact spTold_in (spQe_ok hI hi) ht
  have hv01 : kd ≤ 2 → ∀ i, i < ns → vals i = 0 ∨ vals i = 1 := by
    intro hk i hi
    rw [hvals]
    have hv := spTold_v (spQe_ok hI hi) ht
    rw [decide_eq_true hk] at hv
    exact hv
  have hab : ∀ j, j ≤ ns → -100000000 ≤ spAns vals kd j ∧ spAns vals kd j ≤ 100000000 := by
    have key : ∀ j, j ≤ ns → -1000000 * ((j : Int) + 1) ≤ spAns vals kd j ∧ spAns vals kd j ≤ 1000000 * ((j : Int) + 1) := by
      intro j
      induction j with
      | zero =>
        intro _
        show -1000000 * (((0 : Nat) : Int) + 1) ≤ spAc0 kd ∧ spAc0 kd ≤ 1000000 * (((0 : Nat) : Int) + 1)
        unfold spAc0
        repeat' split
        all_goals omega
      | succ j ih =>
        intro hj
        have h1 := hvb j (by omega)
        have h2 := ih (by omega)
        rw [spAns_s]
        unfold spAcc
        repeat' split
        all_goals omega
    intro j hj
    have := key j hj
    omega
  unfold M_ask_L183
  intro r
  induction r with
  | zero =>
    intro j h hr hs h99 hK h1 h2
    have hj : j = ns := by omega
    subst hj
    refine ⟨h, jloop_r ?_, fun _ _ _ _ => rfl, fun _ _ _ _ _ _ => rfl⟩
    show M_ask_B183 h o (kd : Int) (j : Int) = _
    have h5 : h (o + 28) 5 = (j : Int) := hs.que.2.2.2.2.2.2.2.2.1.1
    unfold M_ask_B183 M_segmentMany
    rw [if_pos (by decide), show ((5 : Int)).toNat = 5 from rfl, h5, Option.bind_some, if_neg (by omega)]
    have h106 : h o 106 = spAns vals kd j := by
      by_cases c : kd < 4
      · exact h1 c
      · rcases h2 (by omega) with ⟨c1, -⟩ | ⟨-, c1⟩
        · omega
        · exact c1
    rw [h106]
    rfl
  | succ r ih =>
    intro j h hr hs h99 hK h1 h2
    have hj : j < ns := by omega
    have h5 : h (o + 28) 5 = (ns : Int) := hs.que.2.2.2.2.2.2.2.2.1.1
    obtain ⟨g0, hg0⟩ : ∃ g0 : jH, g0 = jup h o 48 (j : Int) := ⟨_, rfl⟩
    have go : ∀ z, z ≠ o → g0 z = h z := fun z hz => by rw [hg0, jup_ne hz]
    have s0 : MS g0 o ns blk len kpm s := hs.eq (go _ (by omega)) (go _ (by omega))
    have hMI := m_qei hI s0 hj (by rw [hg0, ju_eq])
    obtain ⟨g1, hg1⟩ : ∃ g1 : jH, g1 = jup g0 o 105 0 := ⟨_, rfl⟩
    have go1 : ∀ z, z ≠ o → g1 z = g0 z := fun z hz => by rw [hg1, jup_ne hz]
    obtain ⟨v, g2, w1, w2, w3, w4⟩ := m_toldL hMI (spQe_ok hI hj) hKl (fun g hg => ⟨by rw [hg.2 99 (by decide) (by decide), hg0, ju_ne (by decide)]; exact h99, fun i c hc => by rw [hg.1 (o + 65) (by omega) (by omega) (by omega), go _ (by omega)]; exact hK i c hc⟩) K.length 0 g1 [] [] (by omega) ⟨fun z z1 _ _ => go1 z z1, fun f f1 _ => by rw [hg1, ju_ne f1]⟩ (by rw [List.drop_zero]; exact ht) trivial (by simp) (by rw [hg1, ju_eq]; rfl) trivial
    rw [List.drop_zero] at w2
    have hv : vals j = v := by rw [hvals]; show spTold (spQe blk len s j) K = v; unfold spTold; rw [w2]; rfl
    have hq : M_qTold g0 o (j : Int) = some (v, g2) := by
      unfold M_qTold
      rw [← hg1]
      exact w1
    have e2 : ∀ f, f ≠ 48 → f ≠ 105 → (f < 59 ∨ 65 < f) → g2 o f = h o f := fun f f1 f2 f3 => by rw [w3.2 f f2 f3, hg0, ju_ne f1]
    obtain ⟨g3, y1, y2, y3, y4, y5⟩ := m_qTakes (o := o) (h := g2) (kd := kd) (j := j) (v := v) (acc := spAns vals kd j) hkd (fun hk => by rw [← hv]; exact hv01 hk j hj) (by rw [← hv]; exact hvb j hj) (hab j (by omega)) (fun c => by rw [e2 106 (by decide) (by decide) (by decide)]; exact h1 c) (fun c => by
      rw [e2 106 (by decide) (by decide) (by decide), e2 107 (by decide) (by decide) (by decide)]
      rcases h2 c with ⟨c1, c2⟩ | c1
      · exact Or.inl ⟨by rw [c1]; rfl, c2⟩
      · exact Or.inr c1)
    have hz : ∀ z, z ≠ o → z ≠ o + 37 → z ≠ o + 67 → g3 z = h z := fun z z1 z2 z3 => by rw [y2 z z1, w3.1 z z1 z2 z3, go z z1]
    have hf : ∀ f, f ≠ 48 → f ≠ 105 → f ≠ 106 → f ≠ 107 → (f < 59 ∨ 65 < f) → g3 o f = h o f := fun f f1 f2 f3 f4 f5 => by rw [y3 f f3 f4, e2 f f1 f2 f5]
    obtain ⟨h', z1, z2⟩ := ih (j + 1) g3 (by omega) (hs.eq (hz _ (by omega) (by omega) (by omega)) (hz _ (by omega) (by omega) (by omega))) (by rw [hf 99 (by decide) (by decide) (by decide) (by decide) (by decide)]; exact h99) (fun i c hc => by rw [hz _ (by omega) (by omega) (by omega)]; exact hK i c hc) (fun _ => by rw [y5, spAns_s, hv]) (fun _ => Or.inr ⟨y4, by rw [y5, spAns_s, hv]⟩)
    refine ⟨h', (jloop_l (s' := ((((j + 1 : Nat)) : Int), g3)) ?_).trans z1, MAa.tr ⟨hz, hf⟩ z2⟩
    show M_ask_B183 h o (kd : Int) (j : Int) = _
    unfold M_ask_B183 M_segmentMany
    rw [if_pos (by decide), show ((5 : Int)).toNat = 5 from rfl, h5, Option.bind_some, if_pos (by omega), ← hg0, hq, Option.bind_some, y1, Option.bind_some, pw (by omega) (by omega)]
    rfl
end MAN
