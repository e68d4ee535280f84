/-! giving up: the reference -/
section GIY
variable {ns blk len o : Nat}
theorem m_givL {sg at' : Nat} {ser v2 : Int} {D C : Nat → Nat → Int} (hd0 : spDim ns blk len) (hat : at' ≤ len) (hy : spByD ns len D) (hv2 : v2 = if ser = 0 then 1 else 0) : ∀ (m i : Nat) (h : jH) (acc : Int), i + m = ns → MD h o ns blk len (spGp (spGk D len ser sg at') i (fun _ => false) D) (spGp (spGk D len ser sg at') i (fun _ => false) C) → h (o + 33) 5 = (sg : Int) → h (o + 33) 6 = (at' : Int) → h (o + 33) 7 = ser → 0 ≤ acc → acc + 128 * (m : Int) ≤ 100000 →
    ∃ h', M_giveUp_L40 h o acc v2 (i : Int) = (if v2 = 0 then some (acc + (spSum (spGc D len (spGk D len ser sg at')) ns - spSum (spGc D len (spGk D len ser sg at')) i), jup h' (o + 33) 10 0) else Option.bind (M_opensOnDisk (jup h' (o + 33) 10 0) o 0 (h' (o + 33) 1)) (fun b24 => some (acc + (spSum (spGc D len (spGk D len ser sg at')) ns - spSum (spGc D len (spGk D len ser sg at')) i), b24))) ∧ MDf o h h' ∧ MD h' o ns blk len (spGp (spGk D len ser sg at') ns (fun _ => false) D) (spGp (spGk D len ser sg at') ns (fun _ => false) C) := by
  have hl := hd0.len
  have hn4 := hd0.2.1
  have hseg : ∀ (g : jH) (D' C' : Nat → Nat → Int), MD g o ns blk len D' C' → M_segmentMany g o = some (ns : Int) := by
    intro g D' C' hg
    unfold M_segmentMany
    rw [if_pos (by decide), show ((5 : Int)).toNat = 5 from rfl, hg.1]
  unfold M_giveUp_L40
  intro m
  induction m with
  | zero =>
    intro i h acc hi hc h5 h6 h7 h0 h1
    obtain rfl : i = ns := by omega
    refine ⟨h, ?_, MDf.rf, hc⟩
    rw [Int.sub_self, Int.add_zero]
    refine jloop_x ?_
    show M_giveUp_B40 h o acc v2 (i : Int) = _
    unfold M_giveUp_B40
    rw [hseg h _ _ hc]
    simp only [Option.bind_some]
    rw [if_neg (by omega), if_pos (by decide), show ((10 : Int)).toNat = 10 from rfl, show ((1 : Int)).toNat = 1 from rfl]
    by_cases a : v2 = 0
    · rw [if_pos a, if_pos a]
    · rw [if_neg a, if_neg a, if_pos (by decide), ju_ne (by decide)]
  | succ m ih =>
    intro i h acc hi hc h5 h6 h7 h0 h1
    have hi' : i < ns := by omega
    obtain ⟨S, hS⟩ : ∃ S : Nat → Int, S = spGc D len (spGk D len ser sg at') := ⟨_, rfl⟩
    have hSi : spSum S (i + 1) = spSum S i + S i := rfl
    have hyp := spGp_by (k := spGk D len ser sg at') (i := i) (x := fun _ => false) hy
    rw [← hS]
    rw [← hS] at ih
    have wipe : M_giveUp_B40 h o acc v2 (i : Int) = Option.bind (M_zeroes h o (i : Int) (spGk D len ser sg at' i : Int)) (fun b => some (.inl (wr (acc + b.1), wr ((i : Int) + 1), b.2))) → ∃ h', jloop (fun s : (Int × Int × jH) => M_giveUp_B40 s.2.2 o s.1 v2 s.2.1) (acc, (i : Int), h) = (if v2 = 0 then some (acc + (spSum S ns - spSum S i), jup h' (o + 33) 10 0) else Option.bind (M_opensOnDisk (jup h' (o + 33) 10 0) o 0 (h' (o + 33) 1)) (fun b24 => some (acc + (spSum S ns - spSum S i), b24))) ∧ MDf o h h' ∧ MD h' o ns blk len (spGp (spGk D len ser sg at') ns (fun _ => false) D) (spGp (spGk D len ser sg at') ns (fun _ => false) C) := by
      intro hB
      obtain ⟨g, e1, e2, e3⟩ := m_zero (o := o) (s := i) (k := spGk D len ser sg at' i) hd0 hi' (spGk_le hat) hc
      rw [spGp_row (x := fun _ => false) rfl, show spNz (D i) (len - spGk D len ser sg at' i) (spGk D len ser sg at' i) = S i by rw [hS]; rfl] at e1
      rw [spGp_step, spGp_step] at e3
      have hb : 0 ≤ S i ∧ S i ≤ 128 := by
        have := spNz_in (b := D i) (len - spGk D len ser sg at' i) (spGk D len ser sg at' i)
        rw [hS]
        unfold spGc
        omega
      obtain ⟨h', w1, w2, w3⟩ := ih (i + 1) g (acc + S i) (by omega) e3 (by rw [e2.2 5 (by omega)]; exact h5) (by rw [e2.2 6 (by omega)]; exact h6) (by rw [e2.2 7 (by omega)]; exact h7) (by omega) (by omega)
      rw [hSi, show acc + S i + (spSum S ns - (spSum S i + S i)) = acc + (spSum S ns - spSum S i) by omega] at w1
      refine ⟨h', (jloop_l (s' := (acc + S i, ((i + 1 : Nat) : Int), g)) ?_).trans w1, e2.tr w2, w3⟩
      dsimp only
      rw [hB, e1]
      simp only [Option.bind_some]
      rw [pw (by omega) (by omega), pw (by omega) (by omega)]
      rfl
    have skip : S i = 0 → len ≤ spGk D len ser sg at' i → M_giveUp_B40 h o acc v2 (i : Int) = some (.inl (acc, ((i + 1 : Nat) : Int), h)) → ∃ h', jloop (fun s : (Int × Int × jH) => M_giveUp_B40 s.2.2 o s.1 v2 s.2.1) (acc, (i : Int), h) = (if v2 = 0 then some (acc + (spSum S ns - spSum S i), jup h' (o + 33) 10 0) else Option.bind (M_opensOnDisk (jup h' (o + 33) 10 0) o 0 (h' (o + 33) 1)) (fun b24 => some (acc + (spSum S ns - spSum S i), b24))) ∧ MDf o h h' ∧ MD h' o ns blk len (spGp (spGk D len ser sg at') ns (fun _ => false) D) (spGp (spGk D len ser sg at') ns (fun _ => false) C) := by
      intro hSe hkk hB
      obtain ⟨h', w1, w2, w3⟩ := ih (i + 1) h acc (by omega) (hc.ext (fun s k _ h2 => spGp_skip (Or.inl hkk) h2) (fun s k _ h2 => spGp_skip (Or.inl hkk) h2)) h5 h6 h7 (by omega) (by omega)
      rw [hSi, hSe, Int.add_zero] at w1
      exact ⟨h', (jloop_l (s' := (acc, ((i + 1 : Nat) : Int), h)) hB).trans w1, w2, w3⟩
    by_cases z : ser = 0
    · have hv : v2 = 1 := by rw [hv2, if_pos z]
      have hk0 : spGk D len ser sg at' i = 0 := by unfold spGk; rw [if_pos z]
      refine wipe ?_
      unfold M_giveUp_B40
      rw [hseg h _ _ hc]
      simp only [Option.bind_some]
      rw [if_pos (by omega), if_neg (by omega), hk0]
      rfl
    · have hv : v2 = 0 := by rw [hv2, if_neg z]
      by_cases a : i = sg
      · have hk0 : spGk D len ser sg at' i = at' := by unfold spGk; rw [if_neg z, if_pos a]
        refine wipe ?_
        unfold M_giveUp_B40
        rw [hseg h _ _ hc]
        simp only [Option.bind_some]
        rw [if_pos (by omega), if_pos hv, if_pos (by decide), show ((5 : Int)).toNat = 5 from rfl, h5, if_pos (by omega), if_pos (by decide), show ((6 : Int)).toNat = 6 from rfl, h6, hk0]
      · have hB0 : M_giveUp_B40 h o acc v2 (i : Int) = if spHead (D i) = true ∧ ser < spSer (D i) then Option.bind (M_zeroes h o (i : Int) 0) (fun b => some (.inl (wr (acc + b.1), wr ((i : Int) + 1), b.2))) else some (.inl (acc, ((i + 1 : Nat) : Int), h)) := by
          have hrow : spGp (spGk D len ser sg at') i (fun _ => false) D i = D i := spGp_row rfl
          unfold M_giveUp_B40
          rw [hseg h _ _ hc]
          simp only [Option.bind_some]
          rw [if_pos (by omega), if_pos hv, if_pos (by decide), show ((5 : Int)).toNat = 5 from rfl, h5, if_neg (by omega), m_head hd0 hc hyp hi', hrow, pw (x := (i : Int) + 1) (by omega) (by omega)]
          simp only [Option.bind_some]
          by_cases b : spHead (D i) = true
          · rw [if_pos b, if_neg (by decide), m_ser hd0 hc hyp hi', hrow]
            simp only [Option.bind_some]
            rw [if_pos (by decide), show ((7 : Int)).toNat = 7 from rfl, h7]
            by_cases c : ser < spSer (D i)
            · rw [if_pos c, if_pos ⟨b, c⟩]
            · rw [if_neg c, if_neg (fun h => c h.2)]; rfl
          · rw [if_neg b, if_pos rfl, if_neg (fun h => b h.1)]; rfl
        by_cases b : spHead (D i) = true ∧ ser < spSer (D i)
        · have hk0 : spGk D len ser sg at' i = 0 := by unfold spGk; rw [if_neg z, if_neg a, if_pos b]
          refine wipe ?_
          rw [hB0, if_pos b, hk0]
          rfl
        · have hk0 : spGk D len ser sg at' i = len := by unfold spGk; rw [if_neg z, if_neg a, if_neg b]
          refine skip (by rw [hS]; unfold spGc; rw [hk0, Nat.sub_self]; rfl) (by omega) ?_
          rw [hB0, if_neg b]
theorem m_oodL {ser num : Int} (hd0 : spDim ns blk len) (hser : jI32 ser) (hnum : jI32 num) : ∀ (m i : Nat) (h : jH) (D C : Nat → Nat → Int), i + m = 5 → MD h o ns blk len D C → h (o + 33) 7 = ser →
    ∃ h1, M_opensOnDisk_L7 h o 0 num (i : Int) = some (jup h1 (o + 33) 6 5) ∧ MDf o h h1 ∧ MD h1 o ns blk len (spArrD (spOut 0 i ((spHdB ser num).drop i)) D) (spArrC (spOut 0 i ((spHdB ser num).drop i)) C) := by
  have hl := hd0.len
  have hns := hd0.1
  unfold M_opensOnDisk_L7
  intro m
  induction m with
  | zero =>
    intro i h D C hi hc h7
    obtain rfl : i = 5 := by omega
    refine ⟨h, jloop_r ?_, MDf.rf, ?_⟩
    · show M_opensOnDisk_B7 h o 0 num 5 = _
      unfold M_opensOnDisk_B7
      rw [if_neg (by omega), if_pos (by decide)]
      rfl
    · rw [List.drop_of_length_le (by rw [spHdB_len]; exact Nat.le_refl _)]
      exact hc
  | succ m ih =>
    intro i h D C hi hc h7
    obtain ⟨v, v1, v2⟩ := m_headB (o := o) hser hnum (show i < 5 by omega)
    obtain ⟨g, e1, e2, e3⟩ := m_lands (o := o) (s := 0) (k := i) (v := v) hd0 hc (by omega) (by omega)
    obtain ⟨h1, w1, w2, w3⟩ := ih (i + 1) g _ _ (by omega) e3 (by rw [e2.2 7 (by omega)]; exact h7)
    refine ⟨h1, (jloop_l (s' := (((i + 1 : Nat) : Int), g)) ?_).trans w1, e2.tr w2, ?_⟩
    · show M_opensOnDisk_B7 h o 0 num (i : Int) = _
      unfold M_opensOnDisk_B7
      rw [if_pos (by omega), if_pos (by decide), show ((7 : Int)).toNat = 7 from rfl, h7, v1]
      simp only [Option.bind_some]
      rw [show wr (wr (128 * 0) + (i : Int)) = ((128 * 0 + i : Nat) : Int) by rw [pw (x := 128 * 0) (by omega) (by omega), pw (by omega) (by omega)]; omega, e1]
      simp only [Option.bind_some]
      rw [pw (by omega) (by omega)]
      rfl
    · obtain ⟨hi2, hv⟩ := List.getElem?_eq_some_iff.mp v2
      rw [List.drop_eq_getElem_cons hi2, hv]
      exact w3
theorem m_opens_top {h h' : jH} (e : M_opens h o ((0 : Nat) : Int) = some h') : h' (o + 33) 192 = -1 := by
  unfold M_opens at e
  rw [if_pos (by decide), if_pos (by decide), if_pos (by decide), if_pos (by decide), if_pos (by decide), if_pos (by decide), if_pos (by decide)] at e
  rw [← Option.some.inj e]
  exact ju_eq
theorem m_giv {h : jH} {b : Int} {kpm : spKp} {s : spSt} (hs : MS h o ns blk len kpm s) (hI : spInv ns blk len b s) (hH : spHal s) (hl1 : s.2.2.2.2.2.2.2.2.2.1 = true) :
    ∃ h', M_giveUp_p37 h o 0 (if h (o + 33) 7 = 0 then 1 else 0) = some ((spGiv ns len s).2, h') ∧ (∀ z, z ≠ o + 33 → h' z = h z) ∧ MS h' o ns blk len kpm (spGiv ns len s).1 := by
  obtain ⟨⟨D, C⟩, ⟨F, lf⟩, ⟨q, fl, first⟩, ⟨wt, kp⟩, ⟨tab, stab, snap, tops⟩, ⟨sg, at', ser, gr, hl, tk⟩⟩ := s
  obtain ⟨i1, i2, i3, i4, i5, i6, i7⟩ := hI
  have hs0 := hs
  obtain ⟨c1, ⟨c2, c2'⟩, c3, ⟨c4, c4', c4''⟩, c5, ⟨t1, t2, t3, t4⟩, p1, p2, p3, p4, p5, p6, p7⟩ := hs
  dsimp only at hl1
  subst hl1
  obtain ⟨hq, hF, htp⟩ := hH rfl
  subst hq
  subst hF
  have hfl : fl = 0 := by have := i3.2.1; simp at this; exact this
  subst hfl
  have hl5 := i1.1.len
  have hn4 := i1.1.2.1
  rw [p3]
  have hc0 : MD h o ns blk len (spGp (spGk D len ser sg at') 0 (fun _ => false) D) (spGp (spGk D len ser sg at') 0 (fun _ => false) C) := c1.ext (fun s k _ _ => by unfold spGp; rw [if_neg (fun h => by rcases h.1 with h | h; omega; cases h)]) (fun s k _ _ => by unfold spGp; rw [if_neg (fun h => by rcases h.1 with h | h; omega; cases h)])
  obtain ⟨g1, e1, e2, e3⟩ := m_givL (o := o) (v2 := if ser = 0 then 1 else 0) i1.1 i6.2.1 i1.2.1 rfl ns 0 h 0 (by omega) hc0 p1 p2 p3 (by omega) (by omega)
  unfold M_giveUp_p37
  rw [show M_giveUp_L40 h o 0 (if ser = 0 then 1 else 0) 0 = _ from e1]
  have hz : (0 : Int) + (spSum (spGc D len (spGk D len ser sg at')) ns - spSum (spGc D len (spGk D len ser sg at')) 0) = spSum (spGc D len (spGk D len ser sg at')) ns := by
    show 0 + (_ - 0) = _
    omega
  rw [hz]
  have kk : ∀ i, (i < 196 ∨ 1220 ≤ i) → g1 (o + 33) i = h (o + 33) i := e2.2
  have mk : ∀ (g2 : jH) (D' C' : Nat → Nat → Int) (sg2 at2 : Nat) (ser2 gr2 : Int), (∀ i, i ≠ 5 → i ≠ 6 → i ≠ 7 → i ≠ 8 → i ≠ 10 → i ≠ 192 → (i < 196 ∨ 1220 ≤ i) → g2 (o + 33) i = h (o + 33) i) → MD g2 o ns blk len D' C' → g2 (o + 33) 5 = (sg2 : Int) → g2 (o + 33) 6 = (at2 : Int) → g2 (o + 33) 7 = ser2 → g2 (o + 33) 8 = gr2 → g2 (o + 33) 10 = 0 → g2 (o + 33) 192 = tops 0 → MS g2 o ns blk len kpm ((D', C'), (([] : spFl), lf), (([] : List spRec), 0, first), (wt, kp), (tab, stab, snap, tops), (sg2, at2, ser2, gr2, false, tk)) := by
    intro g2 D' C' sg2 at2 ser2 gr2 k hD h5 h6 h7 h8 h10 h192
    refine ⟨hD, ⟨⟨by rw [k _ (by omega) (by omega) (by omega) (by omega) (by omega) (by omega) (by omega)]; exact c2.1, fun i e he => (by cases he)⟩, by rw [k _ (by omega) (by omega) (by omega) (by omega) (by omega) (by omega) (by omega)]; exact c2'⟩, ⟨by rw [k _ (by omega) (by omega) (by omega) (by omega) (by omega) (by omega) (by omega)]; exact c3.1, by rw [k _ (by omega) (by omega) (by omega) (by omega) (by omega) (by omega) (by omega)]; exact c3.2.1, by rw [k _ (by omega) (by omega) (by omega) (by omega) (by omega) (by omega) (by omega)]; exact c3.2.2.1, c3.2.2.2.1, c3.2.2.2.2.1, fun i r hr => (by cases hr)⟩, ⟨by rw [k _ (by omega) (by omega) (by omega) (by omega) (by omega) (by omega) (by omega)]; exact c4, fun i e he => ?_, fun x hx => by rw [k _ (by omega) (by omega) (by omega) (by omega) (by omega) (by omega) (by omega)]; exact c4'' x hx⟩, ⟨by rw [k _ (by omega) (by omega) (by omega) (by omega) (by omega) (by omega) (by omega)]; exact c5.1, c5.2.1, fun i e he => ?_⟩, ⟨fun i hi => by rw [k _ (by omega) (by omega) (by omega) (by omega) (by omega) (by omega) (by omega)]; exact t1 i hi, fun i hi => by rw [k _ (by omega) (by omega) (by omega) (by omega) (by omega) (by omega) (by omega)]; exact t2 i hi, by rw [k _ (by omega) (by omega) (by omega) (by omega) (by omega) (by omega) (by omega)]; exact t3, fun i hi => ?_⟩, h5, h6, h7, h8, by rw [h10]; rfl, by rw [k _ (by omega) (by omega) (by omega) (by omega) (by omega) (by omega) (by omega)]; exact p6, by rw [k _ (by omega) (by omega) (by omega) (by omega) (by omega) (by omega) (by omega)]; exact p7⟩
    · have hi := (List.getElem?_eq_some_iff.mp he).1
      have := i4.1
      rw [k _ (by omega) (by omega) (by omega) (by omega) (by omega) (by omega) (by omega)]; exact c4' i e he
    · have hi := (List.getElem?_eq_some_iff.mp he).1
      rw [k _ (by omega) (by omega) (by omega) (by omega) (by omega) (by omega) (by omega), k _ (by omega) (by omega) (by omega) (by omega) (by omega) (by omega) (by omega), k _ (by omega) (by omega) (by omega) (by omega) (by omega) (by omega) (by omega)]; exact c5.2.2 i e he
    · by_cases y : i = 0
      · subst y; exact h192
      · rw [k _ (by omega) (by omega) (by omega) (by omega) (by omega) (by omega) (by omega)]; exact t4 i hi
  unfold spGiv
  dsimp only
  obtain ⟨g2, hg2⟩ : ∃ g2 : jH, g2 = jup g1 (o + 33) 10 0 := ⟨_, rfl⟩
  rw [← hg2]
  have g2o : ∀ z, z ≠ o + 33 → g2 z = h z := fun z hz => by rw [hg2, jup_ne hz, e2.1 z hz]
  have g2w : ∀ i, i ≠ 10 → g2 (o + 33) i = g1 (o + 33) i := fun i hi => by rw [hg2, ju_ne hi]
  have e4 : MD g2 o ns blk len (spGp (spGk D len ser sg at') ns (fun _ => false) D) (spGp (spGk D len ser sg at') ns (fun _ => false) C) := e3.fr i1.1 (by rw [hg2, jup_ne (by omega)]) (fun i _ _ => g2w i (by omega))
  by_cases z : ser = 0
  · rw [if_pos z, if_neg (by decide), if_pos z]
    unfold M_opensOnDisk
    obtain ⟨g3, w1, w2, w3, w4, w5, w6, w7⟩ := m_opens (o := o) (h := g2) (t := 0) (gr := gr) (by omega) (by rw [g2w 8 (by decide), kk 8 (by omega)]; exact p4)
    rw [show M_opens g2 o 0 = some g3 from w1]
    simp only [Option.bind_some]
    have e5 : MD g3 o ns blk len (spGp (spGk D len ser sg at') ns (fun _ => false) D) (spGp (spGk D len ser sg at') ns (fun _ => false) C) := e4.fr i1.1 (w2 _ (by omega)) (fun i _ _ => w7 i (by omega) (by omega) (by omega) (by omega) (by omega))
    rw [kk 1 (by omega), c3.2.1]
    simp only [List.length_nil]
    rw [show first + ((0 : Nat) : Int) = first by omega]
    obtain ⟨g4, y1, y2, y3⟩ := m_oodL (o := o) (ser := wr (gr + 1)) (num := first) i1.1 (wr_in _) (by unfold jI32; omega) 5 0 g3 _ _ (by omega) e5 w6
    rw [List.drop_zero] at y3
    rw [show M_opensOnDisk_L7 g3 o 0 first 0 = _ from y1]
    simp only [Option.bind_some]
    obtain ⟨g5, hg5⟩ : ∃ g5 : jH, g5 = jup g4 (o + 33) 6 5 := ⟨_, rfl⟩
    rw [← hg5]
    have k5 : ∀ i, i ≠ 6 → (i < 196 ∨ 1220 ≤ i) → g5 (o + 33) i = g3 (o + 33) i := fun i i6 hi => by rw [hg5, ju_ne i6, y2.2 i hi]
    refine ⟨g5, rfl, fun y hy => by rw [hg5, jup_ne hy, y2.1 y hy, w2 y hy, g2o y hy], ?_⟩
    have e6 : MD g5 o ns blk len (spArrD (spOut 0 0 (spHdB (wr (gr + 1)) first)) (spGp (spGk D len ser sg at') ns (fun _ => false) D)) (spArrC (spOut 0 0 (spHdB (wr (gr + 1)) first)) (spGp (spGk D len ser sg at') ns (fun _ => false) C)) := y3.fr i1.1 (by rw [hg5, jup_ne (by omega)]) (fun i _ _ => by rw [hg5, ju_ne (by omega)])
    refine mk g5 _ _ 0 5 _ _ (fun i j5 j6 j7 j8 j10 j192 hi => by rw [k5 i j6 hi, w7 i j5 j6 j7 j8 (by omega), g2w i j10, kk i hi]) (e6.ext (fun s k h1 _ => spArrD_cong _ _ _ (spGp_all h1)) (fun s k h1 _ => spArrC_cong _ _ _ (spGp_all h1))) (by rw [k5 5 (by omega) (by omega)]; exact w4) (by rw [hg5, ju_eq]; rfl) (by rw [k5 7 (by omega) (by omega)]; exact w6) (by rw [k5 8 (by omega) (by omega)]; exact w3) (by rw [k5 10 (by omega) (by omega), w7 10 (by omega) (by omega) (by omega) (by omega) (by omega), hg2, ju_eq]) ?_
    rw [k5 192 (by omega) (by omega), htp z]
    exact m_opens_top w1
  · rw [if_neg z, if_pos rfl, if_neg z]
    refine ⟨g2, rfl, g2o, ?_⟩
    exact mk g2 _ _ sg at' ser gr (fun i _ _ _ _ j10 _ hi => by rw [g2w i j10, kk i hi]) (e4.ext (fun s k h1 _ => spGp_all h1) (fun s k h1 _ => spGp_all h1)) (by rw [g2w 5 (by decide), kk 5 (by omega)]; exact p1) (by rw [g2w 6 (by decide), kk 6 (by omega)]; exact p2) (by rw [g2w 7 (by decide), kk 7 (by omega)]; exact p3) (by rw [g2w 8 (by decide), kk 8 (by omega)]; exact p4) (by rw [hg2, ju_eq]) (by rw [g2w 192 (by decide), kk 192 (by omega)]; exact t4 0 (by decide))
end GIY
