/-! a crash, on both sides: the machines -/
section CRB
variable {ns blk len : Nat}
theorem c_crash {h : jH} {o rc n k : Nat} {b : Int} {s : spSt} (hrc : rc + 3 < o ∨ o + 20 < rc) (hs : CS h o ns blk len n s) (hI : spInv ns blk len b s) (hk : k ≤ s.2.1.1.length) :
    ∃ h', St_crashBy h o (k : Int) rc = some h' ∧ (∀ z, (z < o ∨ o + 20 < z) → (z < rc ∨ rc + 3 < z) → h' z = h z) ∧ (h' o 0 = h o 0) ∧ CS h' o ns blk len n (spCra ns blk len k s) := by
  have hF := spInv_F hI
  obtain ⟨⟨D, C⟩, ⟨F, lf⟩, ⟨q, fl, first⟩, ⟨wt, kp⟩, ⟨tab, stab, snap, tops⟩, ⟨sg, at', ser, gr, hl, tk⟩⟩ := s
  obtain ⟨i1, i2, i3, i4, i5, i6, i7⟩ := hI
  obtain ⟨c1, ⟨c2, c2'⟩, c3, ⟨c4, c4'⟩, ⟨t1, t2, t3, t4⟩, p1, p2, p3, p4, p5, p6⟩ := hs
  dsimp only at hF hk
  unfold St_crashBy
  obtain ⟨h1, e1, e2, e3⟩ := c_arrive (of := o + 4) (od := o + 1) (i := 0) (t := k) i1.1 (by omega) (fun e he => ⟨(i2.1 e he).1, (i2.1 e he).2.1⟩) hF (by omega) hk c1 c2
  rw [Nat.sub_zero, List.drop_zero] at e3
  rw [show Fl_arrive h (o + 4) (o + 1) 0 (k : Int) = some h1 from e1]
  simp only [Option.bind_some]
  unfold Fl_clear Wa_clear
  simp only [Option.bind_some]
  obtain ⟨h2, hh2⟩ : ∃ h2 : jH, h2 = jup (jup (jup h1 (o + 4) 2 0) (o + 4) 3 0) (o + 12) 2 0 := ⟨_, rfl⟩
  rw [← hh2]
  have h2o : ∀ z, z ≠ o + 4 → z ≠ o + 12 → z ≠ o + 2 → z ≠ o + 3 → h2 z = h z := fun z z1 z2 z3 z4 => by rw [hh2, jup_ne z2, jup_ne z1, jup_ne z1, e2 z (by omega) (by omega)]
  have c12 : CD h2 (o + 1) ns blk len (spArrD (F.take k) D) (spArrC (F.take k) C) := e3.eq (fun z z1 z2 => by rw [hh2, jup_ne (by omega), jup_ne (by omega), jup_ne (by omega)])
  have hy := spArrD_by (D := D) (F.take k) D (fun e he => ⟨(i2.1 e (List.mem_of_mem_take he)).2.2.1, (i2.1 e (List.mem_of_mem_take he)).2.2.2.1⟩) i1.2.1
  unfold St_recover
  have hsn : h2 o 7 = snap := by rw [h2o o (by omega) (by omega) (by omega) (by omega)]; exact t3
  rw [hsn]
  obtain ⟨h3, f1, f2, f3⟩ := c_read (rc := rc) (od := o + 1) (r3 := o + 19) (snap := snap) (stab := stab) i1.1 c12 hy (by unfold nin; omega) (by omega) (fun j hj => by rw [h2o _ (by omega) (by omega) (by omega) (by omega)]; exact t2 j hj) (by omega) (by omega)
  rw [f1]
  have hr := spRecov_ok (snap := snap) (stab := stab) i1.1 hy i3.2.2.2.2.1 i5.2
  unfold spCra
  dsimp only
  have hRd : ∀ f, spRdisk (spArrD (F.take k) D) ns blk len snap stab f = if (spRecov (spArrD (F.take k) D) ns blk len snap stab).2.2.2.2 = true then f else spWipe f (spRecov (spArrD (F.take k) D) ns blk len snap stab).2.1 (spRecov (spArrD (F.take k) D) ns blk len snap stab).2.2.1.toNat := fun f => rfl
  rw [hRd, hRd]
  generalize spRecov (spArrD (F.take k) D) ns blk len snap stab = R at hr f3 ⊢
  obtain ⟨⟨rn, rt, rtp⟩, rs, ra, rser, rh⟩ := R
  obtain ⟨⟨g1, g2, g3⟩, g4, g5, g6, g7⟩ := f3
  dsimp only at g1 g2 g3 g4 g5 g6 g7 hr ⊢
  simp only [Option.bind_some]
  rw [g_copy]
  simp only [Option.bind_some]
  rw [g_copy]
  simp only [Option.bind_some]
  unfold Qu_clear St_movePlace
  simp only [Option.bind_some]
  obtain ⟨h4, hh4⟩ : ∃ h4 : jH, h4 = jcpy (jcpy h3 (rc + 2) (o + 18) 0 0 16) (rc + 3) (o + 20) 0 0 4 := ⟨_, rfl⟩
  rw [← hh4]
  have h4o : ∀ z, z ≠ o + 18 → z ≠ o + 20 → h4 z = h3 z := fun z z1 z2 => by rw [hh4, jcpy_ne z2, jcpy_ne z1]
  rw [show h4 rc = h3 rc from h4o rc (by omega) (by omega), g1]
  obtain ⟨h5, hh5⟩ : ∃ h5 : jH, h5 = jup (jup (jup h4 (o + 7) 4 rn) (o + 7) 5 0) (o + 7) 6 0 := ⟨_, rfl⟩
  rw [← hh5]
  have h5o : ∀ z, z ≠ o + 18 → z ≠ o + 20 → z ≠ o + 7 → h5 z = h3 z := fun z z1 z2 z3 => by rw [hh5, jup_ne z3, jup_ne z3, jup_ne z3, h4o z z1 z2]
  have e5 : h5 rc = h3 rc := h5o rc (by omega) (by omega) (by omega)
  have e5o : h5 o = h o := by rw [h5o o (by omega) (by omega) (by omega), f2 o (by omega), h2o o (by omega) (by omega) (by omega) (by omega)]
  rw [e5, e5o, g4, g5, g6, p4]
  obtain ⟨h6, hh6⟩ : ∃ h6 : jH, h6 = jup (jup (jup (jup h5 o 10 (rs : Int)) o 11 ra) o 12 rser) o 13 gr := ⟨_, rfl⟩
  rw [← hh6]
  have e6 : h6 rc = h3 rc := by rw [hh6, jup_ne (by omega), jup_ne (by omega), jup_ne (by omega), jup_ne (by omega)]; exact e5
  rw [e6, g7, if_pos (by split <;> simp)]
  obtain ⟨h7, hh7⟩ : ∃ h7 : jH, h7 = jup h6 o 14 (if rh = true then 1 else 0) := ⟨_, rfl⟩
  rw [← hh7]
  have h7o : ∀ z, z ≠ o → z ≠ o + 18 → z ≠ o + 20 → z ≠ o + 7 → (z < rc ∨ rc + 3 < z) → z ≠ o + 4 → z ≠ o + 12 → h7 z = h2 z := fun z z1 z2 z3 z4 z5 z6 z7 => by rw [hh7, jup_ne z1, hh6, jup_ne z1, jup_ne z1, jup_ne z1, jup_ne z1, h5o z z2 z3 z4, f2 z z5]
  have c7 : CD h7 (o + 1) ns blk len (spArrD (F.take k) D) (spArrC (F.take k) C) := c12.eq (fun z z1 z2 => h7o z (by omega) (by omega) (by omega) (by omega) (by omega) (by omega) (by omega))
  have h7s : h7 o 14 = (if rh = true then 1 else 0) ∧ h7 o 10 = (rs : Int) ∧ h7 o 11 = ra ∧ h7 o 12 = rser ∧ h7 o 13 = gr ∧ h7 o 9 = tk ∧ h7 o 7 = snap ∧ h7 o 0 = h o 0 := by
    refine ⟨by rw [hh7, ju_eq], ?_, ?_, ?_, ?_, ?_, ?_, ?_⟩
    · rw [hh7, ju_ne (by decide), hh6, ju_ne (by decide), ju_ne (by decide), ju_ne (by decide), ju_eq]
    · rw [hh7, ju_ne (by decide), hh6, ju_ne (by decide), ju_ne (by decide), ju_eq]
    · rw [hh7, ju_ne (by decide), hh6, ju_ne (by decide), ju_eq]
    · rw [hh7, ju_ne (by decide), hh6, ju_eq]
    · rw [hh7, ju_ne (by decide), hh6, ju_ne (by decide), ju_ne (by decide), ju_ne (by decide), ju_ne (by decide), e5o]; exact p6
    · rw [hh7, ju_ne (by decide), hh6, ju_ne (by decide), ju_ne (by decide), ju_ne (by decide), ju_ne (by decide), e5o]; exact t3
    · rw [hh7, ju_ne (by decide), hh6, ju_ne (by decide), ju_ne (by decide), ju_ne (by decide), ju_ne (by decide), e5o]
  obtain ⟨s14, s10, s11, s12, s13, s9, s7, s0⟩ := h7s
  have row4 : ∀ f, h7 (o + 4) f = h2 (o + 4) f := fun f => by rw [hh7, jup_ne (by omega), hh6, jup_ne (by omega), jup_ne (by omega), jup_ne (by omega), jup_ne (by omega), h5o _ (by omega) (by omega) (by omega), f2 _ (by omega)]
  have row12 : ∀ f, h7 (o + 12) f = h2 (o + 12) f := fun f => by rw [hh7, jup_ne (by omega), hh6, jup_ne (by omega), jup_ne (by omega), jup_ne (by omega), jup_ne (by omega), h5o _ (by omega) (by omega) (by omega), f2 _ (by omega)]
  have row7 : ∀ f, h7 (o + 7) f = h5 (o + 7) f := fun f => by rw [hh7, jup_ne (by omega), hh6, jup_ne (by omega), jup_ne (by omega), jup_ne (by omega), jup_ne (by omega)]
  have row18 : ∀ i, i < 16 → h7 (o + 18) i = rt i := fun i hi => by rw [hh7, jup_ne (by omega), hh6, jup_ne (by omega), jup_ne (by omega), jup_ne (by omega), jup_ne (by omega), hh5, jup_ne (by omega), jup_ne (by omega), jup_ne (by omega), hh4, jcpy_ne (by omega), jcpy_at hi]; exact g2 i hi
  have row20 : ∀ i, i < 4 → h7 (o + 20) i = rtp i := fun i hi => by rw [hh7, jup_ne (by omega), hh6, jup_ne (by omega), jup_ne (by omega), jup_ne (by omega), jup_ne (by omega), hh5, jup_ne (by omega), jup_ne (by omega), jup_ne (by omega), hh4, jcpy_at hi, jcpy_ne (by omega)]; exact g3 i hi
  have mk : ∀ (g : jH) (D' C' : Nat → Nat → Int), (∀ z, z ≠ o + 2 → z ≠ o + 3 → g z = h7 z) → CD g (o + 1) ns blk len D' C' → CS g o ns blk len n ((D', C'), (([] : spFl), 0), (([] : List spRec), 0, rn), (([] : spWt), kp), (rt, stab, snap, rtp), (rs, ra.toNat, rser, gr, rh, tk)) := by
    intro g D' C' hg hD
    refine ⟨hD, ⟨⟨?_, fun i e he => by cases he⟩, ?_⟩, ⟨?_, ?_, ?_, by simp, fun i r hr2 => by cases hr2⟩, ⟨⟨?_, by simp, fun i e he => by cases he⟩, ?_⟩, ⟨fun i hi => by rw [hg _ (by omega) (by omega)]; exact row18 i hi, fun i hi => ?_, by rw [hg o (by omega) (by omega)]; exact s7, fun i hi => by rw [hg _ (by omega) (by omega)]; exact row20 i hi⟩, by rw [hg o (by omega) (by omega)]; exact s10, ?_, by rw [hg o (by omega) (by omega)]; exact s12, by rw [hg o (by omega) (by omega)]; exact s13, by rw [hg o (by omega) (by omega)]; exact s14, by rw [hg o (by omega) (by omega)]; exact s9⟩
    · rw [hg _ (by omega) (by omega), row4, hh2, jup_ne (by omega), ju_ne (by decide), ju_eq]; rfl
    · rw [hg _ (by omega) (by omega), row4, hh2, jup_ne (by omega), ju_eq]
    · rw [hg _ (by omega) (by omega), row7, hh5, ju_ne (by decide), ju_ne (by decide), ju_eq]
    · rw [hg _ (by omega) (by omega), row7, hh5, ju_ne (by decide), ju_eq]; rfl
    · rw [hg _ (by omega) (by omega), row7, hh5, ju_eq]; rfl
    · rw [hg _ (by omega) (by omega), row12, hh2, ju_eq]; rfl
    · have r12 : ∀ f, f ≠ 2 → g (o + 12) f = h (o + 12) f := fun f hf => by rw [hg _ (by omega) (by omega), row12, hh2, ju_ne hf, jup_ne (by omega), jup_ne (by omega), e2 _ (by omega) (by omega)]
      have ro : ∀ z, 13 ≤ z → z ≤ 17 → g (o + z) = h (o + z) := fun z z1 z2 => by rw [hg _ (by omega) (by omega), h7o _ (by omega) (by omega) (by omega) (by omega) (by omega) (by omega) (by omega), h2o _ (by omega) (by omega) (by omega) (by omega)]
      obtain ⟨y1, y2, y3, y4⟩ := c4'
      refine ⟨by rw [r12 6 (by decide)]; exact y1, y2, y3, fun i e he => ?_⟩
      have := y4 i e he
      rw [show o + 12 + 3 = o + 15 by omega, show o + 12 + 4 = o + 16 by omega, show o + 12 + 5 = o + 17 by omega] at this ⊢
      rw [ro 15 (by decide) (by decide), ro 16 (by decide) (by decide), ro 17 (by decide) (by decide)]
      exact this
    · rw [hg _ (by omega) (by omega), h7o _ (by omega) (by omega) (by omega) (by omega) (by omega) (by omega) (by omega), h2o _ (by omega) (by omega) (by omega) (by omega)]
      exact t2 i hi
    · rw [hg o (by omega) (by omega), s11]; omega
  have fr7 : ∀ z, (z < o ∨ o + 20 < z) → (z < rc ∨ rc + 3 < z) → h7 z = h z := fun z z1 z2 => by rw [h7o z (by omega) (by omega) (by omega) (by omega) z2 (by omega) (by omega), h2o z (by omega) (by omega) (by omega) (by omega)]
  rw [s14, s10, s11]
  by_cases a : rh = true
  · rw [if_neg (by rw [if_pos a]; decide), if_pos a, if_pos a]
    exact ⟨h7, rfl, fr7, s0, mk h7 _ _ (fun _ _ _ => rfl) c7⟩
  · rw [if_pos (by rw [if_neg a]), if_neg a, if_neg a]
    obtain ⟨h8, w1, w2, w3⟩ := c_wipe (od := o + 1) (s := rs) (k := ra.toNat) i1.1 hr.2.2.2.1 (by omega) c7
    rw [show (ra.toNat : Int) = ra by omega] at w1
    rw [w1]
    exact ⟨h8, rfl, fun z z1 z2 => by rw [w2 z (by omega) (by omega)]; exact fr7 z z1 z2, by rw [w2 o (by omega) (by omega)]; exact s0, mk h8 _ _ (fun z z1 z2 => w2 z (by omega) (by omega)) w3⟩
theorem m_crash {h : jH} {o k : Nat} {b : Int} {kpm : spKp} {s : spSt} (hs : MS h o ns blk len kpm s) (hI : spInv ns blk len b s) (hk : k ≤ s.2.1.1.length) :
    ∃ h', M_crashes h o (k : Int) = some h' ∧ (∀ z, z ≠ o → z ≠ o + 33 → z ≠ o + 37 → h' z = h z) ∧ (∀ f, (f < 59 ∨ 65 < f) → h' o f = h o f) ∧ MS h' o ns blk len kpm (spCra ns blk len k s) := by
  have hF := spInv_F hI
  obtain ⟨⟨D, C⟩, ⟨F, lf⟩, ⟨q, fl, first⟩, ⟨wt, kp⟩, ⟨tab, stab, snap, tops⟩, ⟨sg, at', ser, gr, hl, tk⟩⟩ := s
  obtain ⟨i1, i2, i3, i4, i5, i6, i7⟩ := hI
  obtain ⟨c1, ⟨c2, c2'⟩, c3, ⟨c4, c4', c4''⟩, c5, ⟨t1, t2, t3, t4⟩, p1, p2, p3, p4, p5, p6, p7⟩ := hs
  dsimp only at hF hk
  unfold M_crashes
  obtain ⟨h1, a1, a2, a3, a4, a5, a6⟩ := m_arrive (o := o) i1.1 (fun e he => ⟨(i2.1 e he).1, (i2.1 e he).2.1⟩) hF hk c1 c2
  rw [a1]
  simp only [Option.bind_some]
  have hy := spArrD_by (D := D) (F.take k) D (fun e he => ⟨(i2.1 e (List.mem_of_mem_take he)).2.2.1, (i2.1 e (List.mem_of_mem_take he)).2.2.2.1⟩) i1.2.1
  obtain ⟨h2, b1, b2, b3, b4, b5, b6⟩ := m_recov (o := o) (snap := snap) (stab := stab) i1.1 a6 hy (by rw [a3 9 (by decide) (by decide) (by decide)]; exact t3) (fun j hj => by rw [a3 _ (by omega) (by omega) (by omega)]; exact t2 j hj) (by omega) (by omega)
  rw [b1]
  refine ⟨h2, rfl, fun z z1 z2 z3 => by rw [b2 z z1 z2 z3, a2 z z2], fun f hf => by rw [b3 f hf, a2 o (by omega)], ?_⟩
  have hr := spRecov_ok (snap := snap) (stab := stab) i1.1 hy i3.2.2.2.2.1 i5.2
  unfold spCra
  dsimp only
  generalize spRdisk (spArrD (F.take k) D) ns blk len snap stab = RD at b6 ⊢
  generalize spRecov (spArrD (F.take k) D) ns blk len snap stab = R at hr b4 ⊢
  obtain ⟨r1, r2, r3, r4, r5, r6, r7, r8, r9, r10, r11⟩ := b4
  have k2 : ∀ i, ¬ MRx i → i ≠ 3 → i ≠ 4 → (i < 196 ∨ 1220 ≤ i) → h2 (o + 33) i = h (o + 33) i := fun i x1 x2 x3 x4 => by rw [b5 i x1, a3 i x2 x3 x4]
  have k3 : ∀ i, ¬ MRx i → h2 (o + 33) i = h1 (o + 33) i := b5
  refine ⟨b6, ⟨⟨by rw [k3 4 (by unfold MRx; omega), a4]; rfl, fun i e he => by cases he⟩, by rw [k3 3 (by unfold MRx; omega), a5]⟩, ⟨r2, by rw [r1]; simp, by rw [r9]; simp, by simp, Nat.le_refl _, fun i r hr2 => by cases hr2⟩, ⟨r10, fun i e he => (by cases he), fun x hx => by rw [r11 x hx]; rfl⟩, ⟨by rw [k2 2244 (by unfold MRx; omega) (by omega) (by omega) (by omega)]; exact c5.1, c5.2.1, fun i e he => ?_⟩, ⟨r3, fun i hi => ?_, by rw [k2 9 (by unfold MRx; omega) (by omega) (by omega) (by omega)]; exact t3, r4⟩, r5, by rw [r6]; omega, r7, by rw [k2 8 (by unfold MRx; omega) (by omega) (by omega) (by omega)]; exact p4, r8, by rw [k2 0 (by unfold MRx; omega) (by omega) (by omega) (by omega)]; exact p6, by rw [k2 13 (by unfold MRx; omega) (by omega) (by omega) (by omega)]; exact p7⟩
  · rw [k2 _ (by unfold MRx; omega) (by omega) (by omega) (by omega), k2 _ (by unfold MRx; omega) (by omega) (by omega) (by omega), k2 _ (by unfold MRx; omega) (by omega) (by omega) (by omega)]
    exact c5.2.2 i e he
  · rw [k2 _ (by unfold MRx; omega) (by omega) (by omega) (by omega)]
    exact t2 i hi
end CRB
