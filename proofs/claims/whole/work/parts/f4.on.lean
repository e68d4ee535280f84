/-! an image taken on: the class -/
def spImg (ns len : Nat) (tp : List Int) : Prop := tp.length = 35 + ns * len ∧ tp.getD (tp.length - 1) 0 = spCk (tp.take (tp.length - 1)) 139 ∧ ∀ i, i < 16 → spPr tp (2 + 2 * i) < 1000 ∨ spPr tp (2 + 2 * i) = 65535
def spTD (len : Nat) (tp : List Int) : Nat → Nat → Int := fun s k => tp.getD (34 + (s * len + k)) 0
def spTS (tp : List Int) : Nat → Int := fun i => if spPr tp (2 + 2 * i) = 65535 then -1 else spPr tp (2 + 2 * i)
def spGrt (D : Nat → Nat → Int) : Nat → Int
  | 0 => 0
  | n + 1 => if spHead (D n) = true then max (spGrt D n) (spSer (D n)) else spGrt D n
/-- what stands when an image is on -/
def spOnP (snap : Int) (stab : Nat → Int) (D : Nat → Nat → Int) (gr : Int) : spSt := ((D, fun _ _ => 0), (([] : spFl), 0), (([] : List spRec), 0, snap), (([] : spWt), ([] : spKp)), (fun _ => -1, stab, snap, fun _ => -1), (0, 5, 0, gr, false, 0))
def spOnS (ns blk len : Nat) (tp : List Int) : spSt := spCra ns blk len 0 (spOnP (spPr tp 0) (spTS tp) (spTD len tp) (spGrt (spTD len tp) ns))
def spRest (ns blk len : Nat) (D C : Nat → Nat → Int) (kp : spKp) (stab : Nat → Int) (snap gr tk : Int) : spSt := ((spRdisk D ns blk len snap stab D, spRdisk D ns blk len snap stab C), (([] : spFl), 0), (([] : List spRec), 0, (spRecov D ns blk len snap stab).1.1), (([] : spWt), kp), ((spRecov D ns blk len snap stab).1.2.1, stab, snap, (spRecov D ns blk len snap stab).1.2.2), ((spRecov D ns blk len snap stab).2.1, (spRecov D ns blk len snap stab).2.2.1.toNat, (spRecov D ns blk len snap stab).2.2.2.1, gr, (spRecov D ns blk len snap stab).2.2.2.2, tk))
theorem spOnS_rest {ns blk len : Nat} {tp : List Int} : spOnS ns blk len tp = spRest ns blk len (spTD len tp) (fun _ _ => 0) [] (spTS tp) (spPr tp 0) (spGrt (spTD len tp) ns) 0 := rfl
section ONC
variable {T : jT} {o0 pl ns blk len B : Nat} {p : spPl} {X : spX} {b : Int}
theorem c_recover {h2 : jH} {o rc n : Nat} {D C : Nat → Nat → Int} {kp : spKp} {snap gr tk : Int} {stab : Nat → Int} (hd : spDim ns blk len) (hy : spByD ns len D) (hrc : rc + 3 < o ∨ o + 20 < rc) (c12 : CD h2 (o + 1) ns blk len D C) (hsn : h2 o 7 = snap) (hst : ∀ j, j < 16 → h2 (o + 19) j = stab j) (hs0 : 0 ≤ snap) (hs1 : snap ≤ 700000) (hti : spTi stab) (q2 : h2 (o + 4) 2 = 0) (q3 : h2 (o + 4) 3 = 0) (w2 : h2 (o + 12) 2 = 0) (c4' : CKn h2 (o + 12) kp n) (p4 : h2 o 13 = gr) (p6 : h2 o 9 = tk) :
    ∃ h', St_recover h2 o rc = some h' ∧ (∀ z, (z < o ∨ o + 20 < z) → (z < rc ∨ rc + 3 < z) → h' z = h2 z) ∧ (h' o 0 = h2 o 0) ∧ CS h' o ns blk len n (spRest ns blk len D C kp stab snap gr tk) := by
  unfold St_recover
  rw [hsn]
  obtain ⟨h3, f1, f2, f3⟩ := c_read (rc := rc) (od := o + 1) (r3 := o + 19) (snap := snap) (stab := stab) hd c12 hy (by unfold nin; omega) (by omega) (fun j hj => hst j hj) (by omega) (by omega)
  rw [f1]
  have hr := spRecov_ok (snap := snap) (stab := stab) hd hy hs0 hti
  unfold spRest
  have hRd : ∀ f, spRdisk D ns blk len snap stab f = if (spRecov D ns blk len snap stab).2.2.2.2 = true then f else spWipe f (spRecov D ns blk len snap stab).2.1 (spRecov D ns blk len snap stab).2.2.1.toNat := fun f => rfl
  rw [hRd, hRd]
  generalize spRecov D ns blk len snap stab = R at hr f3 ⊢
  obtain ⟨⟨rn, rt, rtp⟩, rs, ra, rser, rh⟩ := R
  obtain ⟨⟨g1, g2, g3⟩, g4, g5, g6, g7⟩ := f3
  dsimp only at g1 g2 g3 g4 g5 g6 g7 hr ⊢
  simp only [Option.bind_some]
  rw [g_copy]
  simp only [Option.bind_some]
  rw [g_copy]
  simp only [Option.bind_some]
  unfold Qu_clear St_movePlace
  simp only [Option.bind_some]
  obtain ⟨h4, hh4⟩ : ∃ h4 : jH, h4 = jcpy (jcpy h3 (rc + 2) (o + 18) 0 0 16) (rc + 3) (o + 20) 0 0 4 := ⟨_, rfl⟩
  rw [← hh4]
  have h4o : ∀ z, z ≠ o + 18 → z ≠ o + 20 → h4 z = h3 z := fun z z1 z2 => by rw [hh4, jcpy_ne z2, jcpy_ne z1]
  rw [show h4 rc = h3 rc from h4o rc (by omega) (by omega), g1]
  obtain ⟨h5, hh5⟩ : ∃ h5 : jH, h5 = jup (jup (jup h4 (o + 7) 4 rn) (o + 7) 5 0) (o + 7) 6 0 := ⟨_, rfl⟩
  rw [← hh5]
  have h5o : ∀ z, z ≠ o + 18 → z ≠ o + 20 → z ≠ o + 7 → h5 z = h3 z := fun z z1 z2 z3 => by rw [hh5, jup_ne z3, jup_ne z3, jup_ne z3, h4o z z1 z2]
  have e5 : h5 rc = h3 rc := h5o rc (by omega) (by omega) (by omega)
  have e5o : h5 o = h2 o := by rw [h5o o (by omega) (by omega) (by omega), f2 o (by omega)]
  rw [e5, e5o, g4, g5, g6, p4]
  obtain ⟨h6, hh6⟩ : ∃ h6 : jH, h6 = jup (jup (jup (jup h5 o 10 (rs : Int)) o 11 ra) o 12 rser) o 13 gr := ⟨_, rfl⟩
  rw [← hh6]
  have e6 : h6 rc = h3 rc := by rw [hh6, jup_ne (by omega), jup_ne (by omega), jup_ne (by omega), jup_ne (by omega)]; exact e5
  rw [e6, g7, if_pos (by split <;> simp)]
  obtain ⟨h7, hh7⟩ : ∃ h7 : jH, h7 = jup h6 o 14 (if rh = true then 1 else 0) := ⟨_, rfl⟩
  rw [← hh7]
  have h7o : ∀ z, z ≠ o → z ≠ o + 18 → z ≠ o + 20 → z ≠ o + 7 → (z < rc ∨ rc + 3 < z) → h7 z = h2 z := fun z z1 z2 z3 z4 z5 => by rw [hh7, jup_ne z1, hh6, jup_ne z1, jup_ne z1, jup_ne z1, jup_ne z1, h5o z z2 z3 z4, f2 z z5]
  have c7 : CD h7 (o + 1) ns blk len D C := c12.eq (fun z z1 z2 => h7o z (by omega) (by omega) (by omega) (by omega) (by omega))
  have h7s : h7 o 14 = (if rh = true then 1 else 0) ∧ h7 o 10 = (rs : Int) ∧ h7 o 11 = ra ∧ h7 o 12 = rser ∧ h7 o 13 = gr ∧ h7 o 9 = tk ∧ h7 o 7 = snap ∧ h7 o 0 = h2 o 0 := by
    refine ⟨by rw [hh7, ju_eq], ?_, ?_, ?_, ?_, ?_, ?_, ?_⟩
    · rw [hh7, ju_ne (by decide), hh6, ju_ne (by decide), ju_ne (by decide), ju_ne (by decide), ju_eq]
    · rw [hh7, ju_ne (by decide), hh6, ju_ne (by decide), ju_ne (by decide), ju_eq]
    · rw [hh7, ju_ne (by decide), hh6, ju_ne (by decide), ju_eq]
    · rw [hh7, ju_ne (by decide), hh6, ju_eq]
    · rw [hh7, ju_ne (by decide), hh6, ju_ne (by decide), ju_ne (by decide), ju_ne (by decide), ju_ne (by decide), e5o]; exact p6
    · rw [hh7, ju_ne (by decide), hh6, ju_ne (by decide), ju_ne (by decide), ju_ne (by decide), ju_ne (by decide), e5o]; exact hsn
    · rw [hh7, ju_ne (by decide), hh6, ju_ne (by decide), ju_ne (by decide), ju_ne (by decide), ju_ne (by decide), e5o]
  obtain ⟨s14, s10, s11, s12, s13, s9, s7, s0⟩ := h7s
  have row7 : ∀ f, h7 (o + 7) f = h5 (o + 7) f := fun f => by rw [hh7, jup_ne (by omega), hh6, jup_ne (by omega), jup_ne (by omega), jup_ne (by omega), jup_ne (by omega)]
  have row18 : ∀ i, i < 16 → h7 (o + 18) i = rt i := fun i hi => by rw [hh7, jup_ne (by omega), hh6, jup_ne (by omega), jup_ne (by omega), jup_ne (by omega), jup_ne (by omega), hh5, jup_ne (by omega), jup_ne (by omega), jup_ne (by omega), hh4, jcpy_ne (by omega), jcpy_at hi]; exact g2 i hi
  have row20 : ∀ i, i < 4 → h7 (o + 20) i = rtp i := fun i hi => by rw [hh7, jup_ne (by omega), hh6, jup_ne (by omega), jup_ne (by omega), jup_ne (by omega), jup_ne (by omega), hh5, jup_ne (by omega), jup_ne (by omega), jup_ne (by omega), hh4, jcpy_at hi, jcpy_ne (by omega)]; exact g3 i hi
  have mk : ∀ (g : jH) (D' C' : Nat → Nat → Int), (∀ z, z ≠ o + 2 → z ≠ o + 3 → g z = h7 z) → CD g (o + 1) ns blk len D' C' → CS g o ns blk len n ((D', C'), (([] : spFl), 0), (([] : List spRec), 0, rn), (([] : spWt), kp), (rt, stab, snap, rtp), (rs, ra.toNat, rser, gr, rh, tk)) := by
    intro g D' C' hg hD
    have gg : ∀ z, o + 4 ≤ z → z ≤ o + 17 → (z < o + 7 ∨ o + 7 < z) → g z = h2 z := fun z z1 z2 z3 => by rw [hg _ (by omega) (by omega), h7o _ (by omega) (by omega) (by omega) (by omega) (by omega)]
    refine ⟨hD, ⟨⟨by rw [gg _ (by omega) (by omega) (by omega)]; exact q2, fun i e he => by cases he⟩, by rw [gg _ (by omega) (by omega) (by omega)]; exact q3⟩, ⟨?_, ?_, ?_, by simp, fun i r hr2 => by cases hr2⟩, ⟨⟨by rw [gg _ (by omega) (by omega) (by omega)]; exact w2, by simp, fun i e he => by cases he⟩, ?_⟩, ⟨fun i hi => by rw [hg _ (by omega) (by omega)]; exact row18 i hi, fun i hi => ?_, by rw [hg o (by omega) (by omega)]; exact s7, fun i hi => by rw [hg _ (by omega) (by omega)]; exact row20 i hi⟩, by rw [hg o (by omega) (by omega)]; exact s10, ?_, by rw [hg o (by omega) (by omega)]; exact s12, by rw [hg o (by omega) (by omega)]; exact s13, by rw [hg o (by omega) (by omega)]; exact s14, by rw [hg o (by omega) (by omega)]; exact s9⟩
    · rw [hg _ (by omega) (by omega), row7, hh5, ju_ne (by decide), ju_ne (by decide), ju_eq]
    · rw [hg _ (by omega) (by omega), row7, hh5, ju_ne (by decide), ju_eq]; rfl
    · rw [hg _ (by omega) (by omega), row7, hh5, ju_eq]; rfl
    · obtain ⟨y1, y2, y3, y4⟩ := c4'
      refine ⟨by rw [gg _ (by omega) (by omega) (by omega)]; exact y1, y2, y3, fun i e he => ?_⟩
      have := y4 i e he
      rw [gg _ (by omega) (by omega) (by omega), gg _ (by omega) (by omega) (by omega), gg _ (by omega) (by omega) (by omega)]
      exact this
    · rw [hg _ (by omega) (by omega), h7o _ (by omega) (by omega) (by omega) (by omega) (by omega)]
      exact hst i hi
    · rw [hg o (by omega) (by omega), s11]; omega
  have fr7 : ∀ z, (z < o ∨ o + 20 < z) → (z < rc ∨ rc + 3 < z) → h7 z = h2 z := fun z z1 z2 => h7o z (by omega) (by omega) (by omega) (by omega) z2
  rw [s14, s10, s11]
  by_cases a : rh = true
  · rw [if_neg (by rw [if_pos a]; decide), if_pos a, if_pos a]
    exact ⟨h7, rfl, fr7, s0, mk h7 _ _ (fun _ _ _ => rfl) c7⟩
  · rw [if_pos (by rw [if_neg a]), if_neg a, if_neg a]
    obtain ⟨h8, w1, w2, w3⟩ := c_wipe (od := o + 1) (s := rs) (k := ra.toNat) hd hr.2.2.2.1 (by omega) c7
    rw [show (ra.toNat : Int) = ra by omega] at w1
    rw [w1]
    exact ⟨h8, rfl, fun z z1 z2 => by rw [w2 z (by omega) (by omega)]; exact fr7 z z1 z2, by rw [w2 o (by omega) (by omega)]; exact s0, mk h8 _ _ (fun z z1 z2 => w2 z (by omega) (by omega)) w3⟩
/-- a blank state -/
theorem c_blank {h : jH} {o bm : Nat} (hpl : pl < o ∨ o + 20 < pl) (h0 : h pl 0 = (ns : Int)) (h1 : h pl 1 = (bm : Int)) (h2 : h pl 2 = (blk : Int)) (hl : bm * blk = len) (hl2 : len ≤ 1000) (hadr : ∀ s k, s < ns → k < len → s * len + k < 512) : ∃ h', St_blank h o pl = some h' ∧ (∀ z, (z < o ∨ o + 20 < z) → h' z = h z) ∧ h' o 0 = (pl : Int) ∧ (∀ f, f ≠ 0 → f ≠ 7 → f ≠ 9 → f ≠ 13 → f ≠ 14 → h' o f = h o f) ∧ CD h' (o + 1) ns blk len (fun _ _ => 0) (fun _ _ => 0) ∧ h' (o + 4) 2 = 0 ∧ h' (o + 4) 3 = 0 ∧ h' (o + 7) 4 = 0 ∧ h' (o + 7) 5 = 0 ∧ h' (o + 7) 6 = 0 ∧ h' (o + 12) 2 = 0 ∧ CKn h' (o + 12) [] 0 ∧ (∀ i, i < 16 → h' (o + 18) i = -1) ∧ (∀ i, i < 16 → h' (o + 19) i = -1) ∧ (∀ i, i < 4 → h' (o + 20) i = -1) ∧ h' o 7 = 0 ∧ h' o 9 = 0 ∧ h' o 13 = 0 ∧ h' o 14 = 0 ∧ (∀ i, i < 512 → h' (o + 2) i = 0 ∧ h' (o + 3) i = 0) := by
  unfold St_blank Di_blank Fl_clear Qu_clear Wa_clear Wa_clearKept
  simp only [Option.bind_some]
  have hmul : (bm : Int) * (blk : Int) = (len : Int) := by rw [← hl, Int.natCast_mul]
  obtain ⟨g0, hg0⟩ : ∃ g0 : jH, g0 = jup h o 0 (Int.ofNat pl) := ⟨_, rfl⟩
  rw [← hg0]
  have e0 : g0 pl = h pl := by rw [hg0, jup_ne (by omega)]
  rw [e0, h0]
  obtain ⟨g1, hg1⟩ : ∃ g1 : jH, g1 = jup g0 (o + 1) 2 (ns : Int) := ⟨_, rfl⟩
  rw [← hg1]
  have e1 : g1 pl = h pl := by rw [hg1, jup_ne (by omega)]; exact e0
  rw [e1, h2]
  obtain ⟨g2, hg2⟩ : ∃ g2 : jH, g2 = jup g1 (o + 1) 4 (blk : Int) := ⟨_, rfl⟩
  rw [← hg2]
  have e2 : g2 pl = h pl := by rw [hg2, jup_ne (by omega)]; exact e1
  rw [e2, h1, h2, hmul, pw (x := (len : Int)) (by omega) (by omega)]
  have b0 : ∀ z, z ≠ o → z ≠ o + 1 → g2 z = h z := fun z z1 z2 => by rw [hg2, jup_ne z2, hg1, jup_ne z2, hg0, jup_ne z1]
  obtain ⟨g3, hg3⟩ : ∃ g3 : jH, g3 = jfill (jfill (jup g2 (o + 1) 3 (len : Int)) (o + 1 + 1) 512 0) (o + 1 + 2) 512 0 := ⟨_, rfl⟩
  rw [← hg3]
  have b1 : ∀ z, z ≠ o → z ≠ o + 1 → z ≠ o + 2 → z ≠ o + 3 → g3 z = h z := fun z z1 z2 z3 z4 => by rw [hg3, jfill_ne (by omega), jfill_ne (by omega), jup_ne z2, b0 z z1 z2]
  have b2 : ∀ f, f ≠ 0 → g3 o f = h o f := fun f hf => by rw [hg3, jfill_ne (by omega), jfill_ne (by omega), jup_ne (by omega), hg2, jup_ne (by omega), hg1, jup_ne (by omega), hg0, ju_ne hf]
  have b3 : g3 o 0 = (pl : Int) := by rw [hg3, jfill_ne (by omega), jfill_ne (by omega), jup_ne (by omega), hg2, jup_ne (by omega), hg1, jup_ne (by omega), hg0, ju_eq]; rfl
  have b4 : g3 (o + 1) 2 = (ns : Int) ∧ g3 (o + 1) 3 = (len : Int) ∧ g3 (o + 1) 4 = (blk : Int) := by
    refine ⟨?_, ?_, ?_⟩
    · rw [hg3, jfill_ne (by omega), jfill_ne (by omega), ju_ne (by decide), hg2, ju_ne (by decide), hg1, ju_eq]
    · rw [hg3, jfill_ne (by omega), jfill_ne (by omega), ju_eq]
    · rw [hg3, jfill_ne (by omega), jfill_ne (by omega), ju_ne (by decide), hg2, ju_eq]
  have b5 : ∀ i, i < 512 → g3 (o + 2) i = 0 ∧ g3 (o + 3) i = 0 := fun i hi => ⟨by rw [hg3, jfill_ne (by omega), show o + 1 + 1 = o + 2 by omega, jfill_at hi], by rw [hg3, show o + 1 + 2 = o + 3 by omega, jfill_at hi]⟩
  obtain ⟨g4, hg4⟩ : ∃ g4 : jH, g4 = jup (jup g3 (o + 4) 2 0) (o + 4) 3 0 := ⟨_, rfl⟩
  rw [← hg4]
  obtain ⟨g5, hg5⟩ : ∃ g5 : jH, g5 = jup (jup (jup g4 (o + 7) 4 0) (o + 7) 5 0) (o + 7) 6 0 := ⟨_, rfl⟩
  rw [← hg5]
  obtain ⟨g6, hg6⟩ : ∃ g6 : jH, g6 = jup (jup g5 (o + 12) 2 0) (o + 12) 6 0 := ⟨_, rfl⟩
  rw [← hg6]
  have d4 : ∀ z, z ≠ o + 4 → g4 z = g3 z := fun z hz => by rw [hg4, jup_ne hz, jup_ne hz]
  have d5 : ∀ z, z ≠ o + 7 → g5 z = g4 z := fun z hz => by rw [hg5, jup_ne hz, jup_ne hz, jup_ne hz]
  have d6 : ∀ z, z ≠ o + 12 → g6 z = g5 z := fun z hz => by rw [hg6, jup_ne hz, jup_ne hz]
  obtain ⟨g7, hg7⟩ : ∃ g7 : jH, g7 = jfill (jfill (jfill g6 (o + 18) 16 (-1)) (o + 19) 16 (-1)) (o + 20) 4 (-1) := ⟨_, rfl⟩
  rw [← hg7]
  have d7 : ∀ z, z ≠ o + 18 → z ≠ o + 19 → z ≠ o + 20 → g7 z = g6 z := fun z z1 z2 z3 => by rw [hg7, jfill_ne z3, jfill_ne z2, jfill_ne z1]
  obtain ⟨g8, hg8⟩ : ∃ g8 : jH, g8 = jup (jup (jup (jup g7 o 7 0) o 9 0) o 13 0) o 14 0 := ⟨_, rfl⟩
  rw [← hg8]
  have d8 : ∀ z, z ≠ o → g8 z = g7 z := fun z hz => by rw [hg8, jup_ne hz, jup_ne hz, jup_ne hz, jup_ne hz]
  have k8 : ∀ f, f ≠ 7 → f ≠ 9 → f ≠ 13 → f ≠ 14 → g8 o f = g3 o f := fun f x1 x2 x3 x4 => by rw [hg8, ju_ne x4, ju_ne x3, ju_ne x2, ju_ne x1, d7 o (by omega) (by omega) (by omega), d6 o (by omega), d5 o (by omega), d4 o (by omega)]
  have lo : ∀ z, z ≠ o → z < o + 4 → g8 z = g3 z := fun z z1 z2 => by rw [d8 z z1, d7 z (by omega) (by omega) (by omega), d6 z (by omega), d5 z (by omega), d4 z (by omega)]
  refine ⟨g8, rfl, fun z hz => by rw [d8 z (by omega), d7 z (by omega) (by omega) (by omega), d6 z (by omega), d5 z (by omega), d4 z (by omega), b1 z (by omega) (by omega) (by omega) (by omega)], by rw [k8 0 (by decide) (by decide) (by decide) (by decide)]; exact b3, fun f f1 f2 f3 f4 f5 => by rw [k8 f f2 f3 f4 f5, b2 f f1], ⟨by rw [lo _ (by omega) (by omega)]; exact b4.1, by rw [lo _ (by omega) (by omega)]; exact b4.2.1, by rw [lo _ (by omega) (by omega)]; exact b4.2.2, fun s k hs hk => ?_, fun s k hs hk => ?_, fun a ha1 ha2 => ?_⟩, ?_, ?_, ?_, ?_, ?_, ?_, ⟨?_, by decide, rfl, fun k e he => by cases he⟩, fun i hi => ?_, fun i hi => ?_, fun i hi => ?_, ?_, ?_, ?_, by rw [hg8, ju_eq], fun i hi => by rw [lo _ (by omega) (by omega), lo _ (by omega) (by omega)]; exact b5 i hi⟩
  · rw [lo _ (by omega) (by omega)]; exact (b5 _ (by have := hadr s k hs hk; omega)).1
  · rw [lo _ (by omega) (by omega)]; exact (b5 _ (by have := hadr s k hs hk; omega)).2
  · rw [lo _ (by omega) (by omega)]; exact (b5 _ ha2).2
  · rw [d8 _ (by omega), d7 _ (by omega) (by omega) (by omega), d6 _ (by omega), d5 _ (by omega), hg4, ju_ne (by decide), ju_eq]
  · rw [d8 _ (by omega), d7 _ (by omega) (by omega) (by omega), d6 _ (by omega), d5 _ (by omega), hg4, ju_eq]
  · rw [d8 _ (by omega), d7 _ (by omega) (by omega) (by omega), d6 _ (by omega), hg5, ju_ne (by decide), ju_ne (by decide), ju_eq]
  · rw [d8 _ (by omega), d7 _ (by omega) (by omega) (by omega), d6 _ (by omega), hg5, ju_ne (by decide), ju_eq]
  · rw [d8 _ (by omega), d7 _ (by omega) (by omega) (by omega), d6 _ (by omega), hg5, ju_eq]
  · rw [d8 _ (by omega), d7 _ (by omega) (by omega) (by omega), hg6, ju_ne (by decide), ju_eq]
  · rw [d8 _ (by omega), d7 _ (by omega) (by omega) (by omega), hg6, ju_eq]; rfl
  · rw [d8 _ (by omega), hg7, jfill_ne (by omega), jfill_ne (by omega), jfill_at hi]
  · rw [d8 _ (by omega), hg7, jfill_ne (by omega), jfill_at hi]
  · rw [d8 _ (by omega), hg7, jfill_at hi]
  · rw [hg8, ju_ne (by decide), ju_ne (by decide), ju_ne (by decide), ju_eq]
  · rw [hg8, ju_ne (by decide), ju_ne (by decide), ju_eq]
  · rw [hg8, ju_ne (by decide), ju_eq]
theorem c_imgB {h : jH} {tp : List Int} {i : Nat} {v : Int} (hb : spByt tp) (hL : CTb h o0 tp) (hn : 35 ≤ tp.length) (hi : i < 16) : G_isImage_B23 h o0 v (i : Int) = if spPr tp (2 + 2 * i) < 1000 ∨ spPr tp (2 + 2 * i) = 65535 then some (.inl ((i + 1 : Nat) : Int)) else some (.inr 0) := by
  unfold G_isImage_B23
  rw [if_pos (by omega), pw (x := 2 * (i : Int)) (by omega) (by omega), pw (x := 2 + 2 * (i : Int)) (by omega) (by omega), show 2 + 2 * (i : Int) = ((2 + 2 * i : Nat) : Int) by omega, c_tpair hb hL (by omega), pw (x := (i : Int) + 1) (by omega) (by omega)]
  simp only [Option.bind_some]
  by_cases a1 : spPr tp (2 + 2 * i) < 1000
  · rw [if_pos a1, if_pos (Or.inl a1)]; rfl
  rw [if_neg a1]
  by_cases a2 : spPr tp (2 + 2 * i) = 65535
  · rw [if_pos a2, if_pos (Or.inr a2)]; rfl
  · rw [if_neg a2, if_neg (by omega)]; rfl
theorem c_ckTp {h : jH} {tp : List Int} {n : Nat} (hb : spByt tp) (hL : CTb h o0 tp) (hn : n ≤ tp.length) : G_checkOf h 139 (o0 + 1) 1600 0 (n : Int) = some (spCk (tp.take n) 139) := by
  have hl := hL.1
  have h1 := g_chk (h := h) (r := o0 + 1) (n := 1600) (b := fun j => h (o0 + 1) j) n 0 0 139 (by decide) (by decide) (by omega) (by decide) (fun j hj => ⟨rfl, by
    rw [Nat.zero_add]
    show 0 ≤ h (o0 + 1) j ∧ h (o0 + 1) j < 256
    rw [hL.at (by omega)]
    exact hb.at j⟩)
  rw [Nat.zero_add] at h1
  rw [show ((0 : Nat) : Int) = 0 from rfl] at h1
  rw [h1]
  congr 1
  have hlt : (tp.take n).length = n := by rw [List.length_take]; omega
  have h2 := spChk_list (b := fun j => h (o0 + 1) j) (tp.take n) 0 139 (fun j v hj => by
    rw [Nat.zero_add]
    rw [List.getElem?_take] at hj
    split at hj
    · exact hL.2 j v hj
    · cases hj)
  rw [hlt] at h2
  exact h2
theorem c_isImg {h : jH} {tp : List Int} {D C : Nat → Nat → Int} (hd : spDim ns blk len) (hb : spByt tp) (hL : CTb h o0 tp) (hD : CD h (o0 + 36) ns blk len D C) : (spImg ns len tp → G_isImage h o0 (tp.length : Int) = some 1) ∧ (¬ spImg ns len tp → G_isImage h o0 (tp.length : Int) = some 0) := by
  have hl := hd.len
  have hns := hd.1
  have hbd := (hd.adr (s := 0) (k := 0) (by omega) (by omega)).2
  unfold G_isImage Di_total
  rw [hD.1, hD.2.1, show (ns : Int) * (len : Int) = ((ns * len : Nat) : Int) by rw [Int.natCast_mul], pw (x := ((ns * len : Nat) : Int)) (by omega) (by omega)]
  simp only [Option.bind_some]
  rw [pw (x := 34 + ((ns * len : Nat) : Int)) (by omega) (by omega), pw (x := 34 + ((ns * len : Nat) : Int) + 1) (by omega) (by omega)]
  by_cases a0 : tp.length = 35 + ns * len
  rotate_left
  · exact ⟨fun h => absurd h.1 a0, fun _ => by rw [if_neg (by omega)]⟩
  rw [if_pos (by omega)]
  have hend : G_isImage_L23 h o0 (tp.length : Int) ((16 : Nat) : Int) = some (if tp.getD (tp.length - 1) 0 = spCk (tp.take (tp.length - 1)) 139 then 1 else 0) := by
    unfold G_isImage_L23
    refine jloop_x ?_
    show G_isImage_B23 h o0 (tp.length : Int) ((16 : Nat) : Int) = _
    unfold G_isImage_B23
    have hl1 := hL.1
    rw [if_neg (by decide), pw (x := (tp.length : Int) - 1) (by omega) (by omega), show (tp.length : Int) - 1 = ((tp.length - 1 : Nat) : Int) by omega, g_cellN (by omega), hL.at (by omega), c_ckTp hb hL (by omega)]
    simp only [Option.bind_some]
    by_cases c : tp.getD (tp.length - 1) 0 = spCk (tp.take (tp.length - 1)) 139
    · rw [if_pos c, if_pos c]
    · rw [if_neg c, if_neg c]
  have stepY : ∀ i, i < 16 → (spPr tp (2 + 2 * i) < 1000 ∨ spPr tp (2 + 2 * i) = 65535) → G_isImage_L23 h o0 (tp.length : Int) (i : Int) = G_isImage_L23 h o0 (tp.length : Int) ((i + 1 : Nat) : Int) := fun i hi hc => by
    unfold G_isImage_L23
    refine jloop_l ?_
    rw [c_imgB hb hL (by omega) hi, if_pos hc]
  have stepN : ∀ i, i < 16 → ¬ (spPr tp (2 + 2 * i) < 1000 ∨ spPr tp (2 + 2 * i) = 65535) → G_isImage_L23 h o0 (tp.length : Int) (i : Int) = some 0 := fun i hi hc => by
    unfold G_isImage_L23
    refine jloop_r ?_
    rw [c_imgB hb hL (by omega) hi, if_neg hc]
  have key : ∀ m i, i + m = 16 → ((∀ j, i ≤ j → j < 16 → spPr tp (2 + 2 * j) < 1000 ∨ spPr tp (2 + 2 * j) = 65535) → G_isImage_L23 h o0 (tp.length : Int) (i : Int) = G_isImage_L23 h o0 (tp.length : Int) ((16 : Nat) : Int)) ∧ ((¬ ∀ j, i ≤ j → j < 16 → spPr tp (2 + 2 * j) < 1000 ∨ spPr tp (2 + 2 * j) = 65535) → G_isImage_L23 h o0 (tp.length : Int) (i : Int) = some 0) := by
    intro m
    induction m with
    | zero => intro i hi; exact ⟨fun _ => by rw [show i = 16 by omega], fun hn => absurd (fun j h1 h2 => by omega) hn⟩
    | succ m ih =>
      intro i hi
      obtain ⟨k1, k2⟩ := ih (i + 1) (by omega)
      refine ⟨fun hall => by rw [stepY i (by omega) (hall i (Nat.le_refl _) (by omega))]; exact k1 (fun j h1 h2 => hall j (by omega) h2), fun hn => ?_⟩
      by_cases c : spPr tp (2 + 2 * i) < 1000 ∨ spPr tp (2 + 2 * i) = 65535
      · rw [stepY i (by omega) c]
        refine k2 (fun hall => hn (fun j h1 h2 => ?_))
        rcases Nat.eq_or_lt_of_le h1 with e | e
        · rw [← e]; exact c
        · exact hall j e h2
      · exact stepN i (by omega) c
  obtain ⟨k1, k2⟩ := key 16 0 (by omega)
  refine ⟨fun hs => ?_, fun hs => ?_⟩
  · rw [show G_isImage_L23 h o0 (tp.length : Int) 0 = _ from k1 (fun j _ h2 => hs.2.2 j h2), hend, if_pos hs.2.1]
  · by_cases c : ∀ j, 0 ≤ j → j < 16 → spPr tp (2 + 2 * j) < 1000 ∨ spPr tp (2 + 2 * j) = 65535
    · rw [show G_isImage_L23 h o0 (tp.length : Int) 0 = _ from k1 c, hend, if_neg (fun e => hs ⟨a0, e, fun i hi => c i (Nat.zero_le _) hi⟩)]
    · exact k2 c
end ONC
