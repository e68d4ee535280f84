/-! giving up: the class, whole -/
section GIX
variable {ns blk len : Nat}
theorem c_writeHead {h : jH} {od : Nat} {ser num : Int} {D C : Nat → Nat → Int} (hd0 : spDim ns blk len) (hser : jI32 ser) (hnum : jI32 num) (hy : spByD ns len D) (hc : CD h od ns blk len D C) : ∃ h', Di_writeHead h od 0 ser num = some h' ∧ (∀ z, z ≠ od + 1 → z ≠ od + 2 → h' z = h z) ∧ CD h' od ns blk len (spArrD (spOut 0 0 (spHdB ser num)) D) (spArrC (spOut 0 0 (spHdB ser num)) C) := by
  have hl := hd0.len
  have hns := hd0.1
  unfold jI32 at hser hnum
  unfold Di_writeHead
  have f3 : ∀ g : jH, (∀ z, z ≠ od + 1 → z ≠ od + 2 → g z = h z) → g od 3 = (len : Int) := fun g hg => by rw [hg od (by omega) (by omega)]; exact hc.2.1
  have a0 : ∀ g : jH, (∀ z, z ≠ od + 1 → z ≠ od + 2 → g z = h z) → wr (0 * g od 3) = 0 := fun g hg => by rw [Int.zero_mul]; rfl
  rw [pj_255, pj_255, pj_255, pj_255, pj_shr8 (by omega) (by omega), pj_shr8 (by omega) (by omega)]
  rw [a0 h (fun _ _ _ => rfl)]
  obtain ⟨g1, e1, o1, d1⟩ := c_write (v := ser / 256 % 256) (a := 0) (s := 0) (k := 0) hd0 hc (by omega) (by omega) (by omega)
  rw [e1]
  simp only [Option.bind_some]
  obtain ⟨g2, e2, o2, d2⟩ := c_write (v := ser % 256) (a := wr (0 + 1)) (s := 0) (k := 1) hd0 d1 (by omega) (by omega) (by rw [pw (by omega) (by omega)]; omega)
  rw [e2]
  simp only [Option.bind_some]
  have o2' : ∀ z, z ≠ od + 1 → z ≠ od + 2 → g2 z = h z := fun z z1 z2 => (o2 z z1 z2).trans (o1 z z1 z2)
  obtain ⟨g3, e3, o3, d3⟩ := c_write (v := num / 256 % 256) (a := wr (0 + 2)) (s := 0) (k := 2) hd0 d2 (by omega) (by omega) (by rw [pw (by omega) (by omega)]; omega)
  rw [e3]
  simp only [Option.bind_some]
  have o3' : ∀ z, z ≠ od + 1 → z ≠ od + 2 → g3 z = h z := fun z z1 z2 => (o3 z z1 z2).trans (o2' z z1 z2)
  obtain ⟨g4, e4, o4, d4⟩ := c_write (v := num % 256) (a := wr (0 + 3)) (s := 0) (k := 3) hd0 d3 (by omega) (by omega) (by rw [pw (by omega) (by omega)]; omega)
  rw [e4]
  simp only [Option.bind_some]
  have o4' : ∀ z, z ≠ od + 1 → z ≠ od + 2 → g4 z = h z := fun z z1 z2 => (o4 z z1 z2).trans (o3' z z1 z2)
  obtain ⟨D4, hD4⟩ : ∃ D4, D4 = up2 (up2 (up2 (up2 D 0 0 (ser / 256 % 256)) 0 1 (ser % 256)) 0 2 (num / 256 % 256)) 0 3 (num % 256) := ⟨_, rfl⟩
  rw [← hD4] at d4
  have hy4 : spByD ns len D4 := by
    rw [hD4]
    intro s hs j hj
    have := hy s hs j hj
    unfold up2
    split
    · omega
    · split
      · omega
      · split
        · omega
        · split
          · omega
          · exact this
  have hk := c_chk (h := g4) (o := od) (s := 0) (k := 0) (n := 4) hd0 d4 hy4 (by omega) (by omega)
  rw [Nat.zero_mul, Nat.zero_add, show ((0 + 4 : Nat) : Int) = 4 from rfl, show ((0 : Nat) : Int) = 0 from rfl] at hk
  rw [show wr (0 + 4) = 4 by rw [pw (by omega) (by omega)]; rfl, hk]
  simp only [Option.bind_some]
  have hck : spChk (D4 0) 4 0 7 = spCk (spHd4 ser num) 7 := by
    rw [hD4]
    rfl
  obtain ⟨g5, e5, o5, d5⟩ := c_write (v := spChk (D4 0) 4 0 7) (a := 4) (s := 0) (k := 4) hd0 d4 (by omega) (by omega) (by omega)
  rw [e5]
  simp only [Option.bind_some]
  refine ⟨g5, rfl, fun z z1 z2 => (o5 z z1 z2).trans (o4' z z1 z2), ?_⟩
  rw [hck, hD4] at d5
  exact d5
theorem spArrD_cong {s k : Nat} : ∀ (F : spFl) (f g : Nat → Nat → Int), f s k = g s k → spArrD F f s k = spArrD F g s k := by
  intro F
  induction F with
  | nil => intro f g h; exact h
  | cons e r ih =>
    intro f g h
    refine ih _ _ ?_
    unfold up2
    rw [h]
theorem spArrC_cong {s k : Nat} : ∀ (F : spFl) (f g : Nat → Nat → Int), f s k = g s k → spArrC F f s k = spArrC F g s k := by
  intro F
  induction F with
  | nil => intro f g h; exact h
  | cons e r ih =>
    intro f g h
    refine ih _ _ ?_
    unfold up2
    rw [h]
theorem c_giv {h : jH} {o n : Nat} {b : Int} {s : spSt} (hs : CS h o ns blk len n s) (hI : spInv ns blk len b s) :
    ∃ h', St_giveUpRest h o = some ((spGiv ns len s).2, h') ∧ (∀ z, z ≠ o → z ≠ o + 2 → z ≠ o + 3 → h' z = h z) ∧ h' o 0 = h o 0 ∧ CS h' o ns blk len n (spGiv ns len s).1 := by
  obtain ⟨⟨D, C⟩, ⟨F, lf⟩, ⟨q, fl, first⟩, ⟨wt, kp⟩, ⟨tab, stab, snap, tops⟩, ⟨sg, at', ser, gr, hl, tk⟩⟩ := s
  obtain ⟨i1, i2, i3, i4, i5, i6, i7⟩ := hI
  obtain ⟨c1, ⟨c2, c2'⟩, c3, ⟨c4, c4'⟩, ⟨t1, t2, t3, t4⟩, p1, p2, p3, p4, p5, p6⟩ := hs
  have hl5 := i1.1.len
  have hn4 := i1.1.2.1
  obtain ⟨K, hK⟩ : ∃ K, K = spGk D len ser sg at' := ⟨_, rfl⟩
  obtain ⟨g, hg⟩ : ∃ g : jH, g = jup h o 14 0 := ⟨_, rfl⟩
  have go : ∀ z, z ≠ o → g z = h z := fun z hz => by rw [hg, jup_ne hz]
  have gf : ∀ f, f ≠ 14 → g o f = h o f := fun f hf => by rw [hg, ju_ne hf]
  have cg : CD g (o + 1) ns blk len D C := c1.eq (fun z z1 z2 => go z (by omega))
  -- the state behind the loop
  have mk : ∀ (g2 : jH) (D' C' : Nat → Nat → Int) (sg2 at2 : Nat) (ser2 gr2 : Int), (∀ z, z ≠ o → z ≠ o + 2 → z ≠ o + 3 → g2 z = h z) → (∀ f, f ≠ 10 → f ≠ 11 → f ≠ 12 → f ≠ 13 → f ≠ 14 → g2 o f = h o f) → CD g2 (o + 1) ns blk len D' C' → g2 o 10 = (sg2 : Int) → g2 o 11 = (at2 : Int) → g2 o 12 = ser2 → g2 o 13 = gr2 → g2 o 14 = 0 → CS g2 o ns blk len n ((D', C'), (F, lf), (q, fl, first), (wt, kp), (tab, stab, snap, tops), (sg2, at2, ser2, gr2, false, tk)) := by
    intro g2 D' C' sg2 at2 ser2 gr2 ho hf hD h10 h11 h12 h13 h14
    refine ⟨hD, ⟨?_, by rw [ho _ (by omega) (by omega) (by omega)]; exact c2'⟩, c3.of (fun z z1 z2 => ho z (by omega) (by omega) (by omega)), ⟨?_, ?_⟩, ⟨?_, ?_, by rw [hf 7 (by decide) (by decide) (by decide) (by decide) (by decide)]; exact t3, ?_⟩, h10, h11, h12, h13, by rw [h14]; rfl, by rw [hf 9 (by decide) (by decide) (by decide) (by decide) (by decide)]; exact p6⟩
    · unfold CF; rw [ho _ (by omega) (by omega) (by omega), ho _ (by omega) (by omega) (by omega), ho _ (by omega) (by omega) (by omega)]; exact c2
    · unfold CW CWa; rw [ho _ (by omega) (by omega) (by omega), ho _ (by omega) (by omega) (by omega), ho _ (by omega) (by omega) (by omega)]; exact c4
    · unfold CKn; rw [ho _ (by omega) (by omega) (by omega), ho _ (by omega) (by omega) (by omega), ho _ (by omega) (by omega) (by omega), ho _ (by omega) (by omega) (by omega)]; exact c4'
    · rw [ho _ (by omega) (by omega) (by omega)]; exact t1
    · rw [ho _ (by omega) (by omega) (by omega)]; exact t2
    · rw [ho _ (by omega) (by omega) (by omega)]; exact t4
  unfold St_giveUpRest
  rw [← hg, gf 12 (by decide), p3]
  unfold St_giveUpRest_p17 St_giveUpRest_p41
  by_cases z : ser = 0
  · rw [if_pos z, if_pos rfl]
    have hx : ∀ i, (fun _ => false : Nat → Bool) i = (!decide (ser = 0) && decide (i = sg)) := fun i => by simp [z]
    obtain ⟨g1, e1, e2, e3⟩ := c_givL (o := o) (v1 := 0) (x := fun _ => false) i1.1 i6.2.1 i1.2.1 (by rw [if_pos z]) hx ns 0 g 0 (by omega) (cg.ext (fun s k _ _ => by unfold spGp; rw [if_neg (fun h => by rcases h.1 with h | h; omega; cases h)]) (fun s k _ _ => by unfold spGp; rw [if_neg (fun h => by rcases h.1 with h | h; omega; cases h)])) (by rw [gf 10 (by decide)]; exact p1) (by rw [gf 12 (by decide)]; exact p3) (by omega) (by omega)
    rw [show St_giveUpRest_L44 g o 0 0 0 = _ from e1, if_pos rfl]
    have k1 : ∀ f, g1 o f = g o f := fun f => by rw [e2 o (by omega) (by omega)]
    rw [e2 (o + 7) (by omega) (by omega), go (o + 7) (by omega), c3.1]
    have hy2 : spByD ns len (spGp (spGk D len ser sg at') ns (fun _ => false) D) := spGp_by i1.2.1
    unfold St_openAtOnce
    rw [k1 13, gf 13 (by decide), p4]
    obtain ⟨g2, w1, w2, w3⟩ := c_writeHead (ser := wr (gr + 1)) (num := first) i1.1 (wr_in _) (by unfold jI32; omega) hy2 e3
    rw [w1]
    unfold St_movePlace
    simp only [Option.bind_some]
    have k2 : ∀ f, g2 o f = g o f := fun f => by rw [w2 o (by omega) (by omega), k1 f]
    rw [k2 13, gf 13 (by decide), p4]
    obtain ⟨g3, hg3⟩ : ∃ g3 : jH, g3 = jup (jup (jup (jup g2 o 10 0) o 11 5) o 12 (wr (gr + 1))) o 13 (wr (gr + 1)) := ⟨_, rfl⟩
    rw [← hg3]
    have hsum : spSum (fun i => if ((fun _ => false : Nat → Bool) i) = true then 0 else spGc D len (spGk D len ser sg at') i) ns = spSum (spGc D len (spGk D len ser sg at')) ns := spSum_congr ns (fun i _ => by dsimp only; rw [if_neg (by decide)])
    unfold spGiv
    dsimp only
    rw [if_pos z]
    dsimp only at hsum
    refine ⟨g3, ?_, fun y y1 y2 y3 => by rw [hg3, jup_ne y1, jup_ne y1, jup_ne y1, jup_ne y1, w2 y (by omega) (by omega), e2 y (by omega) (by omega), go y y1], by rw [hg3, ju_ne (by decide), ju_ne (by decide), ju_ne (by decide), ju_ne (by decide), k2, gf 0 (by decide)], ?_⟩
    · dsimp only
      rw [hsum]
      congr 2
      show 0 + (_ - 0) = _
      omega
    · refine mk g3 _ _ 0 5 _ _ (fun y y1 y2 y3 => by rw [hg3, jup_ne y1, jup_ne y1, jup_ne y1, jup_ne y1, w2 y (by omega) (by omega), e2 y (by omega) (by omega), go y y1]) (fun f f1 f2 f3 f4 f5 => by rw [hg3, ju_ne f4, ju_ne f3, ju_ne f2, ju_ne f1, k2, gf f f5]) ?_ (by rw [hg3, ju_ne (by decide), ju_ne (by decide), ju_ne (by decide), ju_eq]; rfl) (by rw [hg3, ju_ne (by decide), ju_ne (by decide), ju_eq]; rfl) (by rw [hg3, ju_ne (by decide), ju_eq]) (by rw [hg3, ju_eq]) (by rw [hg3, ju_ne (by decide), ju_ne (by decide), ju_ne (by decide), ju_ne (by decide), k2, hg, ju_eq])
      have w4 := w3.eq (h' := g3) (fun y y1 y2 => by rw [hg3, jup_ne (by omega), jup_ne (by omega), jup_ne (by omega), jup_ne (by omega)])
      refine w4.ext (fun s k h1 h2 => ?_) (fun s k h1 h2 => ?_)
      · exact spArrD_cong _ _ _ (spGp_all h1)
      · exact spArrC_cong _ _ _ (spGp_all h1)
  · rw [if_neg z, if_neg (by decide)]
    rw [gf 10 (by decide), gf 11 (by decide), p1, p2]
    obtain ⟨g0, a1, a2, a3⟩ := c_wipe (od := o + 1) (s := sg) (k := at') i1.1 i6.1 i6.2.1 cg
    rw [a1]
    simp only [Option.bind_some]
    have hKs : spGk D len ser sg at' sg = at' := by unfold spGk; rw [if_neg z, if_pos rfl]
    have hb := spNz_in (b := D sg) (len - at') at'
    have hx : ∀ i, (fun i => decide (i = sg) : Nat → Bool) i = (!decide (ser = 0) && decide (i = sg)) := fun i => by simp [z]
    have hw : ∀ f : Nat → Nat → Int, ∀ s k, spGp (spGk D len ser sg at') 0 (fun i => decide (i = sg)) f s k = spWipe f sg at' s k := by
      intro f s k
      unfold spGp spWipe
      by_cases y : s = sg
      · subst y
        rw [hKs]
        by_cases y2 : at' ≤ k
        · rw [if_pos ⟨Or.inr (by simp), y2⟩, if_pos ⟨rfl, y2⟩]
        · rw [if_neg (fun h => y2 h.2), if_neg (fun h => y2 h.2)]
      · rw [if_neg (fun h => by rcases h.1 with h | h; omega; simp at h; exact y h), if_neg (fun h => y h.1)]
    obtain ⟨g1, e1, e2, e3⟩ := c_givL (o := o) (v1 := 1) (x := fun i => decide (i = sg)) i1.1 i6.2.1 i1.2.1 (by rw [if_neg z]) hx ns 0 g0 (spNz (D sg) (len - at') at') (by omega) (a3.ext (fun s k _ _ => hw D s k) (fun s k _ _ => hw C s k)) (by rw [a2 o (by omega) (by omega), gf 10 (by decide)]; exact p1) (by rw [a2 o (by omega) (by omega), gf 12 (by decide)]; exact p3) hb.1 (by omega)
    rw [show St_giveUpRest_L44 g0 o 1 (spNz (D sg) (len - at') at') 0 = _ from e1, if_neg (by decide)]
    have k1 : ∀ f, g1 o f = g o f := fun f => by rw [e2 o (by omega) (by omega), a2 o (by omega) (by omega)]
    have ho : ∀ y, y ≠ o → y ≠ o + 2 → y ≠ o + 3 → g1 y = h y := fun y y1 y2 y3 => by rw [e2 y y2 y3, a2 y (by omega) (by omega), go y y1]
    unfold spGiv
    dsimp only
    rw [if_neg z]
    refine ⟨g1, ?_, ho, by rw [k1, gf 0 (by decide)], ?_⟩
    · have hsp := spSum_split (g := spGc D len (spGk D len ser sg at')) (s := sg) ns
      rw [if_pos i6.1] at hsp
      have hcg : spSum (fun i => if (decide (i = sg)) = true then 0 else spGc D len (spGk D len ser sg at') i) ns = spSum (fun i => if i = sg then 0 else spGc D len (spGk D len ser sg at') i) ns := spSum_congr ns (fun i _ => by by_cases y : i = sg <;> simp [y])
      have hgs : spGc D len (spGk D len ser sg at') sg = spNz (D sg) (len - at') at' := by unfold spGc; rw [hKs]
      dsimp only
      rw [hsp, hgs, hcg]
      congr 2
      show _ + (_ - 0) = _
      omega
    · refine mk g1 _ _ sg at' ser gr ho (fun f _ _ _ _ f5 => by rw [k1, gf f f5]) (e3.ext (fun s k h1 _ => spGp_all h1) (fun s k h1 _ => spGp_all h1)) (by rw [k1, gf 10 (by decide)]; exact p1) (by rw [k1, gf 11 (by decide)]; exact p2) (by rw [k1, gf 12 (by decide)]; exact p3) (by rw [k1, gf 13 (by decide)]; exact p4) (by rw [k1, hg, ju_eq])
end GIX
