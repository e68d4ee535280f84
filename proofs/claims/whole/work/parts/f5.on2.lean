/-! an image taken on: the class's end -/
section OND
variable {T : jT} {o0 pl ns blk len B : Nat} {p : spPl} {X : spX} {b : Int}
theorem CD.cong {h : jH} {od : Nat} {D C D' C' : Nat → Nat → Int} (hc : CD h od ns blk len D C) (e1 : ∀ s k, s < ns → k < len → D s k = D' s k) (e2 : ∀ s k, s < ns → k < len → C s k = C' s k) : CD h od ns blk len D' C' := ⟨hc.1, hc.2.1, hc.2.2.1, fun s k hs hk => (hc.2.2.2.1 s k hs hk).trans (e1 s k hs hk), fun s k hs hk => (hc.2.2.2.2.1 s k hs hk).trans (e2 s k hs hk), hc.2.2.2.2.2⟩
theorem spTD_by {tp : List Int} (hb : spByt tp) : spByD ns len (spTD len tp) := fun s _ k _ => hb.at _
theorem spTS_ti {tp : List Int} (hb : spByt tp) (hi : spImg ns len tp) : spTi (spTS tp) := fun i h => by
  have h1 := hi.2.2 i h
  have a0 := hb.at (2 + 2 * i)
  have a1 := hb.at (2 + 2 * i + 1)
  have : 0 ≤ spPr tp (2 + 2 * i) := by unfold spPr; omega
  unfold spTS
  split <;> omega
theorem spPr_in {tp : List Int} (hb : spByt tp) (k : Nat) : 0 ≤ spPr tp k ∧ spPr tp k < 65536 := by
  have a0 := hb.at k
  have a1 := hb.at (k + 1)
  unfold spPr
  omega
theorem spGrt_in {D : Nat → Nat → Int} (hd : spDim ns blk len) (hy : spByD ns len D) : ∀ n, n ≤ ns → 0 ≤ spGrt D n ∧ spGrt D n < 65536 := by
  have hl := hd.len
  intro n
  induction n with
  | zero => intro _; exact ⟨Int.le_refl _, show (0 : Int) < 65536 by decide⟩
  | succ n ih =>
    intro hn
    have h1 := ih (by omega)
    have y0 := hy n (by omega) 0 (by omega)
    have y1 := hy n (by omega) 1 (by omega)
    have h2 : 0 ≤ spSer (D n) ∧ spSer (D n) < 65536 := by unfold spSer; omega
    unfold spGrt
    split <;> omega
theorem spOnS_ok {tp : List Int} (hd : spDim ns blk len) (hb : spByt tp) (hi : spImg ns len tp) (hb2 : 66200 ≤ b) (hb3 : b ≤ 700000) : spOK ns blk len b (spOnS ns blk len tp) := by
  refine ⟨spInv_cra hb2 ?_, spHal_cra⟩
  have hl := hd.len
  have hp := spPr_in hb 0
  have hg := spGrt_in hd (spTD_by (ns := ns) (len := len) hb) ns (Nat.le_refl _)
  have h2 := hd.1
  refine ⟨⟨hd, spTD_by hb, fun s k _ _ => ⟨Int.le_refl _, show (0 : Int) ≤ 1 by decide⟩⟩, ⟨fun e he => (by cases he), fun e => absurd rfl e, fun _ => rfl⟩, ⟨fun r hr => (by cases hr), Nat.le_refl _, Nat.zero_le _, Nat.zero_le _, hp.1, Int.le_refl _, ?_, hb3⟩, ⟨Nat.zero_le _, ⟨fun e he => (by cases he), List.nodup_nil⟩, Nat.zero_le _⟩, ⟨fun i _ => ⟨Int.le_refl _, show (-1 : Int) < 1000 by decide⟩, spTS_ti hb hi⟩, ⟨by omega, by omega, by unfold jI32; omega, by unfold jI32; omega, Int.le_refl _, by decide⟩, fun _ => 0, fun _ => Nat.zero_le _, Nat.zero_le _, Nat.zero_le _, fun i h => absurd rfl h⟩
  show spPr tp 0 + ((0 : Nat) : Int) ≤ b
  omega
theorem c_grt {h : jH} {od : Nat} {D C : Nat → Nat → Int} (hd : spDim ns blk len) (hy : spByD ns len D) (hc : CD h od ns blk len D C) : Di_greatestSerial h od = some (spGrt D ns) := by
  have hn4 := hd.2.1
  unfold Di_greatestSerial Di_greatestSerial_L4
  obtain ⟨⟨u, i⟩, ⟨e1, e2⟩, e3⟩ := jloop_k (f := fun s : (Int × Int) => Di_greatestSerial_B4 h od s.1 s.2) (fun i s => s.2 = (i : Int) ∧ s.1 = spGrt D i) ns (fun i s hi hp => by
    obtain ⟨x, y⟩ := s
    obtain ⟨p1, p2⟩ := hp
    dsimp only at p1 p2
    subst p1
    refine ⟨(spGrt D (i + 1), ((i + 1 : Nat) : Int)), ?_, rfl, rfl⟩
    show Di_greatestSerial_B4 h od x (i : Int) = some (Sum.inl ((if spHead (D i) = true then max (spGrt D i) (spSer (D i)) else spGrt D i), ((i + 1 : Nat) : Int)))
    unfold Di_greatestSerial_B4
    rw [hc.1, if_pos (by omega), c_head hd hc hy hi]
    simp only [Option.bind_some]
    rw [pw (x := (i : Int) + 1) (by omega) (by omega), p2]
    by_cases a : spHead (D i) = true
    · rw [if_pos a, if_neg (by decide), if_pos a, c_ser hd hc hy hi]
      rfl
    · rw [if_neg a, if_pos rfl, if_neg a]
      rfl) (k := 0) (s := ((0 : Int), (0 : Int))) (by omega) ⟨rfl, rfl⟩
  dsimp only at e1 e2
  rw [e3]
  subst e1
  refine jloop_r ?_
  show Di_greatestSerial_B4 h od u (ns : Int) = _
  unfold Di_greatestSerial_B4
  rw [hc.1, if_neg (by omega), e2]
  rfl
theorem c_onW {h g : jH} {tp : List Int} (hd : spDim ns blk len) (hb : spByt tp) (hL : CTb h o0 tp) (hlen : tp.length = 35 + ns * len) (hg : ∀ z, z ≠ o0 + 37 → z ≠ o0 + 38 → g z = h z) (hD : CD g (o0 + 36) ns blk len (fun _ _ => 0) (fun _ _ => 0)) : ∃ g', G_on_L104 T g o0 0 = Option.bind (St_recover (jup g' (o0 + 35) 13 (spGrt (spTD len tp) ns)) (o0 + 35) (o0 + 79)) (fun b20 => some (1, b20)) ∧ (∀ z, z ≠ o0 + 37 → z ≠ o0 + 38 → g' z = h z) ∧ CD g' (o0 + 36) ns blk len (spTD len tp) (fun _ _ => 0) := by
  have hl := hd.len
  have hns := hd.1
  have hbd := (hd.adr (s := 0) (k := 0) (by omega) (by omega)).2
  unfold G_on_L104
  obtain ⟨⟨i, g'⟩, ⟨w1, w2, w3⟩, w4⟩ := jloop_k (f := fun s : (Int × jH) => G_on_B104 T s.2 o0 s.1) (fun i s => s.1 = (i : Int) ∧ (∀ z, z ≠ o0 + 37 → z ≠ o0 + 38 → s.2 z = h z) ∧ CD s.2 (o0 + 36) ns blk len (fun a k => if a * len + k < i then spTD len tp a k else 0) (fun _ _ => 0)) (ns * len) (fun i s hi hp => by
    obtain ⟨x, g1⟩ := s
    obtain ⟨p1, p2, p3⟩ := hp
    dsimp only at p1 p2 p3
    subst p1
    obtain ⟨d1, d2, d3⟩ := sp_dm hi
    obtain ⟨g2, x1, x2, x3⟩ := c_write (a := (i : Int)) (v := tp.getD (34 + i) 0) hd p3 d1 d2 (by rw [d3])
    refine ⟨(((i + 1 : Nat) : Int), g2), ?_, rfl, fun z z1 z2 => by rw [← p2 z z1 z2]; exact x2 z z1 z2, x3.cong (fun a k ha hk => ?_) (fun a k ha hk => ?_)⟩
    · show G_on_B104 T g1 o0 (i : Int) = _
      have hLg : CTb g1 o0 tp := hL.eq (p2 _ (by omega) (by omega))
      unfold G_on_B104 Di_total
      rw [p3.1, p3.2.1, show (ns : Int) * (len : Int) = ((ns * len : Nat) : Int) by rw [Int.natCast_mul], pw (x := ((ns * len : Nat) : Int)) (by omega) (by omega)]
      simp only [Option.bind_some]
      have hl1 := hL.1
      rw [if_pos (by omega), pw (x := 34 + (i : Int)) (by omega) (by omega), show 34 + (i : Int) = ((34 + i : Nat) : Int) by omega, g_cellN (by omega), hLg.at (by omega)]
      simp only [Option.bind_some]
      rw [x1]
      simp only [Option.bind_some]
      rw [pw (x := (i : Int) + 1) (by omega) (by omega)]
      rfl
    · unfold up2
      by_cases e : a = i / len ∧ k = i % len
      · rw [if_pos e, e.1, e.2, d3, if_pos (by omega)]
        unfold spTD
        rw [d3]
      · rw [if_neg e]
        have hne : a * len + k ≠ i := fun h => e (sp_adr_inj hk d2 (by rw [h, d3]))
        show (if a * len + k < i then spTD len tp a k else 0) = _
        by_cases c : a * len + k < i
        · rw [if_pos c, if_pos (by omega)]
        · rw [if_neg c, if_neg (by omega)]
    · unfold up2
      split <;> rfl) (k := 0) (s := ((0 : Int), g)) (by omega) ⟨rfl, hg, hD.cong (fun a k _ _ => by rw [if_neg (by omega)]) (fun _ _ _ _ => rfl)⟩
  dsimp only at w1 w2 w3
  rw [w4]
  subst w1
  have w3' : CD g' (o0 + 36) ns blk len (spTD len tp) (fun _ _ => 0) := w3.cong (fun a k ha hk => by rw [if_pos (hd.adr ha hk).1]) (fun _ _ _ _ => rfl)
  refine ⟨g', jloop_x ?_, w2, w3'⟩
  show G_on_B104 T g' o0 ((ns * len : Nat) : Int) = _
  unfold G_on_B104 Di_total
  rw [w3'.1, w3'.2.1, show (ns : Int) * (len : Int) = ((ns * len : Nat) : Int) by rw [Int.natCast_mul], pw (x := ((ns * len : Nat) : Int)) (by omega) (by omega)]
  simp only [Option.bind_some]
  rw [if_neg (by omega), c_grt hd (spTD_by hb) w3']
  simp only [Option.bind_some]
theorem c_onS {h g : jH} {tp : List Int} (hb : spByt tp) (hL : CTb h o0 tp) (hn : 35 ≤ tp.length) (hg : ∀ z, z ≠ o0 + 54 → g z = h z) : ∃ g', G_on_L57 T g o0 0 = G_on_L104 T g' o0 0 ∧ (∀ z, z ≠ o0 + 54 → g' z = h z) ∧ ∀ j, j < 16 → g' (o0 + 54) j = spTS tp j := by
  unfold G_on_L57
  obtain ⟨⟨i, g'⟩, ⟨w1, w2, w3⟩, w4⟩ := jloop_k (f := fun s : (Int × jH) => G_on_B57 T s.2 o0 s.1) (fun i s => s.1 = (i : Int) ∧ (∀ z, z ≠ o0 + 54 → s.2 z = h z) ∧ ∀ j, j < i → s.2 (o0 + 54) j = spTS tp j) 16 (fun i s hi hp => by
    obtain ⟨x, g1⟩ := s
    obtain ⟨p1, p2, p3⟩ := hp
    dsimp only at p1 p2 p3
    subst p1
    refine ⟨(((i + 1 : Nat) : Int), jup g1 (o0 + 54) i (spTS tp i)), ?_, rfl, fun z hz => by rw [← p2 z hz]; exact jup_ne hz, fun j hj => ?_⟩
    · show G_on_B57 T g1 o0 (i : Int) = _
      unfold G_on_B57 G_on_p93
      rw [if_pos (by omega), pw (x := 2 * (i : Int)) (by omega) (by omega), pw (x := 2 + 2 * (i : Int)) (by omega) (by omega), show 2 + 2 * (i : Int) = ((2 + 2 * i : Nat) : Int) by omega, c_tpair hb (hL.eq (p2 _ (by omega))) (by omega), pw (x := (i : Int) + 1) (by omega) (by omega)]
      simp only [Option.bind_some]
      unfold spTS
      by_cases a : spPr tp (2 + 2 * i) = 65535
      · rw [if_pos a, if_pos a, g_putN hi]; rfl
      · rw [if_neg a, if_neg a, g_putN hi]; rfl
    · show jup g1 (o0 + 54) i (spTS tp i) (o0 + 54) j = _
      rw [ju_if]
      by_cases e : j = i
      · rw [if_pos e, e]
      · rw [if_neg e]; exact p3 j (by omega)) (k := 0) (s := ((0 : Int), g)) (by decide) ⟨rfl, hg, fun j hj => absurd hj (by omega)⟩
  dsimp only at w1 w2 w3
  rw [w4]
  subst w1
  refine ⟨g', jloop_x ?_, w2, w3⟩
  show G_on_B57 T g' o0 ((16 : Nat) : Int) = _
  unfold G_on_B57
  rw [if_neg (by decide)]
theorem RC.on_yes {h : jH} {tp : List Int} {bm : Nat} (hd : spDim ns blk len) (hb : spByt tp) (hL : CTa h o0 tp) (hs : spImg ns len tp) (r : RC T h o0 pl ns blk len p B X) (hp1 : h pl 1 = (bm : Int)) (hp2 : h pl 2 = (blk : Int)) (hbm : bm * blk = len) : ∃ h', G_on T h o0 = some (1, h') ∧ (∀ z, z ≠ o0 → (z < o0 + 35 ∨ o0 + 82 < z) → h' z = h z) ∧ (∀ f, f ≠ 1 → f ≠ 13 → h' o0 f = h o0 f) ∧ RC T h' o0 pl ns blk len p B (spOnS ns blk len tp, [], X.2.2) ∧ CTa h' o0 [] := by
  have hl := hd.len
  unfold G_on G_takeTape
  simp only [Option.bind_some]
  obtain ⟨h1, hh1⟩ : ∃ h1 : jH, h1 = jup h o0 1 0 := ⟨_, rfl⟩
  rw [← hh1]
  have f1 : TAf o0 h h1 := ⟨fun z z1 _ => by rw [hh1, jup_ne z1], fun f hf => by rw [hh1, ju_ne hf]⟩
  have r1 : RC T h1 o0 pl ns blk len p B X := r.off (fun z hz => f1.1 z (by omega) (by omega)) (fun f hf => f1.2 f (by omega))
  have hLb : CTb h1 o0 tp := hL.b.eq (by rw [hh1, jup_ne (by omega)])
  obtain ⟨⟨r1a, r2, r3, r4, r5, r6, r7⟩, c, n, q1, q2, q3, q4, q5, q6, q7⟩ := r
  have hD1 : CD h1 (o0 + 36) ns blk len X.1.1.1 X.1.1.2 := (q5.eq (h' := h1) (fun z z1 z2 => f1.1 z (by omega) (by omega))).que.2.2.2.2.2.2.1
  rw [r1.told hd, hL.1]
  simp only [Option.bind_some]
  rw [if_neg (by decide), (c_isImg hd hb hLb hD1).1 hs]
  simp only [Option.bind_some]
  rw [if_neg (by decide)]
  obtain ⟨h2, hh2⟩ : ∃ h2 : jH, h2 = jup h1 o0 13 0 := ⟨_, rfl⟩
  rw [← hh2]
  have o2 : ∀ z, z ≠ o0 → h2 z = h z := fun z hz => by rw [hh2, jup_ne hz, hh1, jup_ne hz]
  have f2 : ∀ f, f ≠ 1 → f ≠ 13 → h2 o0 f = h o0 f := fun f x1 x2 => by rw [hh2, ju_ne x2, hh1, ju_ne x1]
  rw [f2 8 (by decide) (by decide), r4, jdyn_at r2]
  simp only [Option.bind_some]
  obtain ⟨h3, a1, a2, a3, a4, a5, a6, a7, a8, a9, a10, a11, a12, a13, a14, a15, a16, a17, a18, a19, a20⟩ := c_blank (h := h2) (o := o0 + 35) (pl := pl) (ns := ns) (blk := blk) (len := len) (bm := bm) (by omega) (by rw [o2 _ (by omega)]; exact r5) (by rw [o2 _ (by omega)]; exact hp1) (by rw [o2 _ (by omega)]; exact hp2) hbm (by omega) (fun s k hs hk => by have := hd.adr hs hk; omega)
  rw [a1]
  simp only [Option.bind_some]
  have hLb3 : CTb h3 o0 tp := hLb.eq (by rw [a2 _ (by omega), hh2, jup_ne (by omega)])
  have htl := hs.1
  rw [show G_tapePair h3 o0 0 = _ from c_tpair (k := 0) hb hLb3 (by omega)]
  simp only [Option.bind_some]
  obtain ⟨h4, hh4⟩ : ∃ h4 : jH, h4 = jup h3 (o0 + 35) 7 (spPr tp 0) := ⟨_, rfl⟩
  rw [← hh4]
  have o4 : ∀ z, z ≠ o0 + 35 → h4 z = h3 z := fun z hz => by rw [hh4, jup_ne hz]
  obtain ⟨h5, b1, b2, b3⟩ := c_onS (T := T) (h := h4) (g := h4) hb (hLb3.eq (o4 _ (by omega))) (by omega) (fun _ _ => rfl)
  rw [b1]
  obtain ⟨h6, d1, d2, d3⟩ := c_onW (T := T) (h := h5) (g := h5) hd hb (hLb3.eq (by rw [b2 _ (by omega), o4 _ (by omega)])) htl (fun _ _ _ => rfl) (a5.fr (by rw [b2 _ (by omega), o4 _ (by omega)]) (by rw [b2 _ (by omega), o4 _ (by omega)]) (by rw [b2 _ (by omega), o4 _ (by omega)]))
  rw [d1]
  obtain ⟨h7, hh7⟩ : ∃ h7 : jH, h7 = jup h6 (o0 + 35) 13 (spGrt (spTD len tp) ns) := ⟨_, rfl⟩
  rw [← hh7]
  have k7 : ∀ z, z ≠ o0 + 35 → z ≠ o0 + 37 → z ≠ o0 + 38 → z ≠ o0 + 54 → h7 z = h3 z := fun z z1 z2 z3 z4 => by rw [hh7, jup_ne z1, d2 z z2 z3, b2 z z4, o4 z z1]
  have j7 : ∀ f, f ≠ 7 → f ≠ 13 → h7 (o0 + 35) f = h3 (o0 + 35) f := fun f x1 x2 => by rw [hh7, ju_ne x2, d2 _ (by omega) (by omega), b2 _ (by omega), hh4, ju_ne x1]
  have hsp := spPr_in hb 0
  obtain ⟨h8, e1, e2, e3, e4⟩ := c_recover (h2 := h7) (o := o0 + 35) (rc := o0 + 79) (n := 0) (kp := []) (snap := spPr tp 0) (gr := spGrt (spTD len tp) ns) (tk := 0) (stab := spTS tp) hd (spTD_by hb) (by omega) (d3.fr (by rw [hh7, jup_ne (by omega)]) (by rw [hh7, jup_ne (by omega)]) (by rw [hh7, jup_ne (by omega)])) (by rw [hh7, ju_ne (by decide), d2 _ (by omega) (by omega), b2 _ (by omega), hh4, ju_eq]) (fun j hj => by rw [hh7, jup_ne (by omega), d2 _ (by omega) (by omega)]; exact b3 j hj) hsp.1 (by omega) (spTS_ti hb hs) (by rw [k7 _ (by omega) (by omega) (by omega) (by omega)]; exact a6) (by rw [k7 _ (by omega) (by omega) (by omega) (by omega)]; exact a7) (by rw [k7 _ (by omega) (by omega) (by omega) (by omega)]; exact a11) ⟨by rw [k7 _ (by omega) (by omega) (by omega) (by omega)]; exact a12.1, by decide, rfl, fun k e he => by cases he⟩ (by rw [hh7, ju_eq]) (by rw [j7 _ (by decide) (by decide)]; exact a17)
  rw [e1]
  have ez : ∀ z, z ≠ o0 → (z < o0 + 35 ∨ o0 + 82 < z) → h8 z = h z := fun z z1 z2 => by rw [e2 z (by omega) (by omega), k7 z (by omega) (by omega) (by omega) (by omega), a2 z (by omega), o2 z z1]
  have ef : ∀ f, f ≠ 1 → f ≠ 13 → h8 o0 f = h o0 f := fun f x1 x2 => by rw [e2 o0 (by omega) (by omega), k7 o0 (by omega) (by omega) (by omega) (by omega), a2 o0 (by omega), f2 f x1 x2]
  have g13 : h8 o0 13 = 0 := by rw [e2 o0 (by omega) (by omega), k7 o0 (by omega) (by omega) (by omega) (by omega), a2 o0 (by omega), hh2, ju_eq]
  have g1 : h8 o0 1 = 0 := by rw [e2 o0 (by omega) (by omega), k7 o0 (by omega) (by omega) (by omega) (by omega), a2 o0 (by omega), hh2, ju_ne (by decide), hh1, ju_eq]
  refine ⟨h8, rfl, ez, ef, ⟨⟨r1a, r2, r3, by rw [ef 8 (by decide) (by decide)]; exact r4, by rw [ez _ (by omega) (by omega)]; exact r5, CPl.eq r6 (fun z z1 z2 => ez z (by omega) (by omega)), fun i hi => by rw [ez _ (by omega) (by omega)]; exact r7 i hi⟩, c, 0, by rw [ef 14 (by decide) (by decide)]; exact q1, q2, g13, ⟨Nat.zero_le _, fun j x hx => by cases hx⟩, ?_, Nat.zero_le _, by rw [e3, j7 0 (by decide) (by decide)]; exact a3⟩, CTa.nil g1⟩
  show CS h8 (o0 + 35) ns blk len 0 (spOnS ns blk len tp)
  rw [spOnS_rest]
  exact e4
theorem RC.on_no {h : jH} {tp : List Int} (hd : spDim ns blk len) (hb : spByt tp) (hL : CTa h o0 tp) (hs : ¬ spImg ns len tp) (r : RC T h o0 pl ns blk len p B X) : ∃ h', G_on T h o0 = some (0, h') ∧ RCf o0 pl (jup h o0 1 0) h' ∧ RC T h' o0 pl ns blk len p B (spRfu 6 X) ∧ CTa h' o0 [] := by
  unfold G_on G_takeTape
  simp only [Option.bind_some]
  obtain ⟨h1, hh1⟩ : ∃ h1 : jH, h1 = jup h o0 1 0 := ⟨_, rfl⟩
  rw [← hh1]
  have f1 : TAf o0 h h1 := ⟨fun z z1 _ => by rw [hh1, jup_ne z1], fun f hf => by rw [hh1, ju_ne hf]⟩
  have r1 : RC T h1 o0 pl ns blk len p B X := r.off (fun z hz => f1.1 z (by omega) (by omega)) (fun f hf => f1.2 f (by omega))
  have hLb : CTb h1 o0 tp := hL.b.eq (by rw [hh1, jup_ne (by omega)])
  have hD1 : CD h1 (o0 + 36) ns blk len X.1.1.1 X.1.1.2 := r1.2.elim (fun c hc => hc.elim (fun n hn => hn.2.2.2.2.1.que.2.2.2.2.2.2.1))
  rw [r1.told hd, hL.1]
  simp only [Option.bind_some]
  rw [if_neg (by decide), (c_isImg hd hb hLb hD1).2 hs]
  simp only [Option.bind_some]
  rw [if_pos True.intro]
  unfold G_on_p20
  obtain ⟨g, e1, e2, e3⟩ := r1.deny (k := 6) (by decide)
  rw [show G_deny h1 o0 6 = _ from e1]
  simp only [Option.bind_some]
  rw [if_pos (Or.inl True.intro)]
  exact ⟨g, rfl, e2, e3, CTa.nil (by rw [e2.2 1 (by decide) (by decide), hh1, ju_eq])⟩
end OND
