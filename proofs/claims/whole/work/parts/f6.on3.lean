/-! an image taken on: the reference -/
section ONM
variable {ns blk len : Nat} {p : spPl} {X : spX} {b : Int}
theorem MD.cong {h : jH} {o : Nat} {D C D' C' : Nat → Nat → Int} (hc : MD h o ns blk len D C) (e1 : ∀ s k, s < ns → k < len → D s k = D' s k) (e2 : ∀ s k, s < ns → k < len → C s k = C' s k) : MD h o ns blk len D' C' := ⟨hc.1, hc.2.1, hc.2.2.1, fun s k hs hk => (hc.2.2.2.1 s k hs hk).trans (e1 s k hs hk), fun s k hs hk => (hc.2.2.2.2.1 s k hs hk).trans (e2 s k hs hk), hc.2.2.2.2.2⟩
theorem m_ckTp {h : jH} {o n : Nat} {tp : List Int} (hb : spByt tp) (hL : CTb h o tp) (hn : n ≤ tp.length) : M_checked h (o + 1) 1600 (n : Int) = some (spCk (tp.take n) 139) := by
  have hl := hL.1
  unfold M_checked M_checked_L6
  have hlt : (tp.take n).length = n := by rw [List.length_take]; omega
  obtain ⟨⟨u, i⟩, ⟨e1, e2, e4⟩, e3⟩ := jloop_k (f := fun s : (Int × Int) => M_checked_B6 h (o + 1) 1600 (n : Int) s.1 s.2) (fun i s => s.2 = (i : Int) ∧ spCk ((tp.take n).drop i) s.1 = spCk (tp.take n) 139 ∧ 0 ≤ s.1 ∧ s.1 < 251) n (fun i s hi hp => by
    obtain ⟨x, y⟩ := s
    obtain ⟨p1, p2, p3, p4⟩ := hp
    dsimp only at p1 p2 p3 p4
    subst p1
    have hb0 := hb.at i
    have hi2 : i < (tp.take n).length := by omega
    have hv : (tp.take n)[i] = tp.getD i 0 := by
      rw [List.getElem_take, List.getD_eq_getElem?_getD, List.getElem?_eq_getElem (by omega), Option.getD_some]
    rw [List.drop_eq_getElem_cons hi2, hv] at p2
    refine ⟨((3 * x + tp.getD i 0) % 251, ((i + 1 : Nat) : Int)), ?_, rfl, p2, by show 0 ≤ (3 * x + tp.getD i 0) % 251; omega, by show (3 * x + tp.getD i 0) % 251 < 251; omega⟩
    show M_checked_B6 h (o + 1) 1600 (n : Int) x (i : Int) = _
    unfold M_checked_B6
    rw [if_pos (by omega), if_pos (by omega), Int.toNat_natCast, hL.at (by omega), pw (x := 3 * x) (by omega) (by omega), pw (x := 3 * x + tp.getD i 0) (by omega) (by omega), Int.tmod_eq_emod_of_nonneg (by omega), pw (x := (i : Int) + 1) (by omega) (by omega)]
    rfl) (k := 0) (s := ((139 : Int), (0 : Int))) (by omega) ⟨rfl, rfl, by decide, by decide⟩
  dsimp only at e1 e2 e4
  rw [e3]
  subst e1
  refine jloop_r ?_
  show M_checked_B6 h (o + 1) 1600 (n : Int) u (n : Int) = _
  unfold M_checked_B6
  rw [if_neg (by omega), ← e2, List.drop_of_length_le (by omega)]
  rfl
theorem m_imgB {h : jH} {o i : Nat} {tp : List Int} (hb : spByt tp) (hL : CTb h o tp) (hn : 35 ≤ tp.length) (hi : i < 16) : M_isImage_B48 h o (i : Int) = if spPr tp (2 + 2 * i) < 1000 ∨ spPr tp (2 + 2 * i) = 65535 then some (.inl ((i + 1 : Nat) : Int)) else some (.inr 0) := by
  unfold M_isImage_B48
  rw [if_pos (by omega), pw (x := 2 * (i : Int)) (by omega) (by omega), pw (x := 2 + 2 * (i : Int)) (by omega) (by omega), show 2 + 2 * (i : Int) = ((2 + 2 * i : Nat) : Int) by omega, m_tpair hb hL (by omega), pw (x := (i : Int) + 1) (by omega) (by omega)]
  simp only [Option.bind_some]
  by_cases a1 : spPr tp (2 + 2 * i) < 1000
  · rw [if_neg (by omega), if_pos (Or.inl a1)]; rfl
  rw [if_pos (by omega)]
  by_cases a2 : spPr tp (2 + 2 * i) = 65535
  · rw [if_pos a2, if_pos (Or.inr a2)]; rfl
  · rw [if_neg a2, if_neg (by omega)]; rfl
theorem m_isImg {h : jH} {o : Nat} {tp : List Int} {D C : Nat → Nat → Int} (hd : spDim ns blk len) (hb : spByt tp) (hL : CTb h o tp) (h43 : h o 43 ≠ 0) (hD : MD h o ns blk len D C) : (spImg ns len tp → M_isImage h o (tp.length : Int) = some 1) ∧ (¬ spImg ns len tp → M_isImage h o (tp.length : Int) = some 0) := by
  have hl := hd.len
  have hns := hd.1
  have hbd := (hd.adr (s := 0) (k := 0) (by omega) (by omega)).2
  have hl1 := hL.1
  unfold M_isImage
  rw [if_neg h43, m_seg hD, m_len hD hd]
  simp only [Option.bind_some]
  rw [show (ns : Int) * (len : Int) = ((ns * len : Nat) : Int) by rw [Int.natCast_mul], pw (x := ((ns * len : Nat) : Int)) (by omega) (by omega), pw (x := 35 + ((ns * len : Nat) : Int)) (by omega) (by omega)]
  by_cases a0 : tp.length = 35 + ns * len
  rotate_left
  · exact ⟨fun h => absurd h.1 a0, fun _ => by rw [if_neg (by omega)]⟩
  rw [if_pos (by omega), pw (x := (tp.length : Int) - 1) (by omega) (by omega), if_pos (by omega), show (tp.length : Int) - 1 = ((tp.length - 1 : Nat) : Int) by omega, Int.toNat_natCast, m_ckTp hb hL (by omega), hL.at (by omega)]
  simp only [Option.bind_some]
  have key : ∀ m i, i + m = 16 → ((∀ j, i ≤ j → j < 16 → spPr tp (2 + 2 * j) < 1000 ∨ spPr tp (2 + 2 * j) = 65535) → M_isImage_L48 h o (i : Int) = some 1) ∧ ((¬ ∀ j, i ≤ j → j < 16 → spPr tp (2 + 2 * j) < 1000 ∨ spPr tp (2 + 2 * j) = 65535) → M_isImage_L48 h o (i : Int) = some 0) := by
    unfold M_isImage_L48
    intro m
    induction m with
    | zero =>
      intro i hi
      refine ⟨fun _ => jloop_r ?_, fun hn => absurd (fun j h1 h2 => by omega) hn⟩
      unfold M_isImage_B48
      rw [if_neg (by omega)]
      rfl
    | succ m ih =>
      intro i hi
      obtain ⟨k1, k2⟩ := ih (i + 1) (by omega)
      refine ⟨fun hall => (jloop_l (s' := ((i + 1 : Nat) : Int)) (by rw [m_imgB hb hL (by omega) (by omega), if_pos (hall i (Nat.le_refl _) (by omega))])).trans (k1 (fun j h1 h2 => hall j (by omega) h2)), fun hn => ?_⟩
      by_cases c : spPr tp (2 + 2 * i) < 1000 ∨ spPr tp (2 + 2 * i) = 65535
      · refine (jloop_l (s' := ((i + 1 : Nat) : Int)) (by rw [m_imgB hb hL (by omega) (by omega), if_pos c])).trans (k2 (fun hall => hn (fun j h1 h2 => ?_)))
        rcases Nat.eq_or_lt_of_le h1 with e | e
        · rw [← e]; exact c
        · exact hall j e h2
      · exact jloop_r (by rw [m_imgB hb hL (by omega) (by omega), if_neg c])
  obtain ⟨k1, k2⟩ := key 16 0 (by omega)
  refine ⟨fun hs => ?_, fun hs => ?_⟩
  · rw [if_pos hs.2.1]; exact k1 (fun j _ h2 => hs.2.2 j h2)
  · by_cases e : tp.getD (tp.length - 1) 0 = spCk (tp.take (tp.length - 1)) 139
    · rw [if_pos e]
      exact k2 (fun hall => hs ⟨a0, e, fun i hi => hall i (Nat.zero_le _) hi⟩)
    · rw [if_neg e]
theorem m_on27 {h g : jH} {o : Nat} {tp : List Int} (hb : spByt tp) (hL : CTb h o tp) (hn : 35 ≤ tp.length) (hg : ∀ z, z ≠ o + 33 → g z = h z) : ∃ g', M_on_L27 g o 0 = M_on_L60 g' o 0 ∧ (∀ z, z ≠ o + 33 → g' z = h z) ∧ (∀ i, i < 16 → g' (o + 33) i = if i = 9 then spPr tp 0 else 0) ∧ ∀ i, 16 ≤ i → g' (o + 33) i = g (o + 33) i := by
  unfold M_on_L27
  obtain ⟨⟨i, g1⟩, ⟨w1, w2, w3, w5⟩, w4⟩ := jloop_k (f := fun s : (Int × jH) => M_on_B27 s.2 o s.1) (fun i s => s.1 = (i : Int) ∧ (∀ z, z ≠ o + 33 → s.2 z = h z) ∧ (∀ j, j < i → s.2 (o + 33) j = 0) ∧ ∀ j, 16 ≤ j → s.2 (o + 33) j = g (o + 33) j) 16 (fun i s hi hp => by
    obtain ⟨x, g1⟩ := s
    obtain ⟨p1, p2, p3, p4⟩ := hp
    dsimp only at p1 p2 p3 p4
    subst p1
    refine ⟨(((i + 1 : Nat) : Int), jup g1 (o + 33) i 0), ?_, rfl, fun z hz => by rw [← p2 z hz]; exact jup_ne hz, fun j hj => ?_, fun j hj => by rw [← p4 j hj]; exact ju_ne (by omega)⟩
    · show M_on_B27 g1 o (i : Int) = _
      unfold M_on_B27
      rw [if_pos (by omega), if_pos (by omega), Int.toNat_natCast, pw (by omega) (by omega)]
      rfl
    · show jup g1 (o + 33) i 0 (o + 33) j = 0
      rw [ju_if]
      by_cases e : j = i
      · rw [if_pos e]
      · rw [if_neg e]; exact p3 j (by omega)) (k := 0) (s := ((0 : Int), g)) (by decide) ⟨rfl, hg, fun j hj => absurd hj (by omega), fun _ _ => rfl⟩
  dsimp only at w1 w2 w3 w5
  rw [w4]
  subst w1
  refine ⟨jup g1 (o + 33) 9 (spPr tp 0), jloop_x ?_, fun z hz => by rw [jup_ne hz, w2 z hz], fun i hi => ?_, fun i hi => by rw [ju_ne (by omega), w5 i hi]⟩
  · show M_on_B27 g1 o ((16 : Nat) : Int) = _
    unfold M_on_B27
    rw [if_neg (by decide), show M_twoAt g1 o 0 = _ from m_tpair (k := 0) hb (hL.eq (w2 _ (by omega))) (by omega)]
    simp only [Option.bind_some]
    rw [if_pos (by decide)]
    rfl
  · rw [ju_if]
    by_cases e : i = 9
    · rw [if_pos e, if_pos e]
    · rw [if_neg e, if_neg e]; exact w3 i hi
theorem m_on60 {h g : jH} {o : Nat} {tp : List Int} (hb : spByt tp) (hL : CTb h o tp) (hn : 35 ≤ tp.length) (hg : ∀ z, z ≠ o + 33 → g z = h z) : ∃ g', M_on_L60 g o 0 = M_on_L112 g' o 0 ∧ (∀ z, z ≠ o + 33 → g' z = h z) ∧ (∀ i, i < 16 → g' (o + 33) (160 + i) = spTS tp i) ∧ ∀ i, ¬ (160 ≤ i ∧ i < 176) → g' (o + 33) i = g (o + 33) i := by
  unfold M_on_L60
  obtain ⟨⟨i, g1⟩, ⟨w1, w2, w3, w5⟩, w4⟩ := jloop_k (f := fun s : (Int × jH) => M_on_B60 s.2 o s.1) (fun i s => s.1 = (i : Int) ∧ (∀ z, z ≠ o + 33 → s.2 z = h z) ∧ (∀ j, j < i → s.2 (o + 33) (160 + j) = spTS tp j) ∧ ∀ j, ¬ (160 ≤ j ∧ j < 176) → s.2 (o + 33) j = g (o + 33) j) 16 (fun i s hi hp => by
    obtain ⟨x, g1⟩ := s
    obtain ⟨p1, p2, p3, p4⟩ := hp
    dsimp only at p1 p2 p3 p4
    subst p1
    refine ⟨(((i + 1 : Nat) : Int), jup g1 (o + 33) (160 + i) (spTS tp i)), ?_, rfl, fun z hz => by rw [← p2 z hz]; exact jup_ne hz, fun j hj => ?_, fun j hj => by rw [← p4 j hj]; exact ju_ne (by omega)⟩
    · show M_on_B60 g1 o (i : Int) = _
      unfold M_on_B60
      rw [if_pos (by omega), pw (x := 2 * (i : Int)) (by omega) (by omega), pw (x := 2 + 2 * (i : Int)) (by omega) (by omega), show 2 + 2 * (i : Int) = ((2 + 2 * i : Nat) : Int) by omega, m_tpair hb (hL.eq (p2 _ (by omega))) (by omega), pw (x := (i : Int) + 1) (by omega) (by omega), pw (x := 160 + (i : Int)) (by omega) (by omega), show (160 + (i : Int)).toNat = 160 + i by omega]
      simp only [Option.bind_some]
      unfold spTS
      by_cases a : spPr tp (2 + 2 * i) = 65535
      · rw [if_pos a, if_pos (by omega), if_pos a]
        rfl
      · rw [if_neg a, if_pos (by omega), if_neg a]
        rfl
    · show jup g1 (o + 33) (160 + i) (spTS tp i) (o + 33) (160 + j) = _
      rw [ju_if]
      by_cases e : j = i
      · rw [if_pos (by omega), e]
      · rw [if_neg (by omega)]; exact p3 j (by omega)) (k := 0) (s := ((0 : Int), g)) (by decide) ⟨rfl, hg, fun j hj => absurd hj (by omega), fun _ _ => rfl⟩
  dsimp only at w1 w2 w3 w5
  rw [w4]
  subst w1
  refine ⟨g1, jloop_x ?_, w2, w3, w5⟩
  show M_on_B60 g1 o ((16 : Nat) : Int) = _
  unfold M_on_B60
  rw [if_neg (by decide)]
theorem m_on122 {h g : jH} {o s : Nat} {tp : List Int} {D C : Nat → Nat → Int} (hd : spDim ns blk len) (hL : CTb h o tp) (hlen : tp.length = 35 + ns * len) (hs : s < ns) (hg : ∀ z, z ≠ o + 33 → g z = h z) (hD : MD g o ns blk len (fun a k => if a * len + k < s * len then spTD len tp a k else D a k) (fun a k => if a * len + k < s * len then 0 else C a k)) : ∃ g', M_on_L122 g o (s : Int) 0 = some (.inl (((s + 1 : Nat) : Int), g')) ∧ (∀ z, z ≠ o + 33 → g' z = h z) ∧ (∀ i, (i < 196 ∨ 1220 ≤ i) → g' (o + 33) i = g (o + 33) i) ∧ MD g' o ns blk len (fun a k => if a * len + k < (s + 1) * len then spTD len tp a k else D a k) (fun a k => if a * len + k < (s + 1) * len then 0 else C a k) := by
  have hl := hd.len
  have hn4 := hd.2.1
  unfold M_on_L122
  obtain ⟨⟨i, g'⟩, ⟨w1, w2, w3, w5⟩, w4⟩ := jloop_k (f := fun s' : (Int × jH) => M_on_B122 s'.2 o (s : Int) s'.1) (fun i s' => s'.1 = (i : Int) ∧ (∀ z, z ≠ o + 33 → s'.2 z = h z) ∧ MD s'.2 o ns blk len (fun a k => if a * len + k < s * len + i then spTD len tp a k else D a k) (fun a k => if a * len + k < s * len + i then 0 else C a k) ∧ ∀ i, (i < 196 ∨ 1220 ≤ i) → s'.2 (o + 33) i = g (o + 33) i) len (fun i s' hi hp => by
    obtain ⟨x, g1⟩ := s'
    obtain ⟨p1, p2, p3, p4⟩ := hp
    dsimp only at p1 p2 p3 p4
    subst p1
    have hadr := hd.adr hs hi
    have hl1 := hL.1
    obtain ⟨g2, x1, x2, x3⟩ := m_lands (v := tp.getD (34 + (s * len + i)) 0) hd p3 hs hi
    refine ⟨(((i + 1 : Nat) : Int), g2), ?_, rfl, fun z hz => by rw [← p2 z hz]; exact x2.1 z hz, x3.cong (fun a k ha hk => ?_) (fun a k ha hk => ?_), fun j hj => by rw [← p4 j hj]; exact x2.2 j hj⟩
    · show M_on_B122 g1 o (s : Int) (i : Int) = _
      unfold M_on_B122
      rw [m_len p3 hd]
      simp only [Option.bind_some]
      rw [if_pos (by omega)]
      have hmul : (len : Int) * (s : Int) = ((s * len : Nat) : Int) := by rw [Int.mul_comm, Int.natCast_mul]
      rw [hmul, pw (x := ((s * len : Nat) : Int)) (by omega) (by omega), pw (x := 34 + ((s * len : Nat) : Int)) (by omega) (by omega), pw (x := 34 + ((s * len : Nat) : Int) + (i : Int)) (by omega) (by omega), if_pos (by omega), show (34 + ((s * len : Nat) : Int) + (i : Int)).toNat = 34 + (s * len + i) by omega, (hL.eq (p2 _ (by omega))).at (by omega), pw (x := 128 * (s : Int)) (by omega) (by omega), pw (x := 128 * (s : Int) + (i : Int)) (by omega) (by omega), show 128 * (s : Int) + (i : Int) = ((128 * s + i : Nat) : Int) by omega, x1]
      simp only [Option.bind_some]
      rw [pw (x := (i : Int) + 1) (by omega) (by omega)]
      rfl
    · unfold up2
      by_cases e : a = s ∧ k = i
      · rw [if_pos e, e.1, e.2, if_pos (by omega)]
        rfl
      · rw [if_neg e]
        have hne : a * len + k ≠ s * len + i := fun h => e (sp_adr_inj hk hi h)
        show (if a * len + k < s * len + i then spTD len tp a k else D a k) = _
        by_cases c : a * len + k < s * len + i
        · rw [if_pos c, if_pos (by omega)]
        · rw [if_neg c, if_neg (by omega)]
    · unfold up2
      by_cases e : a = s ∧ k = i
      · rw [if_pos e, e.1, e.2, if_pos (by omega)]
      · rw [if_neg e]
        have hne : a * len + k ≠ s * len + i := fun h => e (sp_adr_inj hk hi h)
        show (if a * len + k < s * len + i then 0 else C a k) = _
        by_cases c : a * len + k < s * len + i
        · rw [if_pos c, if_pos (by omega)]
        · rw [if_neg c, if_neg (by omega)]) (k := 0) (s := ((0 : Int), g)) (by omega) ⟨rfl, hg, hD, fun _ _ => rfl⟩
  dsimp only at w1 w2 w3 w5
  rw [w4]
  subst w1
  refine ⟨g', jloop_r ?_, w2, w5, by rw [Nat.succ_mul]; exact w3⟩
  show M_on_B122 g' o (s : Int) (len : Int) = _
  unfold M_on_B122
  rw [m_len w3 hd]
  simp only [Option.bind_some]
  rw [if_neg (by omega), pw (x := (s : Int) + 1) (by omega) (by omega)]
  rfl
theorem m_on112 {h g : jH} {o : Nat} {tp : List Int} {D C : Nat → Nat → Int} (hd : spDim ns blk len) (hL : CTb h o tp) (hlen : tp.length = 35 + ns * len) (hg : ∀ z, z ≠ o + 33 → g z = h z) (hD : MD g o ns blk len D C) : ∃ g', M_on_L112 g o 0 = M_on_L171 g' o 0 ∧ (∀ z, z ≠ o + 33 → g' z = h z) ∧ (∀ i, (i < 196 ∨ 1220 ≤ i) → g' (o + 33) i = g (o + 33) i) ∧ MD g' o ns blk len (spTD len tp) (fun _ _ => 0) := by
  unfold M_on_L112
  obtain ⟨⟨i, g'⟩, ⟨w1, w2, w3, w5⟩, w4⟩ := jloop_k (f := fun s' : (Int × jH) => M_on_B112 s'.2 o s'.1) (fun i s' => s'.1 = (i : Int) ∧ (∀ z, z ≠ o + 33 → s'.2 z = h z) ∧ MD s'.2 o ns blk len (fun a k => if a * len + k < i * len then spTD len tp a k else D a k) (fun a k => if a * len + k < i * len then 0 else C a k) ∧ ∀ i, (i < 196 ∨ 1220 ≤ i) → s'.2 (o + 33) i = g (o + 33) i) ns (fun i s' hi hp => by
    obtain ⟨x, g1⟩ := s'
    obtain ⟨p1, p2, p3, p4⟩ := hp
    dsimp only at p1 p2 p3 p4
    subst p1
    obtain ⟨g2, x1, x2, x3, x4⟩ := m_on122 hd hL hlen hi p2 p3
    refine ⟨(((i + 1 : Nat) : Int), g2), ?_, rfl, x2, x4, fun j hj => by rw [← p4 j hj]; exact x3 j hj⟩
    show M_on_B112 g1 o (i : Int) = _
    unfold M_on_B112
    rw [m_seg p3]
    simp only [Option.bind_some]
    rw [if_pos (by omega), x1]) (k := 0) (s := ((0 : Int), g)) (by omega) ⟨rfl, hg, hD.cong (fun a k _ _ => by rw [if_neg (by omega)]) (fun a k _ _ => by rw [if_neg (by omega)]), fun _ _ => rfl⟩
  dsimp only at w1 w2 w3 w5
  rw [w4]
  subst w1
  refine ⟨g', jloop_x ?_, w2, w5, w3.cong (fun a k ha hk => by rw [if_pos (hd.adr ha hk).1]) (fun a k ha hk => by rw [if_pos (hd.adr ha hk).1])⟩
  show M_on_B112 g' o (ns : Int) = _
  unfold M_on_B112
  rw [m_seg w3]
  simp only [Option.bind_some]
  rw [if_neg (by omega)]
theorem m_on171 {h g : jH} {o : Nat} {D C : Nat → Nat → Int} (hd : spDim ns blk len) (hy : spByD ns len D) (hg : ∀ z, z ≠ o + 33 → g z = h z) (hD : MD g o ns blk len D C) (h8 : g (o + 33) 8 = 0) : ∃ g', M_on_L171 g o 0 = Option.bind (M_recovering g' o) (fun b31 => (if (0 : Int) ≤ 2244 ∧ (2244 : Int).toNat < 2365 then some (1, (jup (jup b31 (o + 33) (2244 : Int).toNat 0) o 73 0)) else none)) ∧ (∀ z, z ≠ o + 33 → g' z = h z) ∧ (∀ i, i ≠ 8 → g' (o + 33) i = g (o + 33) i) ∧ g' (o + 33) 8 = spGrt D ns := by
  have hn4 := hd.2.1
  unfold M_on_L171
  obtain ⟨⟨i, g'⟩, ⟨w1, w2, w3, w5⟩, w4⟩ := jloop_k (f := fun s' : (Int × jH) => M_on_B171 s'.2 o s'.1) (fun i s' => s'.1 = (i : Int) ∧ (∀ z, z ≠ o + 33 → s'.2 z = h z) ∧ (∀ j, j ≠ 8 → s'.2 (o + 33) j = g (o + 33) j) ∧ s'.2 (o + 33) 8 = spGrt D i) ns (fun i s' hi hp => by
    obtain ⟨x, g1⟩ := s'
    obtain ⟨p1, p2, p3, p4⟩ := hp
    dsimp only at p1 p2 p3 p4
    subst p1
    have hDg : MD g1 o ns blk len D C := hD.fr hd (by rw [p2 _ (by omega), hg _ (by omega)]) (fun j _ _ => p3 j (by omega))
    have hstep : ∃ g2, M_on_B171 g1 o (i : Int) = some (.inl (((i + 1 : Nat) : Int), g2)) ∧ (∀ z, z ≠ o + 33 → g2 z = g1 z) ∧ (∀ j, j ≠ 8 → g2 (o + 33) j = g1 (o + 33) j) ∧ g2 (o + 33) 8 = spGrt D (i + 1) := by
      unfold M_on_B171
      rw [m_seg hDg]
      simp only [Option.bind_some]
      rw [if_pos (by omega), m_head hd hDg hy hi]
      simp only [Option.bind_some]
      rw [pw (x := (i : Int) + 1) (by omega) (by omega)]
      have hsg : spGrt D (i + 1) = if spHead (D i) = true then max (spGrt D i) (spSer (D i)) else spGrt D i := rfl
      rw [hsg]
      by_cases a : spHead (D i) = true
      rotate_left
      · rw [if_neg a, if_pos rfl, if_neg a]
        exact ⟨g1, rfl, fun _ _ => rfl, fun _ _ => rfl, p4⟩
      rw [if_pos a, if_neg (by decide), if_pos a, m_ser hd hDg hy hi]
      simp only [Option.bind_some]
      rw [if_pos (by decide), show ((8 : Int)).toNat = 8 from rfl, p4]
      by_cases c : spGrt D i < spSer (D i)
      · rw [if_pos c, if_pos (by decide)]
        exact ⟨_, rfl, fun z hz => jup_ne hz, fun j hj => ju_ne hj, by rw [ju_eq]; omega⟩
      · rw [if_neg c]
        exact ⟨g1, rfl, fun _ _ => rfl, fun _ _ => rfl, by rw [p4]; omega⟩
    obtain ⟨g2, x1, x2, x3, x4⟩ := hstep
    exact ⟨(((i + 1 : Nat) : Int), g2), x1, rfl, fun z hz => by rw [← p2 z hz]; exact x2 z hz, fun j hj => by rw [← p3 j hj]; exact x3 j hj, x4⟩) (k := 0) (s := ((0 : Int), g)) (by omega) ⟨rfl, hg, fun _ _ => rfl, h8⟩
  dsimp only at w1 w2 w3 w5
  rw [w4]
  subst w1
  refine ⟨g', jloop_x ?_, w2, w3, w5⟩
  show M_on_B171 g' o (ns : Int) = _
  have hDg : MD g' o ns blk len D C := hD.fr hd (by rw [w2 _ (by omega), hg _ (by omega)]) (fun j _ _ => w3 j (by omega))
  unfold M_on_B171
  rw [m_seg hDg]
  simp only [Option.bind_some]
  rw [if_neg (by omega)]
theorem RM.on_yes {h : jH} {o : Nat} {tp : List Int} (hd : spDim ns blk len) (hb : spByt tp) (hL : CTa h o tp) (hs : spImg ns len tp) (r : RM h o ns blk len p X) : ∃ h', M_on h o = some (1, h') ∧ (∀ z, z ≠ o → z ≠ o + 33 → z ≠ o + 37 → h' z = h z) ∧ (∀ f, f ≠ 1 → f ≠ 73 → (f < 59 ∨ 65 < f) → h' o f = h o f) ∧ RM h' o ns blk len p (spOnS ns blk len tp, [], X.2.2) ∧ CTa h' o [] := by
  unfold M_on
  obtain ⟨h1, hh1⟩ : ∃ h1 : jH, h1 = jup h o 1 0 := ⟨_, rfl⟩
  rw [← hh1]
  have f1 : TAf o h h1 := ⟨fun z z1 _ => by rw [hh1, jup_ne z1], fun f hf => by rw [hh1, ju_ne hf]⟩
  have r1 : RM h1 o ns blk len p X := r.off (fun z hz => f1.1 z (by omega) (by omega)) (fun f hf => f1.2 f (by omega))
  have hLb : CTb h1 o tp := hL.b.eq (by rw [hh1, jup_ne (by omega)])
  have hD1 : MD h1 o ns blk len X.1.1.1 X.1.1.2 := r1.2.elim (fun m hm => hm.2.2.2.2.2.que.2.2.2.2.2.2.2.2.1)
  rw [hL.1, (m_isImg hd hb hLb r1.told hD1).1 hs]
  simp only [Option.bind_some]
  rw [if_neg (by decide)]
  have htl := hs.1
  have hsp := spPr_in hb 0
  have hgr := spGrt_in hd (spTD_by (ns := ns) (len := len) hb) ns (Nat.le_refl _)
  obtain ⟨g1, a1, a2, a3, a4⟩ := m_on27 (g := h1) hb hLb (by omega) (fun _ _ => rfl)
  obtain ⟨g2, b1, b2, b3, b4⟩ := m_on60 (g := g1) hb hLb (by omega) a2
  have hD2 : MD g2 o ns blk len X.1.1.1 X.1.1.2 := hD1.fr hd (b2 _ (by omega)) (fun i _ _ => by rw [b4 i (by omega), a4 i (by omega)])
  obtain ⟨g3, c1, c2, c3, c4⟩ := m_on112 (g := g2) hd hLb htl b2 hD2
  obtain ⟨g4, d1, d2, d3, d4⟩ := m_on171 (g := g3) hd (spTD_by hb) c2 c4 (by rw [c3 8 (by omega), b4 8 (by omega), a3 8 (by omega)]; rfl)
  rw [a1, b1, c1, d1]
  have lo : ∀ i, i < 16 → i ≠ 8 → g4 (o + 33) i = if i = 9 then spPr tp 0 else 0 := fun i hi h8 => by rw [d3 i h8, c3 i (by omega), b4 i (by omega), a3 i hi]
  have hst : ∀ j, j < 16 → g4 (o + 33) (160 + j) = spTS tp j := fun j hj => by rw [d3 _ (by omega), c3 _ (by omega)]; exact b3 j hj
  have hD4 : MD g4 o ns blk len (spTD len tp) (fun _ _ => 0) := c4.fr hd (by rw [d2 _ (by omega), c2 _ (by omega)]) (fun i _ _ => d3 i (by omega))
  obtain ⟨g5, e1, e2, e3, e4, e5, e6⟩ := m_recov (o := o) (snap := spPr tp 0) (stab := spTS tp) hd hD4 (spTD_by hb) (by rw [lo 9 (by decide) (by decide)]; rfl) hst hsp.1 (by omega)
  rw [e1]
  simp only [Option.bind_some]
  rw [if_pos (by decide)]
  have hr := spRecov_ok (snap := spPr tp 0) (stab := spTS tp) hd (spTD_by hb) hsp.1 (spTS_ti hb hs)
  obtain ⟨g6, hg6⟩ : ∃ g6 : jH, g6 = jup (jup g5 (o + 33) (2244 : Int).toNat 0) o 73 0 := ⟨_, rfl⟩
  rw [← hg6]
  have k6 : ∀ i, i ≠ 2244 → g6 (o + 33) i = g5 (o + 33) i := fun i hi => by rw [hg6, jup_ne (by omega), ju_ne (by rw [show ((2244 : Int)).toNat = 2244 from rfl]; exact hi)]
  have k2244 : g6 (o + 33) 2244 = 0 := by rw [hg6, jup_ne (by omega), show ((2244 : Int)).toNat = 2244 from rfl, ju_eq]
  have ez : ∀ z, z ≠ o → z ≠ o + 33 → z ≠ o + 37 → g6 z = h z := fun z z1 z2 z3 => by rw [hg6, jup_ne z1, jup_ne z2, e2 z z1 z2 z3, d2 z z2, hh1, jup_ne z1]
  have ef : ∀ f, f ≠ 1 → f ≠ 73 → (f < 59 ∨ 65 < f) → g6 o f = h o f := fun f x1 x2 x3 => by rw [hg6, ju_ne x2, jup_ne (by omega), e3 f x3, d2 o (by omega), hh1, ju_ne x1]
  have gk : ∀ i, ¬ MRx i → i ≠ 2244 → g6 (o + 33) i = g4 (o + 33) i := fun i x1 x2 => by rw [k6 i x2, e5 i x1]
  obtain ⟨m, q1, q2, q3, q4, q5, q6⟩ := r.2
  refine ⟨g6, rfl, ez, ef, ⟨⟨by rw [ef 43 (by decide) (by decide) (by omega)]; exact r.1.1, by rw [ef 52 (by decide) (by decide) (by omega)]; exact r.1.2.1, by rw [ef 56 (by decide) (by decide) (by omega)]; exact r.1.2.2.1, by rw [ef 53 (by decide) (by decide) (by omega)]; exact r.1.2.2.2.1, r.1.2.2.2.2.1.eq (ez _ (by omega) (by omega) (by omega)) (ez _ (by omega) (by omega) (by omega)) (ez _ (by omega) (by omega) (by omega)), fun i hi => by rw [ez _ (by omega) (by omega) (by omega)]; exact r.1.2.2.2.2.2 i hi⟩, m, by rw [ef 74 (by decide) (by decide) (by omega)]; exact q1, q2, by rw [hg6, ju_eq]; rfl, Nat.zero_le _, fun j x hx => (by cases hx), ?_⟩, CTa.nil (by rw [hg6, ju_ne (by decide), jup_ne (by omega), e3 1 (by omega), d2 o (by omega), hh1, ju_eq])⟩
  show MS g6 o ns blk len (spOnS ns blk len tp).2.2.2.1.2 (spOnS ns blk len tp)
  rw [spOnS_rest]
  unfold spRest
  have hD6 : MD g6 o ns blk len (spRdisk (spTD len tp) ns blk len (spPr tp 0) (spTS tp) (spTD len tp)) (spRdisk (spTD len tp) ns blk len (spPr tp 0) (spTS tp) (fun _ _ => 0)) := e6.fr hd (by rw [hg6, jup_ne (by omega), jup_ne (by omega)]) (fun i i1 i2 => k6 i (by omega))
  generalize spRdisk (spTD len tp) ns blk len (spPr tp 0) (spTS tp) = RD at hD6 ⊢
  generalize spRecov (spTD len tp) ns blk len (spPr tp 0) (spTS tp) = R at hr e4 ⊢
  obtain ⟨r1', r2, r3, r4, r5, r6, r7, r8, r9, r10, r11⟩ := e4
  refine ⟨hD6, ⟨⟨by rw [gk 4 (by unfold MRx; omega) (by decide), lo 4 (by decide) (by decide)]; rfl, fun i e he => by cases he⟩, by rw [gk 3 (by unfold MRx; omega) (by decide), lo 3 (by decide) (by decide)]; rfl⟩, ⟨by rw [k6 2 (by decide)]; exact r2, by rw [k6 1 (by decide), r1']; simp, by rw [k6 11 (by decide), r9]; simp, by simp, Nat.le_refl _, fun i r hr2 => by cases hr2⟩, ⟨by rw [k6 12 (by decide)]; exact r10, fun i e he => (by cases he), fun x hx => by rw [k6 _ (by omega), r11 x hx]; rfl⟩, ⟨by rw [k2244]; rfl, (show (0 : Nat) ≤ 40 by decide), fun i e he => by cases he⟩, ⟨fun i hi => by rw [k6 _ (by omega)]; exact r3 i hi, fun i hi => by rw [gk _ (by unfold MRx; omega) (by omega)]; exact hst i hi, by rw [gk 9 (by unfold MRx; omega) (by decide), lo 9 (by decide) (by decide)]; rfl, fun i hi => by rw [k6 _ (by omega)]; exact r4 i hi⟩, by rw [k6 5 (by decide)]; exact r5, by rw [k6 6 (by decide), r6]; omega, by rw [k6 7 (by decide)]; exact r7, by rw [gk 8 (by unfold MRx; omega) (by decide)]; exact d4, by rw [k6 10 (by decide)]; exact r8, by rw [gk 0 (by unfold MRx; omega) (by decide), lo 0 (by decide) (by decide)]; rfl, by rw [gk 13 (by unfold MRx; omega) (by decide), lo 13 (by decide) (by decide)]; rfl⟩
theorem RM.on_no {h : jH} {o : Nat} {tp : List Int} (hd : spDim ns blk len) (hb : spByt tp) (hL : CTa h o tp) (hs : ¬ spImg ns len tp) (r : RM h o ns blk len p X) : ∃ h', M_on h o = some (0, h') ∧ RMf o (jup h o 1 0) h' ∧ RM h' o ns blk len p (spRfu 6 X) ∧ CTa h' o [] := by
  unfold M_on M_isRefused
  obtain ⟨h1, hh1⟩ : ∃ h1 : jH, h1 = jup h o 1 0 := ⟨_, rfl⟩
  rw [← hh1]
  have f1 : TAf o h h1 := ⟨fun z z1 _ => by rw [hh1, jup_ne z1], fun f hf => by rw [hh1, ju_ne hf]⟩
  have r1 : RM h1 o ns blk len p X := r.off (fun z hz => f1.1 z (by omega) (by omega)) (fun f hf => f1.2 f (by omega))
  have hLb : CTb h1 o tp := hL.b.eq (by rw [hh1, jup_ne (by omega)])
  have hD1 : MD h1 o ns blk len X.1.1.1 X.1.1.2 := r1.2.elim (fun m hm => hm.2.2.2.2.2.que.2.2.2.2.2.2.2.2.1)
  rw [hL.1, (m_isImg hd hb hLb r1.told hD1).2 hs]
  simp only [Option.bind_some]
  have hr := r1.refuse (k := 6) (by decide)
  rw [if_pos True.intro, if_pos (by decide), if_pos (by decide), show ((6 : Int)).toNat = 6 from rfl]
  simp only [Option.bind_some]
  rw [if_pos (Or.inl True.intro)]
  exact ⟨_, rfl, hr.1, hr.2, CTa.nil (show jup h1 (o + 2) 6 _ o 1 = 0 by rw [jup_ne (by omega), hh1, ju_eq])⟩
end ONM
