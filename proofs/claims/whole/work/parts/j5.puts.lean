/-! the first state: the class; then the puts, on both sides -/
section CFS
variable {ns blk len : Nat}
theorem c_fst0 {h : jH} {o pl bm : Nat} (hd0 : spDim ns blk len) (hpl : pl < o ∨ o + 20 < pl) (h0 : h pl 0 = (ns : Int)) (h1 : h pl 1 = (bm : Int)) (h2 : h pl 2 = (blk : Int)) (hl : bm * blk = len) : ∃ g1 g2, St_blank h o pl = some g1 ∧ St_openAtOnce g1 o 0 = some g2 ∧ (∀ z, (z < o ∨ o + 20 < z) → g2 z = h z) ∧ g2 o 0 = (pl : Int) ∧ CS g2 o ns blk len 0 spSt0 := by
  have hl5 := hd0.len
  obtain ⟨g1, a1, a2, a3, a4, a5, a6, a7, a8, a9, a10, a11, a12, a13, a14, a15, a16, a17, a18, a19, a20⟩ := c_blank (h := h) (o := o) (pl := pl) (ns := ns) (blk := blk) (len := len) (bm := bm) hpl h0 h1 h2 hl (by omega) (fun s k hs hk => by have := hd0.adr hs hk; omega)
  have e1 : wr ((0 : Int) + 1) = 1 := by rw [pw (by decide) (by decide)]; rfl
  have hy : spByD ns len (fun _ _ => 0) := fun s hs => fun k hk => (show (0 : Int) ≤ 0 ∧ (0 : Int) < 256 by decide)
  obtain ⟨g2, b1, b2, b3⟩ := c_writeHead (h := g1) (od := o + 1) (ser := 1) (num := 0) hd0 ⟨by decide, by decide⟩ ⟨by decide, by decide⟩ hy a5
  have eo : g2 o = g1 o := b2 o (by omega) (by omega)
  obtain ⟨g3, hg3⟩ : ∃ g3 : jH, g3 = jup (jup (jup (jup g2 o 10 0) o 11 5) o 12 1) o 13 1 := ⟨_, rfl⟩
  have go : ∀ z, z ≠ o → g3 z = g2 z := fun z hz => by rw [hg3, jup_ne hz, jup_ne hz, jup_ne hz, jup_ne hz]
  have gg : ∀ z, z ≠ o → z ≠ o + 2 → z ≠ o + 3 → g3 z = g1 z := fun z z1 z2 z3 => by rw [go z z1, b2 z (by omega) (by omega)]
  have gf : ∀ f, f ≠ 10 → f ≠ 11 → f ≠ 12 → f ≠ 13 → g3 o f = g1 o f := fun f f1 f2 f3 f4 => by rw [hg3, ju_ne f4, ju_ne f3, ju_ne f2, ju_ne f1, eo]
  refine ⟨g1, g3, a1, ?_, fun z hz => by rw [gg z (by omega) (by omega) (by omega), a2 z hz], by rw [gf 0 (by decide) (by decide) (by decide) (by decide)]; exact a3, b3.eq (fun z z1 z2 => go z (by omega)), ⟨⟨by rw [gg _ (by omega) (by omega) (by omega)]; exact a6, fun i e hi => by cases hi⟩, by rw [gg _ (by omega) (by omega) (by omega)]; exact a7⟩, ⟨by rw [gg _ (by omega) (by omega) (by omega)]; exact a8, by rw [gg _ (by omega) (by omega) (by omega)]; exact a9, by rw [gg _ (by omega) (by omega) (by omega)]; exact a10, by decide, fun i r hr => by cases hr⟩, ⟨⟨by rw [gg _ (by omega) (by omega) (by omega)]; exact a11, by decide, fun k e he => by cases he⟩, ?_⟩, ⟨fun i hi => by rw [gg _ (by omega) (by omega) (by omega)]; exact a13 i hi, fun i hi => by rw [gg _ (by omega) (by omega) (by omega)]; exact a14 i hi, by rw [gf 7 (by decide) (by decide) (by decide) (by decide)]; exact a16, fun i hi => by rw [gg _ (by omega) (by omega) (by omega)]; exact a15 i hi⟩, by rw [hg3, ju_ne (by decide), ju_ne (by decide), ju_ne (by decide), ju_eq]; rfl, by rw [hg3, ju_ne (by decide), ju_ne (by decide), ju_eq]; rfl, by rw [hg3, ju_ne (by decide), ju_eq], by rw [hg3, ju_eq], by rw [gf 14 (by decide) (by decide) (by decide) (by decide)]; exact a19, by rw [gf 9 (by decide) (by decide) (by decide) (by decide)]; exact a17⟩
  · unfold St_openAtOnce
    rw [a18, e1, b1]
    simp only [Option.bind_some]
    unfold St_movePlace
    simp only [Option.bind_some]
    rw [eo, a18, e1, ← hg3]
  · unfold CKn; rw [gg _ (by omega) (by omega) (by omega), gg _ (by omega) (by omega) (by omega), gg _ (by omega) (by omega) (by omega), gg _ (by omega) (by omega) (by omega)]; exact a12
/-- the puts: each record that can be appended is -/
def spPuts (blk len : Nat) : List (Int × Int × Int) → spSt → spSt
  | [], s => s
  | v :: r, s => spPuts blk len r (if spCanA blk len v.1 v.2.1 v.2.2 s = true then spApp v.1 v.2.1 v.2.2 s else s)
theorem spHal_st0 : spHal spSt0 := fun h => absurd h (by decide)
theorem spPuts_ok : ∀ (P : List (Int × Int × Int)) (s : spSt) (b : Int), b + (P.length : Int) ≤ 700000 → spOK ns blk len b s → spOK ns blk len (b + (P.length : Int)) (spPuts blk len P s) := by
  intro P
  induction P with
  | nil => intro s b hb hs; exact ⟨spInv_mono (by show b ≤ b + ((0 : Nat) : Int); omega) hb hs.1, hs.2⟩
  | cons v r ih =>
    intro s b hb hs
    have e : b + ((v :: r).length : Int) = b + 1 + (r.length : Int) := by rw [List.length_cons]; omega
    rw [e] at hb ⊢
    show spOK ns blk len _ (spPuts blk len r (if spCanA blk len v.1 v.2.1 v.2.2 s = true then spApp v.1 v.2.1 v.2.2 s else s))
    refine ih _ (b + 1) hb ?_
    by_cases c : spCanA blk len v.1 v.2.1 v.2.2 s = true
    · rw [if_pos c]; exact ⟨spInv_app (by omega) hs.1 c, spHal_app c⟩
    · rw [if_neg c]; exact ⟨spInv_mono (by omega) (by omega) hs.1, hs.2⟩
theorem spPuts_w : ∀ (P : List (Int × Int × Int)) (s : spSt), (spPuts blk len P s).2.2.2.1 = s.2.2.2.1 := by
  intro P
  induction P with
  | nil => intro s; rfl
  | cons v r ih =>
    intro s
    show (spPuts blk len r (if spCanA blk len v.1 v.2.1 v.2.2 s = true then spApp v.1 v.2.1 v.2.2 s else s)).2.2.2.1 = _
    rw [ih]
    split
    · rfl
    · rfl
/-- the class's puts -/
theorem c_putsL {T : jT} {o0 pl n : Nat} (hT : isX6 T pl) (hpl : o0 + 4 < pl ∧ pl + 12 < o0 + 34) (P : List (Int × Int × Int)) (hP : P.length ≤ 39) : ∀ (r j : Nat) (s : spSt) (b : Int) (h : jH), r + j = P.length → b + (r : Int) ≤ 700000 → h o0 8 = (pl : Int) → h pl 12 = (P.length : Int) → (∀ (i : Nat) (v : Int × Int × Int), P[i]? = some v → h (pl + 9) i = v.1 ∧ h (pl + 10) i = v.2.1 ∧ h (pl + 11) i = v.2.2) → spOK ns blk len b s → CS h (o0 + 35) ns blk len n s → ∃ h', G_begin_L31 T h o0 (j : Int) = some h' ∧ (∀ z, (z < o0 + 42 ∨ o0 + 46 < z) → h' z = h z) ∧ CS h' (o0 + 35) ns blk len n (spPuts blk len (P.drop j) s) := by
  unfold G_begin_L31
  intro r
  induction r with
  | zero =>
    intro j s b h hr hb h8 h12 hc hI hs
    refine ⟨h, jloop_r ?_, fun _ _ => rfl, by rw [List.drop_of_length_le (by omega)]; exact hs⟩
    show G_begin_B31 T h o0 (j : Int) = _
    unfold G_begin_B31
    rw [h8, jdyn_at hT, Option.bind_some, h12, if_neg (by omega)]
    rfl
  | succ r ih =>
    intro j s b h hr hb h8 h12 hc hI hs
    have hj : j < P.length := by omega
    obtain ⟨c1, c2, c3⟩ := hc j P[j] (List.getElem?_eq_getElem hj)
    have hdr : spPuts blk len (P.drop j) s = spPuts blk len (P.drop (j + 1)) (if spCanA blk len P[j].1 P[j].2.1 P[j].2.2 s = true then spApp P[j].1 P[j].2.1 P[j].2.2 s else s) := by
      rw [List.drop_eq_getElem_cons hj]; rfl
    have hstep : G_begin_B31 T h o0 (j : Int) = Option.bind (St_takesRecord h (o0 + 35) P[j].1 P[j].2.1 P[j].2.2) (fun b12 => (if b12 = 0 then some (.inl ((wr ((j : Int) + 1)), h)) else Option.bind (Qu_add h (o0 + 42) P[j].1 P[j].2.1 P[j].2.2 (h (o0 + 35) 9)) (fun b14 => some (.inl ((wr ((j : Int) + 1)), b14))))) := by
      unfold G_begin_B31
      rw [h8, jdyn_at hT, Option.bind_some, h12, if_pos (by omega), Option.bind_some, g_cellN (by omega), Option.bind_some, Option.bind_some, g_cellN (by omega), Option.bind_some, Option.bind_some, g_cellN (by omega), Option.bind_some, c1, c2, c3]
    rw [c_takes hs hI.1, Option.bind_some, pw (x := (j : Int) + 1) (by omega) (by omega)] at hstep
    rw [hdr]
    by_cases c : spCanA blk len P[j].1 P[j].2.1 P[j].2.2 s = true
    · rw [if_pos c, if_neg (by decide)] at hstep
      rw [if_pos c]
      have hw : spWtg s < 16 := by
        have c' := c
        unfold spCanA at c'
        simp only [Bool.and_eq_true, decide_eq_true_eq] at c'
        exact c'.1.1.1.1.1.1.1.2
      obtain ⟨g, x1, x2, x3⟩ := c_addQ (k := P[j].1) (v := P[j].2.1) (sz := P[j].2.2) hs hI.1 hw
      rw [show Qu_add h (o0 + 42) P[j].1 P[j].2.1 P[j].2.2 (h (o0 + 35) 9) = _ from x1, Option.bind_some] at hstep
      obtain ⟨h', e1, e2, e3⟩ := ih (j + 1) (spApp P[j].1 P[j].2.1 P[j].2.2 s) (b + 1) g (by omega) (by omega) (by rw [x2 _ (by omega)]; exact h8) (by rw [x2 _ (by omega)]; exact h12) (fun i v hv => by rw [x2 (pl + 9) (by omega), x2 (pl + 10) (by omega), x2 (pl + 11) (by omega)]; exact hc i v hv) ⟨spInv_app (by omega) hI.1 c, spHal_app c⟩ x3
      exact ⟨h', (jloop_l (s' := ((((j + 1 : Nat)) : Int), g)) hstep).trans e1, fun z hz => by rw [e2 z hz, x2 z (by omega)], e3⟩
    · rw [if_neg c, if_pos rfl] at hstep
      rw [if_neg c]
      obtain ⟨h', e1, e2, e3⟩ := ih (j + 1) s b h (by omega) (by omega) h8 h12 hc hI hs
      exact ⟨h', (jloop_l (s' := ((((j + 1 : Nat)) : Int), h)) hstep).trans e1, e2, e3⟩
/-- whether a record can be appended: the reference -/
theorem m_canA {h : jH} {o : Nat} {b k v sz : Int} {kpm : spKp} {s : spSt} (hd0 : spDim ns blk len) (hs : MS h o ns blk len kpm s) (hk : 0 ≤ k ∧ k ≤ 15) (hv : 0 ≤ v ∧ v ≤ 999) (hz : 0 ≤ sz ∧ sz ≤ 40) : M_canAppend h o sz = some (if spCanA blk len k v sz s = true then 1 else 0) := by
  have hq := hs.que
  have hl := hd0.len
  have cn : spCanA blk len k v sz s = true ↔ (s.2.2.2.2.2.2.2.2.2.1 = false ∧ spWtg s < 16 ∧ spBeh blk len 6 5 (3 + sz.toNat) ≠ none) := by
    unfold spCanA
    simp only [Bool.and_eq_true, decide_eq_true_eq, Bool.not_eq_true', and_assoc]
    exact ⟨fun x => ⟨x.1, x.2.1, x.2.2.2.2.2.2.2.2⟩, fun x => ⟨x.1, x.2.1, hk.1, by omega, hv.1, by omega, hz.1, by omega, x.2.2⟩⟩
  unfold M_canAppend M_canAppend_p37
  rw [if_pos (by decide), show ((11 : Int)).toNat = 11 from rfl, show ((10 : Int)).toNat = 10 from rfl, hq.2.2.1, hq.2.2.2.1]
  by_cases b1 : spWtg s < 16
  rotate_left
  · rw [if_neg (by omega), if_neg (fun h => b1 (cn.mp h).2.1)]
  rw [if_pos (by omega), if_pos (by decide)]
  by_cases b2 : s.2.2.2.2.2.2.2.2.2.1 = true
  · rw [if_neg (by rw [if_pos b2]; decide), if_neg (fun h => by have := (cn.mp h).1; rw [b2] at this; cases this)]
  have b2' : s.2.2.2.2.2.2.2.2.2.1 = false := by cases hq : s.2.2.2.2.2.2.2.2.2.1 with
    | true => exact absurd hq b2
    | false => rfl
  rw [if_pos (by rw [if_neg b2]), pw (by omega) (by omega)]
  have hr := m_hasRoom (k := 5) (left := 3 + sz.toNat) hd0 hq.2.2.2.2.2.2.2.2.1 (by omega) (by omega)
  rw [show ((5 : Nat) : Int) = 5 from rfl, show ((3 + sz.toNat : Nat) : Int) = 3 + sz by omega] at hr
  rw [hr]
  simp only [Option.bind_some]
  by_cases b3 : spBeh blk len 6 5 (3 + sz.toNat) = none
  · rw [if_pos b3, if_pos rfl, if_neg (fun h => (cn.mp h).2.2 b3)]
  · rw [if_neg b3, if_neg (by decide), if_pos (cn.mpr ⟨b2', b1, b3⟩)]
/-- the reference's puts -/
theorem m_putsL {o : Nat} {kpm : spKp} (hd0 : spDim ns blk len) (P : List (Int × Int × Int)) (hP : P.length ≤ 39) (hr0 : ∀ v ∈ P, (0 ≤ v.1 ∧ v.1 ≤ 15) ∧ (0 ≤ v.2.1 ∧ v.2.1 ≤ 999) ∧ 0 ≤ v.2.2 ∧ v.2.2 ≤ 40) : ∀ (r j : Nat) (s : spSt) (b : Int) (h : jH), r + j = P.length → b + (r : Int) ≤ 700000 → MPu h o P → spOK ns blk len b s → MS h o ns blk len kpm s → ∃ h', M_stands_L230 h o (j : Int) = some h' ∧ (∀ z, z ≠ o + 33 → h' z = h z) ∧ MS h' o ns blk len kpm (spPuts blk len (P.drop j) s) := by
  unfold M_stands_L230
  intro r
  induction r with
  | zero =>
    intro j s b h hr hb hu hI hs
    refine ⟨h, jloop_r ?_, fun _ _ => rfl, by rw [List.drop_of_length_le (by omega)]; exact hs⟩
    show M_stands_B230 h o (j : Int) = _
    unfold M_stands_B230
    rw [if_pos (by decide), show ((3 : Int)).toNat = 3 from rfl, hu.1, if_neg (by omega)]
    rfl
  | succ r ih =>
    intro j s b h hr hb hu hI hs
    have hj : j < P.length := by omega
    obtain ⟨c1, c2, c3⟩ := hu.2 j P[j] (List.getElem?_eq_getElem hj)
    obtain ⟨k1, k2, k3⟩ := hr0 P[j] (List.getElem_mem hj)
    have hdr : spPuts blk len (P.drop j) s = spPuts blk len (P.drop (j + 1)) (if spCanA blk len P[j].1 P[j].2.1 P[j].2.2 s = true then spApp P[j].1 P[j].2.1 P[j].2.2 s else s) := by
      rw [List.drop_eq_getElem_cons hj]; rfl
    have e0 : wr (3 * (j : Int)) = ((3 * j : Nat) : Int) := by rw [pw (by omega) (by omega)]; omega
    have e1 : wr (((3 * j : Nat) : Int) + 1) = ((3 * j + 1 : Nat) : Int) := by rw [pw (by omega) (by omega)]; omega
    have e2 : wr (((3 * j : Nat) : Int) + 2) = ((3 * j + 2 : Nat) : Int) := by rw [pw (by omega) (by omega)]; omega
    have hstep : M_stands_B230 h o (j : Int) = Option.bind (M_canAppend h o P[j].2.2) (fun b25 => (if b25 = 0 then some (.inl ((wr ((j : Int) + 1)), h)) else Option.bind (M_appends h o P[j].1 P[j].2.1 P[j].2.2) (fun b30 => some (.inl ((wr ((j : Int) + 1)), b30))))) := by
      unfold M_stands_B230
      rw [if_pos (by decide), show ((3 : Int)).toNat = 3 from rfl, hu.1, if_pos (by omega)]
      simp only [e0, e1, e2, Int.toNat_natCast, c1, c2, c3]
      rw [if_pos (show (0 : Int) ≤ ((3 * j + 2 : Nat) : Int) ∧ 3 * j + 2 < 120 by omega), if_pos (show (0 : Int) ≤ ((3 * j : Nat) : Int) ∧ 3 * j < 120 by omega), if_pos (show (0 : Int) ≤ ((3 * j + 1 : Nat) : Int) ∧ 3 * j + 1 < 120 by omega), if_pos (show (0 : Int) ≤ ((3 * j + 2 : Nat) : Int) ∧ 3 * j + 2 < 120 by omega)]
    rw [m_canA (b := b) hd0 hs k1 k2 k3, Option.bind_some, pw (x := (j : Int) + 1) (by omega) (by omega)] at hstep
    rw [hdr]
    by_cases c : spCanA blk len P[j].1 P[j].2.1 P[j].2.2 s = true
    · rw [if_pos c, if_neg (by decide)] at hstep
      rw [if_pos c]
      have hw : spWtg s < 16 := by
        have c' := c
        unfold spCanA at c'
        simp only [Bool.and_eq_true, decide_eq_true_eq] at c'
        exact c'.1.1.1.1.1.1.1.2
      obtain ⟨g, x1, x2, x3, -⟩ := m_appends (k := P[j].1) (v := P[j].2.1) (sz := P[j].2.2) hs hI.1 hw
      rw [x1, Option.bind_some] at hstep
      obtain ⟨h', e1, e2, e3⟩ := ih (j + 1) (spApp P[j].1 P[j].2.1 P[j].2.2 s) (b + 1) g (by omega) (by omega) ⟨by rw [x2 _ (by omega)]; exact hu.1, fun i v hv => by rw [x2 (o + 29) (by omega)]; exact hu.2 i v hv⟩ ⟨spInv_app (by omega) hI.1 c, spHal_app c⟩ x3
      exact ⟨h', (jloop_l (s' := ((((j + 1 : Nat)) : Int), g)) hstep).trans e1, fun z hz => by rw [e2 z hz, x2 z hz], e3⟩
    · rw [if_neg c, if_pos rfl] at hstep
      rw [if_neg c]
      obtain ⟨h', e1, e2, e3⟩ := ih (j + 1) s b h (by omega) (by omega) hu hI hs
      exact ⟨h', (jloop_l (s' := ((((j + 1 : Nat)) : Int), h)) hstep).trans e1, e2, e3⟩
end CFS
