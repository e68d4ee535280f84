/-! what had arrived by what was seen: the spec, the class -/
def spFit (sn : spSn) (tab : Nat → Int) : Bool := sn.all (fun e => decide (tab e.1.toNat = if e.2 = 1000 then -1 else e.2))
/-- the table, had k bytes arrived -/
def spTbK (ns blk len : Nat) (s : spSt) (k : Nat) : Nat → Int := (spRecov (spArrD (s.2.1.1.take k) s.1.1) ns blk len s.2.2.2.2.1.2.2.1 s.2.2.2.2.1.2.1).1.2.1
def spAr (ns blk len : Nat) (sn : spSn) (s : spSt) : Nat → List Nat
  | 0 => []
  | n + 1 => if spFit sn (spTbK ns blk len s n) = true then spAr ns blk len sn s n ++ [n] else spAr ns blk len sn s n
def spArs (ns blk len : Nat) (sn : spSn) (s : spSt) : List Nat := spAr ns blk len sn s (s.2.1.1.length + 1)
/-- how many of a list have a value -/
def spCt (g : Nat → Int) (v : Int) : List Nat → Int
  | [] => 0
  | k :: l => spCt g v l + (if g k = v then 1 else 0)
theorem spCt_snoc {g : Nat → Int} {v : Int} {k : Nat} : ∀ l : List Nat, spCt g v (l ++ [k]) = spCt g v l + (if g k = v then 1 else 0) := by
  intro l
  induction l with
  | nil => rfl
  | cons x l ih => show spCt g v (l ++ [k]) + _ = spCt g v l + _ + _; rw [ih]; omega
theorem spCt_in {g : Nat → Int} {v : Int} : ∀ l : List Nat, 0 ≤ spCt g v l ∧ spCt g v l ≤ (l.length : Int) := by
  intro l
  induction l with
  | nil => exact ⟨Int.le_refl _, Int.le_refl _⟩
  | cons x l ih => unfold spCt; rw [List.length_cons]; split <;> omega
def spMxL (f : Nat → Int) : Nat → Int
  | 0 => 0
  | n + 1 => max (spMxL f n) (f n)
/-- how many are left at the most -/
def spMst (ns blk len : Nat) (s : spSt) (L : List Nat) (key : Nat) : Int := spMxL (fun w => spCt (fun k => spTbK ns blk len s k key) ((w : Int) - 1) L) 1001
def spTel (f : Nat → Int) : Nat → Int × Int
  | 0 => (-1, -1)
  | n + 1 => if (spTel f n).1 = -1 then ((n : Int), f n) else if f n < (spTel f n).2 then ((n : Int), f n) else spTel f n
def spDArrived (ns blk len : Nat) (sn : spSn) (k : Int) (X : spX) : Int := if k = -1 then ((spArs ns blk len sn X.1).length : Int) else if 0 ≤ k ∧ k < ((spArs ns blk len sn X.1).length : Int) then ((spArs ns blk len sn X.1).getD k.toNat 0 : Int) else -1
def spDTells (ns blk len : Nat) (sn : spSn) (v : Int) (X : spX) : Int := if spArs ns blk len sn X.1 = [] then -1 else if v = 0 then (spTel (spMst ns blk len X.1 (spArs ns blk len sn X.1)) 16).1 else if v = 1 then (spTel (spMst ns blk len X.1 (spArs ns blk len sn X.1)) 16).2 else -1
theorem spAr_len {ns blk len : Nat} {sn : spSn} {s : spSt} : ∀ n, (spAr ns blk len sn s n).length ≤ n := by
  intro n
  induction n with
  | zero => exact Nat.le_refl _
  | succ n ih =>
    unfold spAr
    split
    · rw [List.length_append]; show _ + 1 ≤ _; omega
    · omega
theorem spArrD_app : ∀ (F G : spFl) (D : Nat → Nat → Int), spArrD (F ++ G) D = spArrD G (spArrD F D) := by
  intro F
  induction F with
  | nil => intro G D; rfl
  | cons e F ih => intro G D; exact ih G _
theorem spArrC_app : ∀ (F G : spFl) (D : Nat → Nat → Int), spArrC (F ++ G) D = spArrC G (spArrC F D) := by
  intro F
  induction F with
  | nil => intro G D; rfl
  | cons e F ih => intro G D; exact ih G _
theorem spTake_one {F : spFl} {k : Nat} : F.take (k + 1) = F.take k ++ (F.drop k).take 1 := by
  rw [show k + 1 = k + 1 from rfl, List.take_add]
section ARC
variable {T : jT} {o0 pl ns blk len B : Nat} {p : spPl} {X : spX} {b : Int}
theorem spTbK_ti {s : spSt} {k : Nat} (hI : spInv ns blk len b s) : spTi (spTbK ns blk len s k) := by
  obtain ⟨⟨D, C⟩, ⟨F, lf⟩, ⟨q, fl, first⟩, ⟨wt, kp⟩, ⟨tab, stab, snap, tops⟩, ⟨sg, at', ser, gr, hl, tk⟩⟩ := s
  obtain ⟨i1, i2, i3, i4, i5, i6, i7⟩ := hI
  have hy := spArrD_by (D := D) (F.take k) D (fun e he => ⟨(i2.1 e (List.mem_of_mem_take he)).2.2.1, (i2.1 e (List.mem_of_mem_take he)).2.2.2.1⟩) i1.2.1
  exact (spRecov_ok (snap := snap) (stab := stab) i1.1 hy i3.2.2.2.2.1 i5.2).2.2.1
theorem c_seen {h : jH} {r : Nat} {sn : spSn} {tab : Nat → Int} (hS : CSn h o0 sn) (hok : spSok sn) (ht : ∀ q, q < 16 → h r q = tab q) : G_isSeen h o0 r 16 = some (if spFit sn tab = true then 1 else 0) := by
  obtain ⟨c1, c2, c3⟩ := hS
  have step : ∀ i (hi : i < sn.length), G_isSeen_B2 h o0 r 16 ((3 * i : Nat) : Int) = if tab sn[i].1.toNat = (if sn[i].2 = 1000 then -1 else sn[i].2) then some (.inl ((3 * (i + 1) : Nat) : Int)) else some (.inr 0) := by
    intro i hi
    obtain ⟨d1, a, c, d2, d3, d4, d5, d6, d7, d8⟩ := c3 i _ (List.getElem?_eq_getElem hi)
    have hk := hok _ (List.getElem_mem hi)
    unfold G_isSeen_B2
    rw [c1, pw (x := (sn.length : Int) * 3) (by omega) (by omega), if_pos (by omega), pw (x := ((3 * i : Nat) : Int) + 1) (by omega) (by omega), show ((3 * i : Nat) : Int) + 1 = ((3 * i + 1 : Nat) : Int) by omega, g_cellN (by omega), d2]
    simp only [Option.bind_some]
    rw [pw (x := ((3 * i : Nat) : Int) + 2) (by omega) (by omega), show ((3 * i : Nat) : Int) + 2 = ((3 * i + 2 : Nat) : Int) by omega, g_cellN (by omega), d3]
    simp only [Option.bind_some]
    rw [g_cellN (by omega), d1]
    simp only [Option.bind_some]
    obtain ⟨kk, hkk⟩ : ∃ kk : Nat, sn[i].1 = (kk : Int) := ⟨sn[i].1.toNat, by omega⟩
    rw [hkk, Int.toNat_natCast, g_cellN (by omega), ht kk (by omega)]
    simp only [Option.bind_some]
    rw [pj_shl8 (by omega) (by omega), pj_or8 (by omega) (by omega) (by omega) (by omega), d8]
    unfold G_isSeen_p61
    rw [pw (x := ((3 * i : Nat) : Int) + 3) (by omega) (by omega), show ((3 * i : Nat) : Int) + 3 = ((3 * (i + 1) : Nat) : Int) by omega]
    by_cases w : sn[i].2 = 1000
    · rw [if_pos w, if_pos w]; rfl
    · rw [if_neg w, if_neg w]; rfl
  have key : ∀ m i, i + m = sn.length → G_isSeen_L2 h o0 r 16 ((3 * i : Nat) : Int) = some (if spFit (sn.drop i) tab = true then 1 else 0) := by
    unfold G_isSeen_L2
    intro m
    induction m with
    | zero =>
      intro i hi
      rw [List.drop_of_length_le (by omega)]
      refine jloop_r ?_
      unfold G_isSeen_B2
      rw [c1, pw (x := (sn.length : Int) * 3) (by omega) (by omega), if_neg (by omega)]
      rfl
    | succ m ih =>
      intro i hi
      have hi2 : i < sn.length := by omega
      rw [List.drop_eq_getElem_cons hi2]
      have hs := step i hi2
      have hf : spFit (sn[i] :: sn.drop (i + 1)) tab = (decide (tab sn[i].1.toNat = if sn[i].2 = 1000 then -1 else sn[i].2) && spFit (sn.drop (i + 1)) tab) := rfl
      rw [hf]
      by_cases c : tab sn[i].1.toNat = (if sn[i].2 = 1000 then -1 else sn[i].2)
      · rw [if_pos c] at hs
        rw [decide_eq_true c, Bool.true_and]
        exact (jloop_l hs).trans (ih (i + 1) (by omega))
      · rw [if_neg c] at hs
        rw [decide_eq_false c, Bool.false_and, if_neg (by decide)]
        exact jloop_r hs
  exact key sn.length 0 (by omega)
/-- what is gathered -/
def CGa (h : jH) (o0 : Nat) (L : List Nat) (g : Nat → Nat → Int) : Prop := h o0 18 = (L.length : Int) ∧ (∀ (j : Nat) (k : Nat), L[j]? = some k → h (o0 + 83) j = (k : Int)) ∧ ∀ q w, q < 16 → w < 1001 → h (o0 + 84) (1001 * q + w) = spCt (fun k => g k q) ((w : Int) - 1) L
theorem c_addL {h : jH} {r : Nat} {L : List Nat} {g : Nat → Nat → Int} {n : Nat} (hr : r ≠ o0 + 84) (ht : ∀ q, q < 16 → h r q = g n q) (hg : spTi (g n)) (hL : L.length ≤ 600) (h3 : ∀ q w, q < 16 → w < 1001 → h (o0 + 84) (1001 * q + w) = spCt (fun k => g k q) ((w : Int) - 1) L) : ∃ h', G_addArrival_L24 h o0 r 16 0 = some h' ∧ (∀ z, z ≠ o0 + 84 → h' z = h z) ∧ ∀ q w, q < 16 → w < 1001 → h' (o0 + 84) (1001 * q + w) = spCt (fun k => g k q) ((w : Int) - 1) (L ++ [n]) := by
  unfold G_addArrival_L24
  obtain ⟨⟨i, g'⟩, ⟨w1, w2, w3⟩, w4⟩ := jloop_k (f := fun s : (Int × jH) => G_addArrival_B24 s.2 o0 r 16 s.1) (fun i s => s.1 = (i : Int) ∧ (∀ z, z ≠ o0 + 84 → s.2 z = h z) ∧ ∀ q w, q < 16 → w < 1001 → s.2 (o0 + 84) (1001 * q + w) = if q < i then spCt (fun k => g k q) ((w : Int) - 1) (L ++ [n]) else spCt (fun k => g k q) ((w : Int) - 1) L) 16 (fun i s hi hp => by
    obtain ⟨x, g1⟩ := s
    obtain ⟨p1, p2, p3⟩ := hp
    dsimp only at p1 p2 p3
    subst p1
    have hti := hg i hi
    obtain ⟨a, ha⟩ : ∃ a : Nat, g n i + 1 = (a : Int) := ⟨(g n i + 1).toNat, by omega⟩
    have hc := spCt_in (g := fun k => g k i) (v := (a : Int) - 1) L
    have hcell := p3 i a hi (by omega)
    rw [if_neg (by omega)] at hcell
    obtain ⟨ad, had⟩ : ∃ ad : Nat, ad = 1001 * i + a := ⟨_, rfl⟩
    rw [← had] at hcell
    obtain ⟨nv, hnv⟩ : ∃ nv : Int, nv = spCt (fun k => g k i) ((a : Int) - 1) L + 1 := ⟨_, rfl⟩
    refine ⟨(((i + 1 : Nat) : Int), jup g1 (o0 + 84) ad nv), ?_, rfl, fun z hz => by rw [← p2 z hz]; exact jup_ne hz, fun q w hq hw => ?_⟩
    · show G_addArrival_B24 g1 o0 r 16 (i : Int) = _
      unfold G_addArrival_B24
      rw [if_pos (by omega), g_cellN hi, p2 r hr, ht i hi]
      simp only [Option.bind_some]
      have hix : wr (wr (wr ((i : Int) * 1001) + 1) + g n i) = (ad : Int) := by
        rw [pw (x := (i : Int) * 1001) (by omega) (by omega), pw (x := (i : Int) * 1001 + 1) (by omega) (by omega), pw (x := (i : Int) * 1001 + 1 + g n i) (by omega) (by omega)]
        omega
      have had2 : ad < 16016 := by omega
      have hpv : wr (spCt (fun k => g k i) ((a : Int) - 1) L + 1) = nv := by
        rw [hnv]
        exact pw (by omega) (by omega)
      have hpi : wr ((i : Int) + 1) = ((i + 1 : Nat) : Int) := by
        rw [pw (by omega) (by omega)]; rfl
      rw [hix, g_cellN had2, hcell, Option.bind_some, hpv, hpi, g_putN had2, Option.bind_some]
    · show jup g1 (o0 + 84) ad nv (o0 + 84) (1001 * q + w) = _
      rw [ju_if]
      by_cases e : q = i ∧ w = a
      · obtain ⟨rfl, rfl⟩ := e
        rw [if_pos had.symm, if_pos (Nat.lt_succ_self _), spCt_snoc, hnv]
        rw [if_pos (show g n q = (w : Int) - 1 by omega)]
      · rw [if_neg (show ¬ 1001 * q + w = ad by omega), p3 q w hq hw]
        by_cases e2 : q = i
        · subst e2
          rw [if_neg (Nat.lt_irrefl _), if_pos (Nat.lt_succ_self _), spCt_snoc, if_neg (show ¬ g n q = (w : Int) - 1 by omega), Int.add_zero]
        · by_cases e3 : q < i
          · rw [if_pos e3, if_pos (show q < i + 1 by omega)]
          · rw [if_neg e3, if_neg (show ¬ q < i + 1 by omega)]) (k := 0) (s := ((0 : Int), h)) (by decide) ⟨rfl, fun _ _ => rfl, fun q w hq hw => by rw [if_neg (by omega)]; exact h3 q w hq hw⟩
  dsimp only at w1 w2 w3
  rw [w4]
  subst w1
  refine ⟨g', jloop_r ?_, w2, fun q w hq hw => by rw [w3 q w hq hw, if_pos hq]⟩
  show G_addArrival_B24 g' o0 r 16 ((16 : Nat) : Int) = _
  unfold G_addArrival_B24
  rw [if_neg (by decide)]
  rfl
theorem c_add1 {h : jH} {r n : Nat} {L : List Nat} {g : Nat → Nat → Int} (hr : r ≠ o0 + 84 ∧ r ≠ o0 + 83 ∧ r ≠ o0) (ht : ∀ q, q < 16 → h r q = g n q) (hg : spTi (g n)) (hL : L.length < 513) (hG : CGa h o0 L g) : ∃ h', G_addArrival h o0 (n : Int) r 16 = some h' ∧ (∀ z, z ≠ o0 → z ≠ o0 + 83 → z ≠ o0 + 84 → h' z = h z) ∧ (∀ f, f ≠ 18 → h' o0 f = h o0 f) ∧ CGa h' o0 (L ++ [n]) g := by
  obtain ⟨c1, c2, c3⟩ := hG
  unfold G_addArrival
  rw [c1, g_putN hL]
  simp only [Option.bind_some]
  rw [jup_ne (by omega), c1, pw (by omega) (by omega)]
  obtain ⟨h1, hh1⟩ : ∃ h1 : jH, h1 = jup (jup h (o0 + 83) L.length (n : Int)) o0 18 ((L.length : Int) + 1) := ⟨_, rfl⟩
  rw [← hh1]
  obtain ⟨h2, e1, e2, e3⟩ := c_addL (h := h1) (L := L) (g := g) (n := n) hr.1 (fun q hq => by rw [hh1, jup_ne hr.2.2, jup_ne hr.2.1]; exact ht q hq) hg (by omega) (fun q w hq hw => by rw [hh1, jup_ne (by omega), jup_ne (by omega)]; exact c3 q w hq hw)
  refine ⟨h2, e1, fun z z1 z2 z3 => by rw [e2 z z3, hh1, jup_ne z1, jup_ne z2], fun f hf => by rw [e2 o0 (by omega), hh1, ju_ne hf, jup_ne (by omega)], ?_, fun j k hj => ?_, e3⟩
  · rw [e2 o0 (by omega), hh1, ju_eq, List.length_append]; rfl
  · rw [e2 _ (by omega), hh1, jup_ne (by omega), ju_if]
    by_cases e : j = L.length
    · rw [if_pos e]
      rw [e, List.getElem?_append_right (Nat.le_refl _), Nat.sub_self] at hj
      rw [Option.some.inj hj]
    · rw [if_neg e]
      have := (List.getElem?_eq_some_iff.mp hj).1
      rw [List.length_append] at this
      have h1 : j < L.length := by
        have h2 : ([n] : List Nat).length = 1 := rfl
        omega
      rw [List.getElem?_append_left h1] at hj
      exact c2 j k hj
/-- what gathering may change -/
def GAf (o0 : Nat) (h h' : jH) : Prop := (∀ z, z ≠ o0 → z ≠ o0 + 57 → z ≠ o0 + 58 → z ≠ o0 + 59 → (z < o0 + 79 ∨ o0 + 84 < z) → h' z = h z) ∧ ∀ f, f ≠ 18 → h' o0 f = h o0 f
theorem c_gathB {h g : jH} {s : spSt} {n k : Nat} {sn : spSn} (hd : spDim ns blk len) (hI : spInv ns blk len b s) (hs : CS h (o0 + 35) ns blk len n s) (hS : CSn h o0 sn) (hok : spSok sn) (hk : k ≤ s.2.1.1.length) (hf : GAf o0 h g) (hc : CD g (o0 + 57) ns blk len (spArrD (s.2.1.1.take k) s.1.1) (spArrC (s.2.1.1.take k) s.1.2)) (hG : CGa g o0 (spAr ns blk len sn s k) (spTbK ns blk len s)) : ∃ g', G_gatherArrived_p67 g o0 (o0 + 57) (k : Int) = some (.inl (((k + 1 : Nat) : Int), g')) ∧ GAf o0 h g' ∧ CD g' (o0 + 57) ns blk len (spArrD (s.2.1.1.take k) s.1.1) (spArrC (s.2.1.1.take k) s.1.2) ∧ CGa g' o0 (spAr ns blk len sn s (k + 1)) (spTbK ns blk len s) := by
  have hti := spTbK_ti (k := k) hI
  have hF := spInv_F hI
  have hal := spAr_len (ns := ns) (blk := blk) (len := len) (sn := sn) (s := s) k
  have hq := hs.que
  have hlen2 : s.2.1.1.length ≤ 512 := by
    obtain ⟨⟨D, C⟩, ⟨F, lf⟩, ⟨q, fl, first⟩, ⟨wt, kp⟩, ⟨tab, stab, snap, tops⟩, ⟨sg, at', ser, gr, hl, tk⟩⟩ := s
    exact hF
  have hst : (∀ j, j < 16 → h (o0 + 54) j = s.2.2.2.2.1.2.1 j) ∧ 0 ≤ s.2.2.2.2.1.2.2.1 ∧ s.2.2.2.2.1.2.2.1 ≤ 700000 ∧ spByD ns len (spArrD (s.2.1.1.take k) s.1.1) := by
    obtain ⟨⟨D, C⟩, ⟨F, lf⟩, ⟨q, fl, first⟩, ⟨wt, kp⟩, ⟨tab, stab, snap, tops⟩, ⟨sg, at', ser, gr, hl, tk⟩⟩ := s
    obtain ⟨i1, i2, i3, i4, i5, i6, i7⟩ := hI
    obtain ⟨c1, c2, c3, c4, ⟨t1, t2, t3, t4⟩, p1⟩ := hs
    exact ⟨t2, by show 0 ≤ snap; omega, by show snap ≤ 700000; omega, spArrD_by (D := D) (F.take k) D (fun e he => ⟨(i2.1 e (List.mem_of_mem_take he)).2.2.1, (i2.1 e (List.mem_of_mem_take he)).2.2.2.1⟩) i1.2.1⟩
  unfold G_gatherArrived_p67
  rw [hf.1 (o0 + 35) (by omega) (by omega) (by omega) (by omega) (by omega), hq.2.2.2.1]
  obtain ⟨g1, x1, x2, x3⟩ := c_read (rc := o0 + 79) (od := o0 + 57) (r3 := o0 + 54) (snap := s.2.2.2.2.1.2.2.1) (stab := s.2.2.2.2.1.2.1) hd hc hst.2.2.2 (by unfold nin; omega) (by omega) (fun j hj => by rw [hf.1 _ (by omega) (by omega) (by omega) (by omega) (by omega)]; exact hst.1 j hj) hst.2.1 (by omega)
  rw [x1]
  simp only [Option.bind_some]
  have htab : ∀ q, q < 16 → g1 (o0 + 81) q = spTbK ns blk len s k q := x3.1.2.1
  have hS1 : CSn g1 o0 sn := by
    obtain ⟨c1, c2, c3⟩ := hS
    have e4 : g1 (o0 + 4) = h (o0 + 4) := by rw [x2 _ (by omega), hf.1 _ (by omega) (by omega) (by omega) (by omega) (by omega)]
    refine ⟨by rw [x2 o0 (by omega), hf.2 7 (by decide)]; exact c1, c2, fun i e he => by rw [e4]; exact c3 i e he⟩
  rw [c_seen hS1 hok htab]
  simp only [Option.bind_some]
  have hf1 : GAf o0 h g1 := ⟨fun z z1 z2 z3 z4 z5 => by rw [x2 z (by omega), hf.1 z z1 z2 z3 z4 z5], fun f hf' => by rw [x2 o0 (by omega), hf.2 f hf']⟩
  have hc1 : CD g1 (o0 + 57) ns blk len (spArrD (s.2.1.1.take k) s.1.1) (spArrC (s.2.1.1.take k) s.1.2) := hc.fr (x2 _ (by omega)) (x2 _ (by omega)) (x2 _ (by omega))
  have hG1 : CGa g1 o0 (spAr ns blk len sn s k) (spTbK ns blk len s) := ⟨by rw [x2 o0 (by omega)]; exact hG.1, fun j w hj => by rw [x2 _ (by omega)]; exact hG.2.1 j w hj, fun q w hq hw => by rw [x2 _ (by omega)]; exact hG.2.2 q w hq hw⟩
  have har : spAr ns blk len sn s (k + 1) = if spFit sn (spTbK ns blk len s k) = true then spAr ns blk len sn s k ++ [k] else spAr ns blk len sn s k := rfl
  rw [har, pw (x := (k : Int) + 1) (by omega) (by omega)]
  by_cases a : spFit sn (spTbK ns blk len s k) = true
  rotate_left
  · rw [if_neg a, if_pos rfl, if_neg a]
    exact ⟨g1, rfl, hf1, hc1, hG1⟩
  rw [if_pos a, if_neg (by decide), if_pos a]
  obtain ⟨g2, y1, y2, y3, y4⟩ := c_add1 (r := o0 + 81) (n := k) (by omega) htab hti (by omega) hG1
  rw [y1]
  exact ⟨g2, rfl, ⟨fun z z1 z2 z3 z4 z5 => by rw [y2 z z1 (by omega) (by omega), hf1.1 z z1 z2 z3 z4 z5], fun f hf' => by rw [y3 f hf', hf1.2 f hf']⟩, hc1.fr (y2 _ (by omega) (by omega) (by omega)) (y2 _ (by omega) (by omega) (by omega)) (y2 _ (by omega) (by omega) (by omega)), y4⟩
theorem c_gather {h : jH} {s : spSt} {n : Nat} {sn : spSn} (hd : spDim ns blk len) (hI : spInv ns blk len b s) (hs : CS h (o0 + 35) ns blk len n s) (hS : CSn h o0 sn) (hok : spSok sn) : ∃ h', G_gatherArrived h o0 = some h' ∧ GAf o0 h h' ∧ CGa h' o0 (spArs ns blk len sn s) (spTbK ns blk len s) := by
  have hF : s.2.1.1.length ≤ 512 := hI.que.2.2.2.2.2.2.2.1
  have hFo : ∀ e ∈ s.2.1.1, e.1 < ns ∧ e.2.1 < len := by
    obtain ⟨⟨D, C⟩, ⟨F, lf⟩, ⟨q, fl, first⟩, ⟨wt, kp⟩, ⟨tab, stab, snap, tops⟩, ⟨sg, at', ser, gr, hl, tk⟩⟩ := s
    exact fun e he => ⟨(hI.2.1.1 e he).1, (hI.2.1.1 e he).2.1⟩
  have hD : CD h (o0 + 36) ns blk len s.1.1 s.1.2 := hs.que.2.2.2.2.2.2.1
  have hCF : ∀ g : jH, GAf o0 h g → CF g (o0 + 39) len s.2.1.1 := fun g hg => by
    have h0 : CF h (o0 + 39) len s.2.1.1 := by
      obtain ⟨⟨D, C⟩, ⟨F, lf⟩, ⟨q, fl, first⟩, ⟨wt, kp⟩, ⟨tab, stab, snap, tops⟩, ⟨sg, at', ser, gr, hl, tk⟩⟩ := s
      exact hs.2.1.1
    unfold CF
    rw [hg.1 _ (by omega) (by omega) (by omega) (by omega) (by omega), hg.1 _ (by omega) (by omega) (by omega) (by omega) (by omega), hg.1 _ (by omega) (by omega) (by omega) (by omega) (by omega)]
    exact h0
  unfold G_gatherArrived
  obtain ⟨g0, e1, e2, e3⟩ := c_copyD (a := o0 + 57) (c := o0 + 36) (by omega) hd hD
  rw [e1]
  simp only [Option.bind_some]
  obtain ⟨g1, hg1⟩ : ∃ g1 : jH, g1 = jfill (jup g0 o0 18 0) (o0 + 84) 16016 0 := ⟨_, rfl⟩
  rw [← hg1]
  have f1 : GAf o0 h g1 := ⟨fun z z1 z2 z3 z4 z5 => by rw [hg1, jfill_ne (by omega), jup_ne z1, e2 z z2 z3 z4], fun f hf => by rw [hg1, jfill_ne (by omega), ju_ne hf, e2 o0 (by omega) (by omega) (by omega)]⟩
  have G1 : CGa g1 o0 [] (spTbK ns blk len s) := ⟨by rw [hg1, jfill_ne (by omega), ju_eq]; rfl, fun j k hj => (by cases hj), fun q w hq hw => by rw [hg1, jfill_at (by omega)]; rfl⟩
  have c1 : CD g1 (o0 + 57) ns blk len s.1.1 s.1.2 := e3.fr (by rw [hg1, jfill_ne (by omega), jup_ne (by omega)]) (by rw [hg1, jfill_ne (by omega), jup_ne (by omega)]) (by rw [hg1, jfill_ne (by omega), jup_ne (by omega)])
  -- the first step: no byte
  obtain ⟨g2, x1, x2, x3, x4⟩ := c_gathB (k := 0) hd hI hs hS hok (Nat.zero_le _) f1 (by rw [List.take_zero]; exact c1) G1
  have hB0 : G_gatherArrived_B34 g1 o0 (o0 + 57) 0 = some (.inl (((1 : Nat) : Int), g2)) := by
    unfold G_gatherArrived_B34
    rw [(hCF g1 f1).1, if_neg (by omega), if_neg (by decide)]
    exact x1
  unfold G_gatherArrived_L34
  obtain ⟨⟨i, g3⟩, ⟨w1, w2, w3, w5⟩, w4⟩ := jloop_k (f := fun s' : (Int × jH) => G_gatherArrived_B34 s'.2 o0 (o0 + 57) s'.1) (fun i s' => s'.1 = (i : Int) ∧ GAf o0 h s'.2 ∧ CD s'.2 (o0 + 57) ns blk len (spArrD (s.2.1.1.take (i - 1)) s.1.1) (spArrC (s.2.1.1.take (i - 1)) s.1.2) ∧ 1 ≤ i ∧ CGa s'.2 o0 (spAr ns blk len sn s i) (spTbK ns blk len s)) (s.2.1.1.length + 1) (fun i s' hi hp => by
    obtain ⟨x, g⟩ := s'
    obtain ⟨p1, p2, p3, p4, p5⟩ := hp
    dsimp only at p1 p2 p3 p4 p5
    subst p1
    obtain ⟨k, rfl⟩ : ∃ k, i = k + 1 := ⟨i - 1, by omega⟩
    rw [Nat.add_sub_cancel] at p3
    obtain ⟨g', y1, y2, y3⟩ := c_arrive (of := o0 + 39) (od := o0 + 57) (i := k) (t := k + 1) hd (by omega) hFo hF (by omega) (by omega) p3 (hCF g p2)
    rw [show k + 1 - k = 1 by omega, ← spArrD_app, ← spArrC_app, ← spTake_one] at y3
    have f2 : GAf o0 h g' := ⟨fun z z1 z2 z3 z4 z5 => by rw [y2 z (by omega) (by omega), p2.1 z z1 z2 z3 z4 z5], fun f hf => by rw [y2 o0 (by omega) (by omega), p2.2 f hf]⟩
    have G2 : CGa g' o0 (spAr ns blk len sn s (k + 1)) (spTbK ns blk len s) := ⟨by rw [y2 o0 (by omega) (by omega)]; exact p5.1, fun j w hj => by rw [y2 _ (by omega) (by omega)]; exact p5.2.1 j w hj, fun q w hq hw => by rw [y2 _ (by omega) (by omega)]; exact p5.2.2 q w hq hw⟩
    obtain ⟨g'', z1, z2, z3, z4⟩ := c_gathB (k := k + 1) hd hI hs hS hok (by omega) f2 y3 G2
    refine ⟨(((k + 1 + 1 : Nat) : Int), g''), ?_, rfl, z2, by rw [Nat.add_sub_cancel]; exact z3, by omega, z4⟩
    show G_gatherArrived_B34 g o0 (o0 + 57) ((k + 1 : Nat) : Int) = _
    unfold G_gatherArrived_B34
    rw [(hCF g p2).1, if_neg (by omega), if_pos (by omega), pw (x := ((k + 1 : Nat) : Int) - 1) (by omega) (by omega), show ((k + 1 : Nat) : Int) - 1 = (k : Int) by omega, y1]
    exact z1) (k := 1) (s := (((1 : Nat) : Int), g2)) (by omega) ⟨rfl, x2, x3, Nat.le_refl _, x4⟩
  dsimp only at w1 w2 w3 w5
  subst w1
  refine ⟨g3, (jloop_l (s' := (((1 : Nat) : Int), g2)) hB0).trans (w4.trans (jloop_r ?_)), w2, w5.2⟩
  show G_gatherArrived_B34 g3 o0 (o0 + 57) ((s.2.1.1.length + 1 : Nat) : Int) = _
  unfold G_gatherArrived_B34
  rw [(hCF g3 w2).1, if_pos (by omega)]
  rfl
end ARC
