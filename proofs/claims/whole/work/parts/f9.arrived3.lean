/-! what had arrived, what tells: the reference -/
theorem spMxL_in {f : Nat → Int} : ∀ n, (∀ i, i < n → f i ≤ spMxL f n) ∧ (spMxL f n = 0 ∨ ∃ i, i < n ∧ f i = spMxL f n) ∧ 0 ≤ spMxL f n := by
  intro n
  induction n with
  | zero => exact ⟨fun i hi => absurd hi (by omega), Or.inl rfl, Int.le_refl _⟩
  | succ n ih =>
    obtain ⟨i1, i2, i3⟩ := ih
    unfold spMxL
    refine ⟨fun i hi => ?_, ?_, by omega⟩
    · rcases Nat.lt_or_ge i n with a | a
      · have := i1 i a; omega
      · have : i = n := by omega
        subst this; omega
    · by_cases a : spMxL f n ≤ f n
      · exact Or.inr ⟨n, by omega, by omega⟩
      · rcases i2 with e | ⟨i, h1, h2⟩
        · exact Or.inl (by omega)
        · exact Or.inr ⟨i, by omega, by omega⟩
/-- the greatest of the counts -/
def spIsM (g : Nat → Int) (L : List Nat) (M : Int) : Prop := (∀ x : Int, -1 ≤ x → x < 1000 → spCt g x L ≤ M) ∧ (M = 0 ∨ ∃ x : Int, -1 ≤ x ∧ x < 1000 ∧ spCt g x L = M) ∧ 0 ≤ M
theorem spIsM_eq {g : Nat → Int} {L : List Nat} {M N : Int} (a : spIsM g L M) (b : spIsM g L N) : M = N := by
  obtain ⟨a1, a2, a3⟩ := a
  obtain ⟨b1, b2, b3⟩ := b
  have h1 : M ≤ N := by
    rcases a2 with e | ⟨x, x1, x2, x3⟩
    · omega
    · have := b1 x x1 x2; omega
  have h2 : N ≤ M := by
    rcases b2 with e | ⟨x, x1, x2, x3⟩
    · omega
    · have := a1 x x1 x2; omega
  omega
theorem spMst_isM {ns blk len : Nat} {s : spSt} {L : List Nat} {key : Nat} : spIsM (fun k => spTbK ns blk len s k key) L (spMst ns blk len s L key) := by
  obtain ⟨h1, h2, h3⟩ := spMxL_in (f := fun w => spCt (fun k => spTbK ns blk len s k key) ((w : Int) - 1) L) 1001
  refine ⟨fun x x1 x2 => ?_, ?_, h3⟩
  · have := h1 (x + 1).toNat (by omega)
    rw [show (((x + 1).toNat : Nat) : Int) - 1 = x by omega] at this
    exact this
  · rcases h2 with e | ⟨i, i1, i2⟩
    · exact Or.inl e
    · exact Or.inr ⟨(i : Int) - 1, by omega, by omega, i2⟩
theorem spIsM_add {g : Nat → Int} {L : List Nat} {M : Int} {k : Nat} (hg : -1 ≤ g k ∧ g k < 1000) (h : spIsM g L M) : spIsM g (L ++ [k]) (if M < spCt g (g k) L + 1 then spCt g (g k) L + 1 else M) := by
  obtain ⟨h1, h2, h3⟩ := h
  have hx := h1 (g k) hg.1 hg.2
  refine ⟨fun x x1 x2 => ?_, ?_, ?_⟩
  · rw [spCt_snoc]
    have := h1 x x1 x2
    by_cases e : g k = x
    · rw [if_pos e, ← e]; split <;> omega
    · rw [if_neg e]; split <;> omega
  · by_cases c : M < spCt g (g k) L + 1
    · rw [if_pos c]
      exact Or.inr ⟨g k, hg.1, hg.2, by rw [spCt_snoc, if_pos rfl]⟩
    · rw [if_neg c]
      rcases h2 with e | ⟨x, x1, x2, x3⟩
      · have := (spCt_in (g := g) (v := g k) L).1; omega
      · refine Or.inr ⟨x, x1, x2, ?_⟩
        rw [spCt_snoc]
        by_cases e : g k = x
        · rw [← e] at x3; omega
        · rw [if_neg e]; omega
  · split <;> omega
def spCode (x : Int) : Int := if x = -1 then 1000 else x
theorem spCode_in {x : Int} (h : -1 ≤ x ∧ x < 1000) : 0 ≤ spCode x ∧ spCode x ≤ 1000 := by unfold spCode; split <;> omega
theorem spCode_inj {x y : Int} (hx : -1 ≤ x ∧ x < 1000) (hy : -1 ≤ y ∧ y < 1000) : spCode x = spCode y ↔ x = y := by unfold spCode; split <;> split <;> omega
section ARM
variable {ns blk len : Nat} {p : spPl} {X : spX} {b : Int}
theorem m_seen {h : jH} {o k : Nat} {sn : spSn} {tab : Nat → Int} (hk : k < 513) (hS : MSn h o sn) (hok : spSok sn) (hti : spTi tab) (ht : ∀ q, q < 16 → h (o + 40) (16 * k + q) = spCode (tab q)) : M_isAsSeen h o (k : Int) = some (if spFit sn tab = true then 1 else 0) := by
  obtain ⟨c1, c2, c3⟩ := hS
  have step : ∀ i (hi : i < sn.length), M_isAsSeen_B2 h o (k : Int) (i : Int) = if tab sn[i].1.toNat = (if sn[i].2 = 1000 then -1 else sn[i].2) then some (.inl ((i + 1 : Nat) : Int)) else some (.inr 0) := by
    intro i hi
    obtain ⟨d1, d2⟩ := c3 i _ (List.getElem?_eq_getElem hi)
    have hk2 := hok _ (List.getElem_mem hi)
    obtain ⟨kk, hkk⟩ : ∃ kk : Nat, sn[i].1 = (kk : Int) := ⟨sn[i].1.toNat, by omega⟩
    have h16 : 16 * k + kk < 8208 := by omega
    unfold M_isAsSeen_B2
    rw [c1, if_pos (by omega), pw (x := 2 * (i : Int)) (by omega) (by omega), if_pos (by omega), show (2 * (i : Int)).toNat = 2 * i by omega, d1, hkk, pw (x := 16 * (k : Int)) (by omega) (by omega), pw (x := 16 * (k : Int) + (kk : Int)) (by omega) (by omega), if_pos (by omega), show (16 * (k : Int) + (kk : Int)).toNat = 16 * k + kk by omega, pw (x := 2 * (i : Int) + 1) (by omega) (by omega), if_pos (by omega), show (2 * (i : Int) + 1).toNat = 2 * i + 1 by omega, d2, ht kk (by omega), Int.toNat_natCast, pw (x := (i : Int) + 1) (by omega) (by omega)]
    have htk := hti kk (by omega)
    have hiff : spCode (tab kk) = sn[i].2 ↔ tab kk = (if sn[i].2 = 1000 then -1 else sn[i].2) := by
      unfold spCode
      split <;> split <;> omega
    by_cases w : spCode (tab kk) = sn[i].2
    · rw [if_pos w, if_pos (hiff.mp w)]; rfl
    · rw [if_neg w, if_neg (fun e => w (hiff.mpr e))]; rfl
  have key : ∀ m i, i + m = sn.length → M_isAsSeen_L2 h o (k : Int) (i : Int) = some (if spFit (sn.drop i) tab = true then 1 else 0) := by
    unfold M_isAsSeen_L2
    intro m
    induction m with
    | zero =>
      intro i hi
      rw [List.drop_of_length_le (by omega)]
      refine jloop_r ?_
      unfold M_isAsSeen_B2
      rw [c1, if_neg (by omega)]
      rfl
    | succ m ih =>
      intro i hi
      have hi2 : i < sn.length := by omega
      rw [List.drop_eq_getElem_cons hi2]
      have hs := step i hi2
      have hf : spFit (sn[i] :: sn.drop (i + 1)) tab = (decide (tab sn[i].1.toNat = if sn[i].2 = 1000 then -1 else sn[i].2) && spFit (sn.drop (i + 1)) tab) := rfl
      rw [hf]
      by_cases c : tab sn[i].1.toNat = (if sn[i].2 = 1000 then -1 else sn[i].2)
      · rw [if_pos c] at hs
        rw [decide_eq_true c, Bool.true_and]
        exact (jloop_l hs).trans (ih (i + 1) (by omega))
      · rw [if_neg c] at hs
        rw [decide_eq_false c, Bool.false_and, if_neg (by decide)]
        exact jloop_r hs
  exact key sn.length 0 (by omega)
/-- what the reference lays down -/
def MGa (h : jH) (o n : Nat) (L : List Nat) (g : Nat → Nat → Int) (fit : Nat → Bool) : Prop := h o 69 = (L.length : Int) ∧ (∀ k, k < n → h (o + 39) k = if fit k = true then 1 else 0) ∧ ∀ k q, k < n → q < 16 → h (o + 40) (16 * k + q) = spCode (g k q)
/-- what laying arrivals may change -/
def LAf (o : Nat) (h h' : jH) : Prop := (∀ z, z ≠ o → z ≠ o + 33 → z ≠ o + 36 → z ≠ o + 37 → z ≠ o + 39 → z ≠ o + 40 → z ≠ o + 41 → h' z = h z) ∧ ∀ f, f ≠ 56 → f ≠ 69 → (f < 59 ∨ 65 < f) → h' o f = h o f
theorem LAf.rf {o : Nat} {h : jH} : LAf o h h := ⟨fun _ _ _ _ _ _ _ _ => rfl, fun _ _ _ _ => rfl⟩
theorem LAf.tr {o : Nat} {h h1 h2 : jH} (a : LAf o h h1) (b : LAf o h1 h2) : LAf o h h2 := ⟨fun z x1 x2 x3 x4 x5 x6 x7 => (b.1 z x1 x2 x3 x4 x5 x6 x7).trans (a.1 z x1 x2 x3 x4 x5 x6 x7), fun f x1 x2 x3 => (b.2 f x1 x2 x3).trans (a.2 f x1 x2 x3)⟩
theorem spCra_tb {s : spSt} {k : Nat} : (spCra ns blk len k s).2.2.2.2.1.1 = spTbK ns blk len s k := by
  obtain ⟨⟨D, C⟩, ⟨F, lf⟩, ⟨q, fl, first⟩, ⟨wt, kp⟩, ⟨tab, stab, snap, tops⟩, ⟨sg, at', ser, gr, hl, tk⟩⟩ := s
  rfl
theorem m_la30 {g : jH} {o k : Nat} {tab : Nat → Int} {v1 : Int} (hk : k < 513) (ht : ∀ q, q < 16 → g (o + 33) (144 + q) = tab q) : ∃ g', (M_laysArrived_L30 g o v1 (k : Int) 0 = jloop (fun s : (Int × jH) => M_laysArrived_B30 s.2 o v1 (k : Int) s.1) (((16 : Nat) : Int), g')) ∧ (∀ z, z ≠ o + 40 → g' z = g z) ∧ (∀ q, q < 16 → g' (o + 40) (16 * k + q) = spCode (tab q)) ∧ ∀ i, i < 16 * k → g' (o + 40) i = g (o + 40) i := by
  unfold M_laysArrived_L30
  obtain ⟨⟨i, g'⟩, ⟨w1, w2, w3, w5⟩, w4⟩ := jloop_k (f := fun s : (Int × jH) => M_laysArrived_B30 s.2 o v1 (k : Int) s.1) (fun i s => s.1 = (i : Int) ∧ (∀ z, z ≠ o + 40 → s.2 z = g z) ∧ (∀ q, q < i → s.2 (o + 40) (16 * k + q) = spCode (tab q)) ∧ ∀ i, i < 16 * k → s.2 (o + 40) i = g (o + 40) i) 16 (fun i s hi hp => by
    obtain ⟨x, g1⟩ := s
    obtain ⟨p1, p2, p3, p4⟩ := hp
    dsimp only at p1 p2 p3 p4
    subst p1
    obtain ⟨ad, had⟩ : ∃ ad : Nat, ad = 16 * k + i := ⟨_, rfl⟩
    have had2 : ad < 8208 := by omega
    have hix : wr (wr (16 * (k : Int)) + (i : Int)) = (ad : Int) := by
      rw [pw (x := 16 * (k : Int)) (by omega) (by omega), pw (x := 16 * (k : Int) + (i : Int)) (by omega) (by omega)]
      omega
    have hpi : wr ((i : Int) + 1) = ((i + 1 : Nat) : Int) := by
      rw [pw (by omega) (by omega)]; rfl
    refine ⟨(((i + 1 : Nat) : Int), jup g1 (o + 40) ad (spCode (tab i))), ?_, rfl, fun z hz => by rw [← p2 z hz]; exact jup_ne hz, fun q hq => ?_, fun j hj => by rw [← p4 j hj]; exact ju_ne (by omega)⟩
    · show M_laysArrived_B30 g1 o v1 (k : Int) (i : Int) = _
      unfold M_laysArrived_B30
      rw [if_pos (by omega), pw (x := 144 + (i : Int)) (by omega) (by omega), if_pos (by omega), show (144 + (i : Int)).toNat = 144 + i by omega, p2 _ (by omega), ht i hi, hix, hpi, Int.toNat_natCast]
      unfold spCode
      by_cases c : tab i = -1
      · rw [if_pos c, if_pos (by omega), if_pos c]
      · rw [if_neg c, if_pos (by omega), if_pos (by omega), if_neg c]
    · show jup g1 (o + 40) ad _ (o + 40) (16 * k + q) = _
      rw [ju_if]
      by_cases e : q = i
      · rw [if_pos (by omega), e]
      · rw [if_neg (by omega)]; exact p3 q (by omega)) (k := 0) (s := ((0 : Int), g)) (by decide) ⟨rfl, fun _ _ => rfl, fun q hq => absurd hq (by omega), fun _ _ => rfl⟩
  dsimp only at w1 w2 w3 w5
  subst w1
  exact ⟨g', w4, w2, w3, w5⟩
theorem m_laB {h g : jH} {o k : Nat} {s : spSt} {sn : spSn} (hs : MS h o ns blk len s.2.2.2.1.2 s) (hI : spInv ns blk len b s) (hS : MSn h o sn) (hok : spSok sn) (hk : k ≤ s.2.1.1.length) (hf : LAf o h g) (t : RT h g o ns blk len s s) (hG : MGa g o k (spAr ns blk len sn s k) (spTbK ns blk len s) (fun j => spFit sn (spTbK ns blk len s j))) : ∃ g', M_laysArrived_B18 g o (s.2.1.1.length : Int) (k : Int) = some (.inl (((k + 1 : Nat) : Int), g')) ∧ LAf o h g' ∧ RT h g' o ns blk len s s ∧ MGa g' o (k + 1) (spAr ns blk len sn s (k + 1)) (spTbK ns blk len s) (fun j => spFit sn (spTbK ns blk len s j)) := by
  have hF : s.2.1.1.length ≤ 512 := hI.que.2.2.2.2.2.2.2.1
  have hti := spTbK_ti (k := k) hI
  have hal := spAr_len (ns := ns) (blk := blk) (len := len) (sn := sn) (s := s) k
  obtain ⟨G1, G2, G3⟩ := hG
  unfold M_laysArrived_B18
  rw [if_neg (by omega)]
  obtain ⟨g1, x1, x2, x3, x4⟩ := t.crash (k := k) hI hk
  rw [x1, Option.bind_some]
  have htab : ∀ q, q < 16 → g1 (o + 33) (144 + q) = spTbK ns blk len s k q := fun q hq => by rw [x4.2.1.pla.2.2 q hq, spCra_tb]
  obtain ⟨g2, y1, y2, y3, y4⟩ := m_la30 (g := g1) (v1 := (s.2.1.1.length : Int)) (k := k) (by omega) htab
  rw [y1]
  have hS2 : MSn g2 o sn := by
    obtain ⟨c1, c2, c3⟩ := hS
    refine ⟨by rw [y2 o (by omega), x3 66 (by omega), hf.2 66 (by decide) (by decide) (by omega)]; exact c1, c2, fun i e he => ?_⟩
    rw [y2 _ (by omega), x2 _ (by omega) (by omega) (by omega), hf.1 _ (by omega) (by omega) (by omega) (by omega) (by omega) (by omega) (by omega)]
    exact c3 i e he
  have hseen := m_seen (k := k) (by omega) hS2 hok hti y3
  obtain ⟨fv, hfv⟩ : ∃ fv : Int, fv = if spFit sn (spTbK ns blk len s k) = true then 1 else 0 := ⟨_, rfl⟩
  rw [← hfv] at hseen
  have hfv01 : fv = 0 ∨ fv = 1 := by rw [hfv]; split <;> simp
  obtain ⟨g3, hg3⟩ : ∃ g3 : jH, g3 = jup g2 (o + 39) k fv := ⟨_, rfl⟩
  have h69 : g3 o 69 = ((spAr ns blk len sn s k).length : Int) := by rw [hg3, jup_ne (by omega), y2 o (by omega), x3 69 (by omega)]; exact G1
  obtain ⟨g4, hg4⟩ : ∃ g4 : jH, g4 = if fv = 0 then g3 else jup g3 o 69 (((spAr ns blk len sn s k).length : Int) + 1) := ⟨_, rfl⟩
  have g4o : ∀ z, z ≠ o → g4 z = g3 z := fun z hz => by rw [hg4]; split; rfl; exact jup_ne hz
  have g4f : ∀ f, f ≠ 69 → g4 o f = g3 o f := fun f hf' => by rw [hg4]; split; rfl; exact ju_ne hf'
  have t4 : RT h g4 o ns blk len s (spCra ns blk len k s) := by
    obtain ⟨t1, t2, t3⟩ := x4
    have ee : ∀ z, z ≠ o → z ≠ o + 39 → z ≠ o + 40 → g4 z = g1 z := fun z z1 z2 z3 => by rw [g4o z z1, hg3, jup_ne z2, y2 z z3]
    exact ⟨fun i hi => by rw [ee _ (by omega) (by omega) (by omega)]; exact t1 i hi, t2.eq (ee _ (by omega) (by omega) (by omega)) (ee _ (by omega) (by omega) (by omega)), by rw [ee _ (by omega) (by omega) (by omega)]; exact t3⟩
  obtain ⟨g5, z1, z2, z3⟩ := t4.anew hs hI
  have hpk : wr ((k : Int) + 1) = ((k + 1 : Nat) : Int) := by rw [pw (by omega) (by omega)]; rfl
  have hend : jloop (fun s' : (Int × jH) => M_laysArrived_B30 s'.2 o (s.2.1.1.length : Int) (k : Int) s'.1) (((16 : Nat) : Int), g2) = some (.inl (((k + 1 : Nat) : Int), g5)) := by
    refine jloop_r ?_
    show M_laysArrived_B30 g2 o (s.2.1.1.length : Int) (k : Int) ((16 : Nat) : Int) = _
    unfold M_laysArrived_B30 M_laysArrived_p113
    rw [if_neg (by decide), hseen, Option.bind_some, if_pos hfv01, if_pos (by omega), if_pos (by omega), Int.toNat_natCast, ← hg3, hpk]
    rw [show g3 (o + 39) k = fv by rw [hg3, ju_eq], h69, pw (x := ((spAr ns blk len sn s k).length : Int) + 1) (by omega) (by omega)]
    by_cases c : fv = 0
    · rw [if_pos c]
      rw [if_pos c] at hg4
      rw [← hg4, z1]
      rfl
    · rw [if_neg c]
      rw [if_neg c] at hg4
      rw [← hg4, z1]
      rfl
  have e5 : ∀ z, z ≠ o → z ≠ o + 33 → z ≠ o + 37 → z ≠ o + 39 → z ≠ o + 40 → g5 z = g z := fun z a1 a2 a3 a4 a5 => by rw [z2 z a2, g4o z a1, hg3, jup_ne a4, y2 z a5, x2 z a1 a2 a3]
  have e5f : ∀ f, f ≠ 69 → (f < 59 ∨ 65 < f) → g5 o f = g o f := fun f f1 f2 => by rw [z2 o (by omega), g4f f f1, hg3, jup_ne (by omega), y2 o (by omega), x3 f f2]
  have e39 : ∀ j, g5 (o + 39) j = g3 (o + 39) j := fun j => by rw [z2 _ (by omega), g4o _ (by omega)]
  have e40 : ∀ j, g5 (o + 40) j = g2 (o + 40) j := fun j => by rw [z2 _ (by omega), g4o _ (by omega), hg3, jup_ne (by omega)]
  refine ⟨g5, hend, ⟨fun z a1 a2 a3 a4 a5 a6 a7 => by rw [e5 z a1 a2 a4 a5 a6, hf.1 z a1 a2 a3 a4 a5 a6 a7], fun f f1 f2 f3 => by rw [e5f f f2 f3, hf.2 f f1 f2 f3]⟩, z3, ?_, fun j hj => ?_, fun j q hj hq => ?_⟩
  · rw [z2 o (by omega), hg4]
    have har : spAr ns blk len sn s (k + 1) = if spFit sn (spTbK ns blk len s k) = true then spAr ns blk len sn s k ++ [k] else spAr ns blk len sn s k := rfl
    rw [har]
    by_cases c : spFit sn (spTbK ns blk len s k) = true
    · rw [if_pos c] at hfv
      rw [if_neg (by omega), ju_eq, if_pos c, List.length_append]
      rfl
    · rw [if_neg c] at hfv
      rw [if_pos hfv, if_neg c, h69]
  · rw [e39, hg3, ju_if]
    by_cases e : j = k
    · rw [if_pos e, e, hfv]
    · rw [if_neg e, y2 _ (by omega), x2 _ (by omega) (by omega) (by omega)]
      exact G2 j (by omega)
  · rw [e40]
    by_cases e : j = k
    · rw [e]; exact y3 q hq
    · rw [y4 _ (by omega), x2 _ (by omega) (by omega) (by omega)]
      exact G3 j q (by omega) hq
theorem m_lays {h : jH} {o : Nat} {sn : spSn} (hS : MSn h o sn) (hok : spSok sn) (hk : spXk ns blk len b X) (r : RM h o ns blk len p X) : ∃ h', M_laysArrived h o = some h' ∧ LAf o h h' ∧ RM h' o ns blk len p X ∧ MGa h' o (X.1.2.1.1.length + 1) (spArs ns blk len sn X.1) (spTbK ns blk len X.1) (fun j => spFit sn (spTbK ns blk len X.1 j)) := by
  have hF : X.1.2.1.1.length ≤ 512 := hk.1.1.que.2.2.2.2.2.2.2.1
  obtain ⟨m, q1, q2, q3, q4, q5, q6⟩ := r.2
  have h4 := q6.que.2.2.2.2.2.1
  unfold M_laysArrived
  rw [if_pos (by decide), show ((4 : Int)).toNat = 4 from rfl, h4]
  obtain ⟨h0, hh0⟩ : ∃ h0 : jH, h0 = jup h o 69 0 := ⟨_, rfl⟩
  rw [← hh0]
  have l0 : LAf o h h0 := ⟨fun z z1 _ _ _ _ _ _ => by rw [hh0, jup_ne z1], fun f _ f2 _ => by rw [hh0, ju_ne f2]⟩
  have r0 : RM h0 o ns blk len p X := r.off (fun z hz => by rw [hh0, jup_ne (by omega)]) (fun f hf => by rw [hh0, ju_ne (by omega)])
  obtain ⟨m0, Q1, Q2, Q3, Q4, Q5, Q6⟩ := r0.2
  obtain ⟨g, e1, e2, e3, e4, e5⟩ := r0.aside
  rw [e1, Option.bind_some]
  have S0 : MSn h0 o sn := by
    obtain ⟨c1, c2, c3⟩ := hS
    exact ⟨by rw [hh0, ju_ne (by decide)]; exact c1, c2, fun i e he => by rw [hh0, jup_ne (by omega)]; exact c3 i e he⟩
  have f0 : LAf o h0 g := ⟨fun z z1 _ z3 _ _ _ _ => e2 z z1 z3, fun f f1 _ _ => e3 f f1⟩
  have G0 : MGa g o 0 [] (spTbK ns blk len X.1) (fun j => spFit sn (spTbK ns blk len X.1 j)) := ⟨by rw [e3 69 (by decide), hh0, ju_eq]; rfl, fun k hk => absurd hk (by omega), fun k q hk => absurd hk (by omega)⟩
  unfold M_laysArrived_L18
  obtain ⟨⟨i, g1⟩, ⟨w1, w2, w3, w5⟩, w4⟩ := jloop_k (f := fun s' : (Int × jH) => M_laysArrived_B18 s'.2 o (X.1.2.1.1.length : Int) s'.1) (fun i s' => s'.1 = (i : Int) ∧ LAf o h0 s'.2 ∧ RT h0 s'.2 o ns blk len X.1 X.1 ∧ MGa s'.2 o i (spAr ns blk len sn X.1 i) (spTbK ns blk len X.1) (fun j => spFit sn (spTbK ns blk len X.1 j))) (X.1.2.1.1.length + 1) (fun i s' hi hp => by
    obtain ⟨x, g'⟩ := s'
    obtain ⟨p1, p2, p3, p4⟩ := hp
    dsimp only at p1 p2 p3 p4
    subst p1
    obtain ⟨g2, x1, x2, x3, x4⟩ := m_laB (k := i) Q6 hk.1.1 S0 hok (by omega) p2 p3 p4
    exact ⟨_, x1, rfl, x2, x3, x4⟩) (k := 0) (s := ((0 : Int), g)) (by omega) ⟨rfl, f0, e5, G0⟩
  dsimp only at w1 w2 w3 w5
  rw [w4]
  subst w1
  obtain ⟨g3, y1, y2, y3, y4, y5⟩ := w3.back Q6 hk.1.1
  have ez : ∀ z, z ≠ o → z ≠ o + 33 → z ≠ o + 36 → z ≠ o + 37 → z ≠ o + 39 → z ≠ o + 40 → z ≠ o + 41 → g3 z = h z := fun z z1 z2 z3 z4 z5 z6 z7 => by rw [y2 z z1 z2, w2.1 z z1 z2 z3 z4 z5 z6 z7, hh0, jup_ne z1]
  have ef : ∀ f, f ≠ 56 → f ≠ 69 → (f < 59 ∨ 65 < f) → g3 o f = h o f := fun f f1 f2 f3 => by rw [y3 f f1, w2.2 f f1 f2 f3, hh0, ju_ne f2]
  refine ⟨g3, jloop_r ?_, ⟨ez, ef⟩, r.same (fun z hz => ez z (by omega) (by omega) (by omega) (by omega) (by omega) (by omega) (by omega)) (fun f hf => ef f (by omega) (by omega) (by omega)) (by rw [ef 52 (by decide) (by decide) (by omega)]; exact r.1.2.1) y4 (by rw [ef 53 (by decide) (by decide) (by omega)]; exact r.1.2.2.2.1) ?_, by rw [y3 69 (by decide)]; exact w5.1, fun k hk' => by rw [y2 _ (by omega) (by omega)]; exact w5.2.1 k hk', fun k q hk' hq => by rw [y2 _ (by omega) (by omega)]; exact w5.2.2 k q hk' hq⟩
  · show M_laysArrived_B18 g1 o (X.1.2.1.1.length : Int) ((X.1.2.1.1.length + 1 : Nat) : Int) = _
    unfold M_laysArrived_B18
    rw [if_pos (by omega), y1]
    rfl
  · exact y5
theorem m_arrL2 {h : jH} {o n c : Nat} {k : Int} {ns blk len : Nat} {sn : spSn} {s : spSt} (h4 : h (o + 33) 4 = ((n - 1 : Nat) : Int)) (hn : 1 ≤ n ∧ n ≤ 513) (hG : ∀ k, k < n → h (o + 39) k = if spFit sn (spTbK ns blk len s k) = true then 1 else 0) (hk : 0 ≤ k) : ∀ m i, i + m = n → ((spAr ns blk len sn s i).length : Int) ≤ k → M_arrived_L32 h o k ((spAr ns blk len sn s i).length : Int) (i : Int) = some (if k < ((spAr ns blk len sn s n).length : Int) then ((spAr ns blk len sn s n).getD k.toNat 0 : Int) else -1, h) := by
  have grow : ∀ m i, ∃ l, spAr ns blk len sn s (i + m) = spAr ns blk len sn s i ++ l := by
    intro m
    induction m with
    | zero => intro i; exact ⟨[], by rw [List.append_nil]; rfl⟩
    | succ m ih =>
      intro i
      obtain ⟨l, hl⟩ := ih i
      have e : spAr ns blk len sn s (i + (m + 1)) = if spFit sn (spTbK ns blk len s (i + m)) = true then spAr ns blk len sn s (i + m) ++ [i + m] else spAr ns blk len sn s (i + m) := rfl
      rw [e, hl]
      split
      · exact ⟨l ++ [i + m], by rw [List.append_assoc]⟩
      · exact ⟨l, rfl⟩
  unfold M_arrived_L32
  intro m
  induction m with
  | zero =>
    intro i hi hl
    have : i = n := by omega
    subst this
    refine jloop_r ?_
    show M_arrived_B32 h o k _ (i : Int) = _
    unfold M_arrived_B32
    rw [if_pos (by decide), show ((4 : Int)).toNat = 4 from rfl, h4, if_pos (by omega), if_neg (by omega)]
    rfl
  | succ m ih =>
    intro i hi hl
    have hin : i < n := by omega
    have hli := spAr_len (ns := ns) (blk := blk) (len := len) (sn := sn) (s := s) i
    have e : spAr ns blk len sn s (i + 1) = if spFit sn (spTbK ns blk len s i) = true then spAr ns blk len sn s i ++ [i] else spAr ns blk len sn s i := rfl
    have hB : ∀ v, M_arrived_B32 h o k v (i : Int) = if spFit sn (spTbK ns blk len s i) = true then (if v = k then some (.inr ((i : Int), h)) else some (.inl (wr (v + 1), ((i + 1 : Nat) : Int)))) else some (.inl (v, ((i + 1 : Nat) : Int))) := by
      intro v
      unfold M_arrived_B32
      rw [if_pos (by decide), show ((4 : Int)).toNat = 4 from rfl, h4, if_neg (by omega), if_pos (by omega), Int.toNat_natCast, hG i hin, pw (x := (i : Int) + 1) (by omega) (by omega)]
      by_cases c : spFit sn (spTbK ns blk len s i) = true
      · rw [if_pos c, if_neg (by decide), if_pos c]
        rfl
      · rw [if_neg c, if_pos rfl, if_neg c]
        rfl
    by_cases c : spFit sn (spTbK ns blk len s i) = true
    rotate_left
    · rw [if_neg c] at e
      refine (jloop_l (s' := (((spAr ns blk len sn s i).length : Int), ((i + 1 : Nat) : Int))) ?_).trans ?_
      · show M_arrived_B32 h o k ((spAr ns blk len sn s i).length : Int) (i : Int) = _
        rw [hB, if_neg c]
      · have := ih (i + 1) (by omega) (by rw [e]; exact hl)
        rw [e] at this
        exact this
    rw [if_pos c] at e
    by_cases c2 : ((spAr ns blk len sn s i).length : Int) = k
    · obtain ⟨l, hl2⟩ := grow (n - (i + 1)) (i + 1)
      rw [show i + 1 + (n - (i + 1)) = n by omega, e] at hl2
      have hk' : k.toNat = (spAr ns blk len sn s i).length := by omega
      have hlen : (spAr ns blk len sn s n).length = (spAr ns blk len sn s i).length + 1 + l.length := by
        rw [hl2, List.length_append, List.length_append]; rfl
      have hget : (spAr ns blk len sn s n).getD k.toNat 0 = i := by
        rw [hl2, hk', List.getD_eq_getElem?_getD, List.append_assoc, List.getElem?_append_right (Nat.le_refl _), Nat.sub_self]
        rfl
      rw [if_pos (by omega), hget]
      refine jloop_r ?_
      show M_arrived_B32 h o k ((spAr ns blk len sn s i).length : Int) (i : Int) = _
      rw [hB, if_pos c, if_pos c2]
    · refine (jloop_l (s' := (((spAr ns blk len sn s (i + 1)).length : Int), ((i + 1 : Nat) : Int))) ?_).trans (ih (i + 1) (by omega) ?_)
      · show M_arrived_B32 h o k ((spAr ns blk len sn s i).length : Int) (i : Int) = _
        rw [hB, if_pos c, if_neg c2, e, List.length_append, pw (by omega) (by omega)]
        rfl
      · rw [e, List.length_append]
        show (((spAr ns blk len sn s i).length + 1 : Nat) : Int) ≤ k
        omega
theorem RM.arrived {h : jH} {o : Nat} {k : Int} {sn : spSn} (hS : MSn h o sn) (hok : spSok sn) (hk : spXk ns blk len b X) (r : RM h o ns blk len p X) : ∃ h', M_arrived h o k = some (spDArrived ns blk len sn k X, h') ∧ LAf o h h' ∧ RM h' o ns blk len p X := by
  have hF : X.1.2.1.1.length ≤ 512 := hk.1.1.que.2.2.2.2.2.2.2.1
  unfold M_arrived spDArrived
  rw [if_neg r.told]
  by_cases a : k < -1
  · rw [if_pos a, if_neg (by omega), if_neg (by omega)]
    exact ⟨h, rfl, LAf.rf, r⟩
  rw [if_neg a]
  obtain ⟨g, e1, e2, e3, e4, e5, e6⟩ := m_lays hS hok hk r
  rw [e1, Option.bind_some, e4]
  refine ⟨g, ?_, e2, e3⟩
  by_cases a1 : k = -1
  · rw [if_pos a1, if_pos a1]
  rw [if_neg a1, if_neg a1]
  obtain ⟨m, q1, q2, q3, q4, q5, q6⟩ := e3.2
  have h4 := q6.que.2.2.2.2.2.1
  have h1 := m_arrL2 (c := 0) (k := k) (h := g) (o := o) (n := X.1.2.1.1.length + 1) (ns := ns) (blk := blk) (len := len) (sn := sn) (s := X.1) (by rw [h4]; congr 1) (by omega) e5 (by omega) (X.1.2.1.1.length + 1) 0 (by omega) (by show ((0 : Nat) : Int) ≤ k; omega)
  rw [show M_arrived_L32 g o k 0 0 = _ from h1]
  by_cases c : k < ((spArs ns blk len sn X.1).length : Int)
  · exact congrArg (fun z : Int => some (z, g)) ((if_pos c).trans (if_pos (show 0 ≤ k ∧ k < ((spArs ns blk len sn X.1).length : Int) from ⟨by omega, c⟩)).symm)
  · exact congrArg (fun z : Int => some (z, g)) ((if_neg c).trans (if_neg (show ¬ (0 ≤ k ∧ k < ((spArs ns blk len sn X.1).length : Int)) from fun e => c e.2)).symm)
theorem m_mostL {h : jH} {o q : Nat} {s : spSt} {sn : spSn} (hI : spInv ns blk len b s) (h4 : h (o + 33) 4 = (s.2.1.1.length : Int)) (hq : q < 16) (hG : MGa h o (s.2.1.1.length + 1) (spArs ns blk len sn s) (spTbK ns blk len s) (fun j => spFit sn (spTbK ns blk len s j))) : ∃ h', M_mostAlike h o (q : Int) = some (spMst ns blk len s (spArs ns blk len sn s) q, h') ∧ ∀ z, z ≠ o + 41 → h' z = h z := by
  have hF : s.2.1.1.length ≤ 512 := hI.que.2.2.2.2.2.2.2.1
  obtain ⟨G1, G2, G3⟩ := hG
  unfold M_mostAlike M_mostAlike_L4
  obtain ⟨⟨i, g⟩, ⟨w1, w2, w3⟩, w4⟩ := jloop_k (f := fun s' : (Int × jH) => M_mostAlike_B4 s'.2 o (q : Int) 0 s'.1) (fun i s' => s'.1 = (i : Int) ∧ (∀ z, z ≠ o + 41 → s'.2 z = h z) ∧ ∀ j, j < i → s'.2 (o + 41) j = 0) 1001 (fun i s' hi hp => by
    obtain ⟨x, g'⟩ := s'
    obtain ⟨p1, p2, p3⟩ := hp
    dsimp only at p1 p2 p3
    subst p1
    refine ⟨(((i + 1 : Nat) : Int), jup g' (o + 41) i 0), ?_, rfl, fun z hz => by rw [← p2 z hz]; exact jup_ne hz, fun j hj => ?_⟩
    · show M_mostAlike_B4 g' o (q : Int) 0 (i : Int) = _
      unfold M_mostAlike_B4
      rw [if_neg (by omega), if_pos (by omega), Int.toNat_natCast, pw (by omega) (by omega)]
      rfl
    · show jup g' (o + 41) i 0 (o + 41) j = 0
      rw [ju_if]
      by_cases e : j = i
      · rw [if_pos e]
      · rw [if_neg e]; exact p3 j (by omega)) (k := 0) (s := ((0 : Int), h)) (by decide) ⟨rfl, fun _ _ => rfl, fun j hj => absurd hj (by omega)⟩
  dsimp only at w1 w2 w3
  rw [w4]
  subst w1
  have hx : jloop (fun s' : (Int × jH) => M_mostAlike_B4 s'.2 o (q : Int) 0 s'.1) (((1001 : Nat) : Int), g) = M_mostAlike_L26 g o (q : Int) 0 0 := by
    refine jloop_x ?_
    show M_mostAlike_B4 g o (q : Int) 0 ((1001 : Nat) : Int) = _
    unfold M_mostAlike_B4
    rw [if_pos (by omega)]
  rw [hx]
  unfold M_mostAlike_L26
  obtain ⟨⟨M, i, g2⟩, ⟨x1, x2, x3, x4⟩, x5⟩ := jloop_k (f := fun s' : (Int × Int × jH) => M_mostAlike_B26 s'.2.2 o (q : Int) s'.1 s'.2.1) (fun i s' => s'.2.1 = (i : Int) ∧ (∀ z, z ≠ o + 41 → s'.2.2 z = h z) ∧ (∀ x : Int, -1 ≤ x → x < 1000 → s'.2.2 (o + 41) (spCode x).toNat = spCt (fun k => spTbK ns blk len s k q) x (spAr ns blk len sn s i)) ∧ spIsM (fun k => spTbK ns blk len s k q) (spAr ns blk len sn s i) s'.1) (s.2.1.1.length + 1) (fun i s' hi hp => by
    obtain ⟨M, y, g'⟩ := s'
    obtain ⟨p1, p2, p3, p4⟩ := hp
    dsimp only at p1 p2 p3 p4
    subst p1
    have e : spAr ns blk len sn s (i + 1) = if spFit sn (spTbK ns blk len s i) = true then spAr ns blk len sn s i ++ [i] else spAr ns blk len sn s i := rfl
    have hpi : wr ((i : Int) + 1) = ((i + 1 : Nat) : Int) := by rw [pw (by omega) (by omega)]; rfl
    have hti := spTbK_ti (k := i) hI q hq
    have hco := spCode_in hti
    have hli := spAr_len (ns := ns) (blk := blk) (len := len) (sn := sn) (s := s) i
    have hct := spCt_in (g := fun k => spTbK ns blk len s k q) (v := spTbK ns blk len s i q) (spAr ns blk len sn s i)
    have h39 : g' (o + 39) i = if spFit sn (spTbK ns blk len s i) = true then 1 else 0 := by rw [p2 _ (by omega)]; exact G2 i hi
    have hB : M_mostAlike_B26 g' o (q : Int) M (i : Int) = if spFit sn (spTbK ns blk len s i) = true then some (.inl ((if M < spCt (fun k => spTbK ns blk len s k q) (spTbK ns blk len s i q) (spAr ns blk len sn s i) + 1 then spCt (fun k => spTbK ns blk len s k q) (spTbK ns blk len s i q) (spAr ns blk len sn s i) + 1 else M), ((i + 1 : Nat) : Int), jup g' (o + 41) (spCode (spTbK ns blk len s i q)).toNat (spCt (fun k => spTbK ns blk len s k q) (spTbK ns blk len s i q) (spAr ns blk len sn s i) + 1))) else some (.inl (M, ((i + 1 : Nat) : Int), g')) := by
      obtain ⟨ad, had⟩ : ∃ ad : Nat, ad = 16 * i + q := ⟨_, rfl⟩
      have had2 : ad < 8208 := by omega
      have hix : wr (wr (16 * (i : Int)) + (q : Int)) = (ad : Int) := by
        rw [pw (x := 16 * (i : Int)) (by omega) (by omega), pw (x := 16 * (i : Int) + (q : Int)) (by omega) (by omega)]
        omega
      have h40 : g' (o + 40) ad = spCode (spTbK ns blk len s i q) := by rw [p2 _ (by omega), had]; exact G3 i q hi hq
      have h41 := p3 _ hti.1 hti.2
      unfold M_mostAlike_B26
      rw [if_pos (by decide), show ((4 : Int)).toNat = 4 from rfl, p2 _ (by omega), h4, if_neg (by omega), if_pos (by omega), Int.toNat_natCast, h39, hpi, hix, Int.toNat_natCast, h40, h41]
      generalize spCode (spTbK ns blk len s i q) = cd at hco h41 ⊢
      generalize spCt (fun k => spTbK ns blk len s k q) (spTbK ns blk len s i q) (spAr ns blk len sn s i) = ct at hct ⊢
      rw [ju_eq, pw (x := ct + 1) (by omega) (by omega)]
      by_cases c : spFit sn (spTbK ns blk len s i) = true
      · rw [if_pos c, if_neg (by decide), if_pos (show (0 : Int) ≤ (ad : Int) ∧ ad < 8208 by omega), if_pos (show (0 : Int) ≤ cd ∧ cd.toNat < 1001 by omega), if_pos (show (0 : Int) ≤ cd ∧ cd.toNat < 1001 by omega), if_pos (show (0 : Int) ≤ cd ∧ cd.toNat < 1001 by omega), if_pos c]
        by_cases c2 : M < ct + 1
        · rw [if_pos c2, if_pos (show (0 : Int) ≤ cd ∧ cd.toNat < 1001 by omega), if_pos c2]
        · rw [if_neg c2, if_neg c2]
      · rw [if_neg c, if_pos rfl, if_neg c]
    by_cases c : spFit sn (spTbK ns blk len s i) = true
    rotate_left
    · rw [if_neg c] at hB e
      refine ⟨(M, ((i + 1 : Nat) : Int), g'), hB, rfl, p2, ?_, ?_⟩
      · rw [e]; exact p3
      · rw [e]; exact p4
    rw [if_pos c] at hB e
    refine ⟨_, hB, rfl, fun z hz => by rw [← p2 z hz]; exact jup_ne hz, fun x hx1 hx2 => ?_, ?_⟩
    · rw [e, spCt_snoc]
      show jup g' (o + 41) _ _ (o + 41) _ = _
      rw [ju_if]
      by_cases w : spTbK ns blk len s i q = x
      · rw [if_pos (by rw [w]), if_pos w, w]
      · have hne : spCode x ≠ spCode (spTbK ns blk len s i q) := fun h => w ((spCode_inj ⟨hx1, hx2⟩ hti).mp h).symm
        have hcx := spCode_in ⟨hx1, hx2⟩
        rw [if_neg (by omega), if_neg w, Int.add_zero]
        exact p3 x hx1 hx2
    · rw [e]; exact spIsM_add hti p4) (k := 0) (s := ((0 : Int), (0 : Int), g)) (by omega) ⟨rfl, w2, fun x hx1 hx2 => by
      have := spCode_in ⟨hx1, hx2⟩
      exact w3 _ (by omega), fun x _ _ => Int.le_refl _, Or.inl rfl, Int.le_refl _⟩
  dsimp only at x1 x2 x3 x4
  rw [x5]
  subst x1
  refine ⟨g2, jloop_r ?_, x2⟩
  show M_mostAlike_B26 g2 o (q : Int) M ((s.2.1.1.length + 1 : Nat) : Int) = _
  unfold M_mostAlike_B26
  rw [if_pos (by decide), show ((4 : Int)).toNat = 4 from rfl, x2 _ (by omega), h4, if_pos (by omega), spIsM_eq (spMst_isM (ns := ns) (blk := blk) (len := len) (s := s) (L := spArs ns blk len sn s) (key := q)) x4]
  rfl
theorem RM.tells {h : jH} {o : Nat} {v : Int} {sn : spSn} (hS : MSn h o sn) (hok : spSok sn) (hk : spXk ns blk len b X) (r : RM h o ns blk len p X) : ∃ h', M_tells h o v = some (spDTells ns blk len sn v X, h') ∧ LAf o h h' ∧ RM h' o ns blk len p X := by
  unfold M_tells spDTells
  rw [if_neg r.told, m_isIn, Option.bind_some]
  by_cases a : 0 ≤ v ∧ v ≤ 1
  rotate_left
  · rw [if_neg a, if_pos rfl]
    refine ⟨h, ?_, LAf.rf, r⟩
    by_cases c : spArs ns blk len sn X.1 = []
    · rw [if_pos c]
    · rw [if_neg c, if_neg (by omega), if_neg (by omega)]
  rw [if_pos a, if_neg (by decide)]
  obtain ⟨g, e1, e2, e3, e4⟩ := m_lays hS hok hk r
  rw [e1, Option.bind_some]
  unfold M_tells_L30
  have h4 : g (o + 33) 4 = (X.1.2.1.1.length : Int) := e3.2.elim (fun m hm => hm.2.2.2.2.2.que.2.2.2.2.2.1)
  by_cases c : spArs ns blk len sn X.1 = []
  · rw [if_pos c]
    refine ⟨g, jloop_x ?_, e2, e3⟩
    show M_tells_B30 g o v (-1) 0 0 = _
    unfold M_tells_B30 M_tells_p78
    rw [if_pos (by decide), e4.1, c, if_neg (by decide), if_pos rfl]
  rw [if_neg c]
  have hpos : 0 < ((spArs ns blk len sn X.1).length : Int) := by
    have : (spArs ns blk len sn X.1).length ≠ 0 := fun h => c (List.length_eq_zero_iff.mp h)
    omega
  -- the first key
  obtain ⟨g1, x1, x2⟩ := m_mostL (q := 0) (o := o) hk.1.1 h4 (by decide) e4
  have hMGa : ∀ g', (∀ z, z ≠ o + 41 → g' z = g z) → MGa g' o (X.1.2.1.1.length + 1) (spArs ns blk len sn X.1) (spTbK ns blk len X.1) (fun j => spFit sn (spTbK ns blk len X.1 j)) := fun g' hg' => ⟨by rw [hg' o (by omega)]; exact e4.1, fun k hk' => by rw [hg' _ (by omega)]; exact e4.2.1 k hk', fun k q hk' hq => by rw [hg' _ (by omega)]; exact e4.2.2 k q hk' hq⟩
  have hB0 : M_tells_B30 g o v (-1) 0 0 = some (.inl ((spTel (spMst ns blk len X.1 (spArs ns blk len sn X.1)) 1).1, (spTel (spMst ns blk len X.1 (spArs ns blk len sn X.1)) 1).2, ((1 : Nat) : Int), g1)) := by
    have h1 : spTel (spMst ns blk len X.1 (spArs ns blk len sn X.1)) 1 = (((0 : Nat) : Int), spMst ns blk len X.1 (spArs ns blk len sn X.1) 0) := if_pos rfl
    rw [h1]
    unfold M_tells_B30 M_tells_p66
    rw [if_pos (by decide), e4.1, if_pos hpos, show M_mostAlike g o 0 = _ from x1, Option.bind_some, if_pos rfl, pw (x := (0 : Int) + 1) (by decide) (by decide)]
    rfl
  obtain ⟨⟨u, w, i, g2⟩, ⟨w1, w2, w3, w5⟩, w4⟩ := jloop_k (f := fun s : (Int × Int × Int × jH) => M_tells_B30 s.2.2.2 o v s.1 s.2.1 s.2.2.1) (fun i s => s.2.2.1 = (i : Int) ∧ s.1 = (spTel (spMst ns blk len X.1 (spArs ns blk len sn X.1)) i).1 ∧ s.2.1 = (spTel (spMst ns blk len X.1 (spArs ns blk len sn X.1)) i).2 ∧ 1 ≤ i ∧ ∀ z, z ≠ o + 41 → s.2.2.2 z = g z) 16 (fun i s hi hp => by
    obtain ⟨x, y, z, g'⟩ := s
    obtain ⟨p1, p2, p3, p4, p5⟩ := hp
    dsimp only at p1 p2 p3 p4 p5
    subst p1
    obtain ⟨g'', y1, y2⟩ := m_mostL (q := i) (o := o) (h := g') hk.1.1 (by rw [p5 _ (by omega)]; exact h4) hi (hMGa g' p5)
    refine ⟨((spTel (spMst ns blk len X.1 (spArs ns blk len sn X.1)) (i + 1)).1, (spTel (spMst ns blk len X.1 (spArs ns blk len sn X.1)) (i + 1)).2, ((i + 1 : Nat) : Int), g''), ?_, rfl, rfl, rfl, by omega, fun z hz => (y2 z hz).trans (p5 z hz)⟩
    generalize hml : spMst ns blk len X.1 (spArs ns blk len sn X.1) = ml at y1 p2 p3 ⊢
    have hst : spTel ml (i + 1) = if (spTel ml i).1 = -1 then ((i : Int), ml i) else if ml i < (spTel ml i).2 then ((i : Int), ml i) else spTel ml i := rfl
    show M_tells_B30 g' o v x y (i : Int) = _
    unfold M_tells_B30 M_tells_p66
    rw [if_pos (by omega), (hMGa g' p5).1, if_pos hpos, y1, Option.bind_some, p2, p3, hst, pw (x := (i : Int) + 1) (by omega) (by omega)]
    by_cases c1 : (spTel ml i).1 = -1
    · rw [if_pos c1, if_pos c1]; rfl
    rw [if_neg c1, if_neg c1]
    by_cases c2 : ml i < (spTel ml i).2
    · rw [if_pos c2, if_pos c2]; rfl
    · rw [if_neg c2, if_neg c2]; rfl) (k := 1) (s := ((spTel (spMst ns blk len X.1 (spArs ns blk len sn X.1)) 1).1, (spTel (spMst ns blk len X.1 (spArs ns blk len sn X.1)) 1).2, ((1 : Nat) : Int), g1)) (by decide) ⟨rfl, rfl, rfl, Nat.le_refl _, x2⟩
  dsimp only at w1 w2 w3 w5
  subst w1
  refine ⟨g2, (jloop_l hB0).trans (w4.trans (jloop_x ?_)), ⟨fun z z1 z2 z3 z4 z5 z6 z7 => by rw [w5.2 z z7, e2.1 z z1 z2 z3 z4 z5 z6 z7], fun f f1 f2 f3 => by rw [w5.2 o (by omega), e2.2 f f1 f2 f3]⟩, e3.off (fun z hz => w5.2 z (by omega)) (fun f _ => by rw [w5.2 o (by omega)])⟩
  show M_tells_B30 g2 o v u w ((16 : Nat) : Int) = _
  unfold M_tells_B30 M_tells_p78
  rw [if_neg (by decide), w2, w3, if_neg (spTel_pos 15)]
  by_cases v0 : v = 0
  · rw [if_pos v0, if_pos v0]
  · rw [if_neg v0, if_neg v0, if_pos (by omega)]
end ARM
