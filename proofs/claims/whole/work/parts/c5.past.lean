/-! what was before: kept and taken back, on both sides -/
section PST
variable {ns blk len : Nat}
def RPc (h : jH) (o0 ns blk len B pl c : Nat) (past : List spSt) : Prop := past.length ≤ 20 ∧ ∀ (j : Nat) (x : spSt), past[j]? = some x → (∃ n, CS h (o0 + 85 + 21 * ((c + 19 - j) % 20)) ns blk len n x ∧ n + x.2.2.2.1.1.length ≤ B) ∧ h (o0 + 85 + 21 * ((c + 19 - j) % 20)) 0 = (pl : Int)
def RPm (h : jH) (o ns blk len m : Nat) (past : List spSt) : Prop := ∀ (j : Nat) (x : spSt), past[j]? = some x → MSr h o ns blk len x.2.2.2.1.2 (MRow h o ((m + 20 - j) % 20)) x
/-- where the class's past lies -/
def RTp (T : jT) (o0 : Nat) : Prop := ∀ i, i < 20 → T.2 (o0 + 77) i = o0 + 85 + 21 * i ∧ isX9 T (o0 + 85 + 21 * i)
theorem RPc.mono {h : jH} {o0 B B' pl c : Nat} {past : List spSt} (r : RPc h o0 ns blk len B pl c past) (hB : B ≤ B') : RPc h o0 ns blk len B' pl c past := ⟨r.1, fun j x hx => by
  obtain ⟨⟨n, a, e⟩, d⟩ := r.2 j x hx
  exact ⟨⟨n, a, by omega⟩, d⟩⟩
theorem RPc.eq {h h' : jH} {o0 B pl c : Nat} {past : List spSt} (r : RPc h o0 ns blk len B pl c past) (e : ∀ z, o0 + 85 ≤ z → z < o0 + 505 → h' z = h z) : RPc h' o0 ns blk len B pl c past := ⟨r.1, fun j x hx => by
  obtain ⟨⟨n, a, d⟩, d2⟩ := r.2 j x hx
  have hm : (c + 19 - j) % 20 < 20 := Nat.mod_lt _ (by decide)
  exact ⟨⟨n, a.eq (fun z z1 z2 => e z (by omega) (by omega)), d⟩, by rw [e _ (by omega) (by omega)]; exact d2⟩⟩
theorem RPm.eq {h h' : jH} {o m : Nat} {past : List spSt} (r : RPm h o ns blk len m past) (e1 : h' (o + 28) = h (o + 28)) (e2 : h' (o + 42) = h (o + 42)) : RPm h' o ns blk len m past := fun j x hx => by
  have := r j x hx
  refine MS.eq this (by rw [jrw_ne (by omega), jrw_ne (by omega), e1]) ?_
  rw [jrw_at, jrw_at]
  unfold MRow
  rw [e2]
theorem c_remember {T : jT} {h : jH} {o0 n B pl c : Nat} {b : Int} {s : spSt} {past : List spSt} (hp : RTp T o0) (hT : isX6 T pl) (h14 : h o0 14 = (c : Int)) (hc : c < 20) (h13 : h o0 13 = (past.length : Int)) (r : RPc h o0 ns blk len B pl c past) (hs : CS h (o0 + 35) ns blk len n s) (hn : n + s.2.2.2.1.1.length ≤ B) (h0 : h (o0 + 35) 0 = (pl : Int)) (hI : spInv ns blk len b s) :
    ∃ h', G_remember T h o0 = some h' ∧ (∀ z, z ≠ o0 → (z < o0 + 85 ∨ o0 + 505 ≤ z) → h' z = h z) ∧ (∀ f, f ≠ 13 → f ≠ 14 → h' o0 f = h o0 f) ∧ h' o0 14 = (((c + 1) % 20 : Nat) : Int) ∧ h' o0 13 = (((s :: past).take 20).length : Int) ∧ RPc h' o0 ns blk len B pl ((c + 1) % 20) ((s :: past).take 20) := by
  unfold G_remember
  rw [h14, if_neg (by omega), if_pos (by omega), if_pos (by omega), Int.toNat_natCast, (hp c hc).1]
  rw [show Int.ofNat (o0 + 85 + 21 * c) = ((o0 + 85 + 21 * c : Nat) : Int) from rfl, jdyn_at (hp c hc).2]
  simp only [Option.bind_some]
  obtain ⟨g, e1, e2, e3, e4⟩ := c_copyS (a := o0 + 85 + 21 * c) (b := o0 + 35) (by omega) hT h0 hs hI
  rw [e1]
  simp only [Option.bind_some]
  unfold G_remember_p21
  have g14 : g o0 14 = (c : Int) := by rw [e2 o0 (by omega)]; exact h14
  have g13 : g o0 13 = (past.length : Int) := by rw [e2 o0 (by omega)]; exact h13
  have hl := r.1
  rw [g14, ju_ne (by decide), g13, pw (x := (c : Int) + 1) (by omega) (by omega), pw (x := (past.length : Int) + 1) (by omega) (by omega), Int.tmod_eq_emod_of_nonneg (by omega)]
  obtain ⟨g2, hg2⟩ : ∃ g2 : jH, g2 = jup (jup g o0 14 (((c : Int) + 1) % 20)) o0 13 (min 20 ((past.length : Int) + 1)) := ⟨_, rfl⟩
  rw [← hg2]
  have go : ∀ z, z ≠ o0 → g2 z = g z := fun z hz => by rw [hg2, jup_ne hz, jup_ne hz]
  refine ⟨g2, rfl, fun z z1 z2 => by rw [go z z1, e2 z (by omega)], fun f f1 f2 => by rw [hg2, ju_ne f1, ju_ne f2, e2 o0 (by omega)], by rw [hg2, ju_ne (by decide), ju_eq]; omega, by rw [hg2, ju_eq, List.length_take, List.length_cons]; omega, by rw [List.length_take]; omega, fun j x hx => ?_⟩
  have hj : j < 20 ∧ (s :: past)[j]? = some x := by
    rw [List.getElem?_take] at hx
    split at hx
    · exact ⟨by assumption, hx⟩
    · cases hx
  obtain ⟨hj1, hj2⟩ := hj
  cases j with
  | zero =>
    have hx2 := Option.some.inj hj2
    rw [show ((c + 1) % 20 + 19 - 0) % 20 = c by omega]
    rw [← hx2]
    exact ⟨⟨n, e3.eq (fun z z1 z2 => go z (by omega)), hn⟩, by rw [go _ (by omega)]; exact e4⟩
  | succ j =>
    have hx2 : past[j]? = some x := hj2
    obtain ⟨⟨n2, a1, a2⟩, a3⟩ := r.2 j x hx2
    have hm : (c + 19 - j) % 20 < 20 := Nat.mod_lt _ (by decide)
    have hne : (c + 19 - j) % 20 ≠ c := by omega
    rw [show ((c + 1) % 20 + 19 - (j + 1)) % 20 = (c + 19 - j) % 20 by omega]
    exact ⟨⟨n2, a1.eq (fun z z1 z2 => by rw [go z (by omega), e2 z (by omega)]), a2⟩, by rw [go _ (by omega), e2 _ (by omega)]; exact a3⟩
theorem c_undo {T : jT} {h : jH} {o0 B pl c : Nat} {b : Int} {x : spSt} {past : List spSt} (hp : RTp T o0) (hT : isX6 T pl) (h14 : h o0 14 = (c : Int)) (hc : c < 20) (h13 : h o0 13 = ((x :: past).length : Int)) (r : RPc h o0 ns blk len B pl c (x :: past)) (hI : spInv ns blk len b x) :
    ∃ h' n, G_undo T h o0 = some (1, h') ∧ (∀ z, z ≠ o0 → (z < o0 + 35 ∨ o0 + 55 < z) → h' z = h z) ∧ (∀ f, f ≠ 13 → f ≠ 14 → h' o0 f = h o0 f) ∧ h' o0 14 = (((c + 19) % 20 : Nat) : Int) ∧ h' o0 13 = (past.length : Int) ∧ RPc h' o0 ns blk len B pl ((c + 19) % 20) past ∧ CS h' (o0 + 35) ns blk len n x ∧ n + x.2.2.2.1.1.length ≤ B ∧ h' (o0 + 35) 0 = (pl : Int) := by
  have hl := r.1
  rw [List.length_cons] at hl h13
  have hm : (c + 19) % 20 < 20 := Nat.mod_lt _ (by decide)
  unfold G_undo
  have e13 : wr (h o0 13 - 1) = (past.length : Int) := by rw [h13, pw (by omega) (by omega)]; omega
  have e14 : Int.tmod (wr (wr ((jup h o0 13 (past.length : Int)) o0 14 + 20) - 1)) 20 = (((c + 19) % 20 : Nat) : Int) := by
    rw [ju_ne (by decide), h14, pw (x := (c : Int) + 20) (by omega) (by omega), pw (by omega) (by omega), Int.tmod_eq_emod_of_nonneg (by omega)]; omega
  simp only [e13, e14]
  obtain ⟨g, hg⟩ : ∃ g : jH, g = jup (jup h o0 13 (past.length : Int)) o0 14 (((c + 19) % 20 : Nat) : Int) := ⟨_, rfl⟩
  have go : ∀ z, z ≠ o0 → g z = h z := fun z hz => by rw [hg, jup_ne hz, jup_ne hz]
  have g14 : g o0 14 = (((c + 19) % 20 : Nat) : Int) := by rw [hg, ju_eq]
  rw [← hg, g14, if_pos (by omega), if_neg (by omega), if_pos (by omega), if_pos (by omega), Int.toNat_natCast, (hp _ hm).1]
  rw [show Int.ofNat (o0 + 85 + 21 * ((c + 19) % 20)) = ((o0 + 85 + 21 * ((c + 19) % 20) : Nat) : Int) from rfl, jdyn_at (hp _ hm).2]
  simp only [Option.bind_some]
  obtain ⟨⟨n, a1, a2⟩, a3⟩ := r.2 0 x rfl
  rw [Nat.sub_zero] at a1 a3
  obtain ⟨g2, e1, e2, e3, e4⟩ := c_copyS (h := g) (a := o0 + 35) (b := o0 + 85 + 21 * ((c + 19) % 20)) (by omega) hT (by rw [go _ (by omega)]; exact a3) (a1.eq (fun z z1 z2 => go z (by omega))) hI
  rw [e1]
  simp only [Option.bind_some]
  refine ⟨g2, n, rfl, fun z z1 z2 => by rw [e2 z z2, go z z1], fun f f1 f2 => by rw [e2 o0 (by omega), hg, ju_ne f2, ju_ne f1], by rw [e2 o0 (by omega)]; exact g14, by rw [e2 o0 (by omega), hg, ju_ne (by decide), ju_eq], ⟨by omega, fun j y hy => ?_⟩, e3, a2, e4⟩
  obtain ⟨⟨n2, b1, b2⟩, b3⟩ := r.2 (j + 1) y hy
  have hj := (List.getElem?_eq_some_iff.mp hy).1
  have hm2 : (c + 19 - (j + 1)) % 20 < 20 := Nat.mod_lt _ (by decide)
  rw [show ((c + 19) % 20 + 19 - j) % 20 = (c + 19 - (j + 1)) % 20 by omega]
  exact ⟨⟨n2, b1.eq (fun z z1 z2 => by rw [e2 z (by omega), go z (by omega)]), b2⟩, by rw [e2 _ (by omega), go _ (by omega)]; exact b3⟩
theorem m_remember {h : jH} {o m : Nat} {b : Int} {s : spSt} {past : List spSt} (hpast : ∀ x ∈ past, spInv ns blk len b x) (hI : spInv ns blk len b s) (h74 : h o 74 = (m : Int)) (hm : m < 20) (h73 : h o 73 = (past.length : Int)) (hl : past.length ≤ 20) (r : RPm h o ns blk len m past) (hs : MS h o ns blk len s.2.2.2.1.2 s) :
    ∃ h', M_keeps h o = some h' ∧ (∀ z, z ≠ o → z ≠ o + 42 → h' z = h z) ∧ (∀ f, f ≠ 73 → f ≠ 74 → h' o f = h o f) ∧ h' o 74 = (((m + 1) % 20 : Nat) : Int) ∧ h' o 73 = (((s :: past).take 20).length : Int) ∧ RPm h' o ns blk len ((m + 1) % 20) ((s :: past).take 20) := by
  obtain ⟨g, e1, e2, e3, e4, e5, e6, e7⟩ := m_keeps (o := o) h74 hm h73 hl
  refine ⟨g, e1, e2, e3, e4, by rw [e5, List.length_take, List.length_cons]; omega, fun j x hx => ?_⟩
  have hj : j < 20 ∧ (s :: past)[j]? = some x := by
    rw [List.getElem?_take] at hx
    split at hx
    · exact ⟨by assumption, hx⟩
    · cases hx
  obtain ⟨hj1, hj2⟩ := hj
  cases j with
  | zero =>
    have hx2 := Option.some.inj hj2
    rw [show ((m + 1) % 20 + 20 - 0) % 20 = (m + 1) % 20 by omega, ← hx2]
    refine MS.cong hI hs (by rw [jrw_ne (by omega), e2 _ (by omega) (by omega)]) (fun i hi => ?_)
    rw [jrw_at]
    exact e6 i hi
  | succ j =>
    have hx2 : past[j]? = some x := hj2
    have hm2 : (m + 20 - j) % 20 < 20 := Nat.mod_lt _ (by decide)
    have hjl := (List.getElem?_eq_some_iff.mp hx2).1
    rw [show ((m + 1) % 20 + 20 - (j + 1)) % 20 = (m + 20 - j) % 20 by omega]
    refine MS.cong (hpast x (List.mem_of_getElem? hx2)) (r j x hx2) (by rw [jrw_ne (by omega), jrw_ne (by omega), e2 _ (by omega) (by omega)]) (fun i hi => ?_)
    rw [jrw_at, jrw_at]
    exact e7 _ hm2 (by omega) i hi
theorem m_back {h : jH} {o m : Nat} {b : Int} {x : spSt} {past : List spSt} (hpast : ∀ y ∈ past, spInv ns blk len b y) (hI : spInv ns blk len b x) (h74 : h o 74 = (m : Int)) (hm : m < 20) (h73 : h o 73 = ((x :: past).length : Int)) (hl : (x :: past).length ≤ 20) (r : RPm h o ns blk len m (x :: past)) :
    ∃ h', M_undo h o = some (1, h') ∧ (∀ z, z ≠ o → z ≠ o + 33 → h' z = h z) ∧ (∀ f, f ≠ 73 → f ≠ 74 → h' o f = h o f) ∧ h' o 74 = (((m + 19) % 20 : Nat) : Int) ∧ h' o 73 = (past.length : Int) ∧ RPm h' o ns blk len ((m + 19) % 20) past ∧ MS h' o ns blk len x.2.2.2.1.2 x := by
  rw [List.length_cons] at hl h73
  obtain ⟨g, e1, e2, e3, e4, e5, e6⟩ := m_undo (o := o) (n := past.length) h74 hm h73 (by omega)
  refine ⟨g, e1, e2, e3, e4, e5, fun j y hy => ?_, ?_⟩
  · have := r (j + 1) y hy
    have hj := (List.getElem?_eq_some_iff.mp hy).1
    rw [show ((m + 19) % 20 + 20 - j) % 20 = (m + 20 - (j + 1)) % 20 by omega]
    refine MS.cong (hpast y (List.mem_of_getElem? hy)) this (by rw [jrw_ne (by omega), jrw_ne (by omega), e2 _ (by omega) (by omega)]) (fun i hi => ?_)
    rw [jrw_at, jrw_at]
    unfold MRow
    rw [e2 (o + 42) (by omega) (by omega)]
  · have := r 0 x rfl
    rw [show (m + 20 - 0) % 20 = m by omega] at this
    refine MS.cong hI this (by rw [jrw_ne (by omega), e2 _ (by omega) (by omega)]) (fun i hi => ?_)
    rw [jrw_at]
    exact e6 i hi
end PST
