/-! the two relations: the class's half, the reference's half -/
/-- the state, what was before, what was refused -/
abbrev spX : Type := spSt × List spSt × (Nat → Int)
def spRfu (k : Nat) (X : spX) : spX := (X.1, X.2.1, pu X.2.2 k (wr (X.2.2 k + 1)))
def spRem (X : spX) : spX := (X.1, (X.1 :: X.2.1).take 20, X.2.2)
def spTo (s' : spSt) (X : spX) : spX := (s', X.2.1, X.2.2)
def spPp (ns blk len : Nat) (p : spPl) : Prop := p.1 = ns ∧ p.2.1 = blk ∧ p.2.2.1 = len ∧ spPok p
def spXk (ns blk len : Nat) (b : Int) (X : spX) : Prop := spOK ns blk len b X.1 ∧ ∀ x ∈ X.2.1, spOK ns blk len b x
def RC (T : jT) (h : jH) (o0 pl ns blk len : Nat) (p : spPl) (B : Nat) (X : spX) : Prop :=
  (RTp T o0 ∧ isX6 T pl ∧ (o0 + 4 < pl ∧ pl + 12 < o0 + 34) ∧ h o0 8 = (pl : Int) ∧ h pl 0 = (ns : Int) ∧ CPl h pl p ∧ ∀ i, i < 7 → h (o0 + 3) i = X.2.2 i) ∧ ∃ c n : Nat, h o0 14 = (c : Int) ∧ c < 20 ∧ h o0 13 = (X.2.1.length : Int) ∧ RPc h o0 ns blk len B pl c X.2.1 ∧ CS h (o0 + 35) ns blk len n X.1 ∧ n + X.1.2.2.2.1.1.length ≤ B ∧ h (o0 + 35) 0 = (pl : Int)
def RM (h : jH) (o ns blk len : Nat) (p : spPl) (X : spX) : Prop :=
  (h o 43 = 1 ∧ h o 52 = -1 ∧ h o 56 = 0 ∧ jI32 (h o 53) ∧ MPl h o p ∧ ∀ i, i < 7 → h (o + 2) i = X.2.2 i) ∧ ∃ m : Nat, h o 74 = (m : Int) ∧ m < 20 ∧ h o 73 = (X.2.1.length : Int) ∧ X.2.1.length ≤ 20 ∧ RPm h o ns blk len m X.2.1 ∧ MS h o ns blk len X.1.2.2.2.1.2 X.1
/-- what an act of the class may change -/
def RCf (o0 pl : Nat) (h h' : jH) : Prop := (∀ z, z ≠ o0 → z ≠ o0 + 3 → (z < pl + 1 ∨ pl + 8 < z) → (z < o0 + 35 ∨ o0 + 505 ≤ z) → h' z = h z) ∧ ∀ f, f ≠ 13 → f ≠ 14 → h' o0 f = h o0 f
theorem RCf.rf {o0 pl : Nat} {h : jH} : RCf o0 pl h h := ⟨fun _ _ _ _ _ => rfl, fun _ _ _ => rfl⟩
theorem RCf.tr {o0 pl : Nat} {h h1 h2 : jH} (a : RCf o0 pl h h1) (b : RCf o0 pl h1 h2) : RCf o0 pl h h2 := ⟨fun z x1 x2 x3 x4 => (b.1 z x1 x2 x3 x4).trans (a.1 z x1 x2 x3 x4), fun f x1 x2 => (b.2 f x1 x2).trans (a.2 f x1 x2)⟩
/-- what an act of the reference may change -/
def RMf (o : Nat) (h h' : jH) : Prop := (∀ z, z ≠ o → z ≠ o + 2 → z ≠ o + 33 → z ≠ o + 34 → z ≠ o + 35 → z ≠ o + 36 → z ≠ o + 37 → z ≠ o + 42 → z ≠ o + 67 → h' z = h z) ∧ ∀ f, f ≠ 44 → f ≠ 46 → f ≠ 47 → f ≠ 50 → f ≠ 52 → f ≠ 53 → f ≠ 54 → f ≠ 55 → f ≠ 56 → (f < 59 ∨ 65 < f) → f ≠ 73 → f ≠ 74 → f ≠ 105 → h' o f = h o f
theorem RMf.rf {o : Nat} {h : jH} : RMf o h h := ⟨fun _ _ _ _ _ _ _ _ _ _ => rfl, fun _ _ _ _ _ _ _ _ _ _ _ _ _ _ => rfl⟩
theorem RMf.tr {o : Nat} {h h1 h2 : jH} (a : RMf o h h1) (b : RMf o h1 h2) : RMf o h h2 := ⟨fun z x1 x2 x3 x4 x5 x6 x7 x8 x9 => (b.1 z x1 x2 x3 x4 x5 x6 x7 x8 x9).trans (a.1 z x1 x2 x3 x4 x5 x6 x7 x8 x9), fun f x1 x2 x3 x4 x5 x6 x7 x8 x9 x10 x11 x12 x13 => (b.2 f x1 x2 x3 x4 x5 x6 x7 x8 x9 x10 x11 x12 x13).trans (a.2 f x1 x2 x3 x4 x5 x6 x7 x8 x9 x10 x11 x12 x13)⟩
section REL
variable {T : jT} {o0 pl ns blk len B : Nat} {p : spPl} {X : spX} {b : Int}
theorem spXk.of_past {s' : spSt} {past : List spSt} {rf : Nat → Int} (h : spXk ns blk len b (s', past, rf)) : ∀ x ∈ past, spInv ns blk len b x := fun x hx => (h.2 x hx).1
theorem spXk_rem (h : spXk ns blk len b X) : spXk ns blk len b (spRem X) := ⟨h.1, fun x hx => by
  rcases List.mem_cons.mp (List.mem_of_mem_take hx) with y | y
  · rw [y]; exact h.1
  · exact h.2 x y⟩
theorem spXk_to {s' : spSt} (h : spXk ns blk len b X) (h2 : spOK ns blk len b s') : spXk ns blk len b (spTo s' X) := ⟨h2, h.2⟩
theorem spXk_rfu {k : Nat} (h : spXk ns blk len b X) : spXk ns blk len b (spRfu k X) := h
theorem spXk_mono {b' : Int} (hb : b ≤ b') (h2 : b' ≤ 700000) (h : spXk ns blk len b X) : spXk ns blk len b' X := ⟨⟨spInv_mono hb h2 h.1.1, h.1.2⟩, fun x hx => ⟨spInv_mono hb h2 (h.2 x hx).1, (h.2 x hx).2⟩⟩
theorem RC.told {h : jH} (hd : spDim ns blk len) (r : RC T h o0 pl ns blk len p B X) : G_isTold T h o0 = some 1 := by
  obtain ⟨⟨r1, r2, r3, r4, r5, r6, r7⟩, _⟩ := r
  have := hd.1
  unfold G_isTold
  rw [r4, jdyn_at r2]
  simp only [Option.bind_some]
  rw [r5, if_pos (by omega)]
theorem RC.refuse {h : jH} {k : Nat} (hk : k < 7) (r : RC T h o0 pl ns blk len p B X) : ∃ h', G_refuse h o0 (k : Int) = some (-1, h') ∧ RCf o0 pl h h' ∧ RC T h' o0 pl ns blk len p B (spRfu k X) := by
  obtain ⟨⟨r1, r2, r3, r4, r5, r6, r7⟩, c, n, q1, q2, q3, q4, q5, q6, q7⟩ := r
  unfold G_refuse
  rw [g_cellN hk]
  simp only [Option.bind_some]
  rw [g_putN hk]
  simp only [Option.bind_some]
  have go : ∀ z, z ≠ o0 + 3 → jup h (o0 + 3) k (wr (h (o0 + 3) k + 1)) z = h z := fun z hz => jup_ne hz
  refine ⟨_, rfl, ⟨fun z _ z2 _ _ => go z z2, fun f _ _ => by rw [go o0 (by omega)]⟩, ⟨r1, r2, r3, by rw [go _ (by omega)]; exact r4, by rw [go _ (by omega)]; exact r5, ?_, fun i hi => ?_⟩, c, n, by rw [go _ (by omega)]; exact q1, q2, by rw [go _ (by omega)]; exact q3, q4.eq (fun z z1 z2 => go z (by omega)), q5.eq (fun z z1 z2 => go z (by omega)), q6, by rw [go _ (by omega)]; exact q7⟩
  · refine ⟨?_, ?_⟩
    · unfold CFm; rw [go _ (by omega), go _ (by omega)]; exact r6.1
    · unfold CFm; rw [go _ (by omega), go _ (by omega)]; exact r6.2
  · rw [ju_if]
    show _ = pu X.2.2 k (wr (X.2.2 k + 1)) i
    unfold pu
    rw [r7 k hk]
    split
    · rfl
    · exact r7 i hi
theorem RC.rem {h : jH} (hk : spXk ns blk len b X) (r : RC T h o0 pl ns blk len p B X) : ∃ h', G_remember T h o0 = some h' ∧ RCf o0 pl h h' ∧ RC T h' o0 pl ns blk len p B (spRem X) ∧ ∀ z, o0 + 35 ≤ z → z < o0 + 85 → h' z = h z := by
  obtain ⟨⟨r1, r2, r3, r4, r5, r6, r7⟩, c, n, q1, q2, q3, q4, q5, q6, q7⟩ := r
  obtain ⟨g, e1, e2, e3, e4, e5, e6⟩ := c_remember r1 r2 q1 q2 q3 q4 q5 q6 q7 hk.1.1
  refine ⟨g, e1, ⟨fun z z1 _ _ z4 => e2 z z1 (by omega), e3⟩, ⟨⟨r1, r2, r3, by rw [e3 8 (by decide) (by decide)]; exact r4, by rw [e2 _ (by omega) (by omega)]; exact r5, ?_, fun i hi => by rw [e2 _ (by omega) (by omega)]; exact r7 i hi⟩, (c + 1) % 20, n, e4, Nat.mod_lt _ (by decide), e5, e6, q5.eq (fun z z1 z2 => e2 z (by omega) (by omega)), q6, by rw [e2 _ (by omega) (by omega)]; exact q7⟩, fun z z1 z2 => e2 z (by omega) (by omega)⟩
  refine ⟨?_, ?_⟩
  · unfold CFm; rw [e2 _ (by omega) (by omega), e2 _ (by omega) (by omega)]; exact r6.1
  · unfold CFm; rw [e2 _ (by omega) (by omega), e2 _ (by omega) (by omega)]; exact r6.2
theorem RC.set {h h' : jH} {B' n' : Nat} {s' : spSt} (hB : B ≤ B') (r : RC T h o0 pl ns blk len p B X) (e : ∀ z, (z < o0 + 35 ∨ o0 + 84 < z) → (z < pl + 1 ∨ pl + 8 < z) → h' z = h z) (hP : CPl h' pl p) (hs : CS h' (o0 + 35) ns blk len n' s') (hn : n' + s'.2.2.2.1.1.length ≤ B') (h0 : h' (o0 + 35) 0 = (pl : Int)) : RC T h' o0 pl ns blk len p B' (spTo s' X) := by
  obtain ⟨⟨r1, r2, r3, r4, r5, r6, r7⟩, c, n, q1, q2, q3, q4, q5, q6, q7⟩ := r
  exact ⟨⟨r1, r2, r3, by rw [e _ (by omega) (by omega)]; exact r4, by rw [e _ (by omega) (by omega)]; exact r5, hP, fun i hi => by rw [e _ (by omega) (by omega)]; exact r7 i hi⟩, c, n', by rw [e _ (by omega) (by omega)]; exact q1, q2, by rw [e _ (by omega) (by omega)]; exact q3, (q4.mono hB).eq (fun z z1 z2 => e z (by omega) (by omega)), hs, hn, h0⟩
theorem CPl.eq {h h' : jH} (hP : CPl h pl p) (e : ∀ z, pl + 1 ≤ z → z ≤ pl + 6 → h' z = h z) : CPl h' pl p := by
  refine ⟨?_, ?_⟩
  · unfold CFm; rw [e _ (by omega) (by omega), e _ (by omega) (by omega)]; exact hP.1
  · unfold CFm; rw [e _ (by omega) (by omega), e _ (by omega) (by omega)]; exact hP.2
theorem RM.refuse {h : jH} {o k : Nat} (hk : k < 7) (r : RM h o ns blk len p X) : RMf o h (jup h (o + 2) k (wr (h (o + 2) k + 1))) ∧ RM (jup h (o + 2) k (wr (h (o + 2) k + 1))) o ns blk len p (spRfu k X) := by
  obtain ⟨⟨r1, r2, r3, r4, r5, r6⟩, m, q1, q2, q3, q4, q5, q6⟩ := r
  have go : ∀ z, z ≠ o + 2 → jup h (o + 2) k (wr (h (o + 2) k + 1)) z = h z := fun z hz => jup_ne hz
  refine ⟨⟨fun z _ z2 _ _ _ _ _ _ _ => go z z2, fun f _ _ _ _ _ _ _ _ _ _ _ _ _ => by rw [go o (by omega)]⟩, ⟨by rw [go _ (by omega)]; exact r1, by rw [go _ (by omega)]; exact r2, by rw [go _ (by omega)]; exact r3, by rw [go _ (by omega)]; exact r4, r5.eq (go _ (by omega)) (go _ (by omega)) (go _ (by omega)), fun i hi => ?_⟩, m, by rw [go _ (by omega)]; exact q1, q2, by rw [go _ (by omega)]; exact q3, q4, q5.eq (go _ (by omega)) (go _ (by omega)), q6.eq (go _ (by omega)) (go _ (by omega))⟩
  rw [ju_if]
  show _ = pu X.2.2 k (wr (X.2.2 k + 1)) i
  unfold pu
  rw [r6 k hk]
  split
  · rfl
  · exact r6 i hi
theorem RM.rem {h : jH} {o : Nat} (hk : spXk ns blk len b X) (r : RM h o ns blk len p X) : ∃ h', M_keeps h o = some h' ∧ RMf o h h' ∧ RM h' o ns blk len p (spRem X) ∧ h' (o + 33) = h (o + 33) := by
  obtain ⟨⟨r1, r2, r3, r4, r5, r6⟩, m, q1, q2, q3, q4, q5, q6⟩ := r
  obtain ⟨g, e1, e2, e3, e4, e5, e6⟩ := m_remember (fun x hx => (hk.2 x hx).1) hk.1.1 q1 q2 q3 q4 q5 q6
  exact ⟨g, e1, ⟨fun z z1 _ _ _ _ _ _ z8 _ => e2 z z1 z8, fun f _ _ _ _ _ _ _ _ _ _ f11 f12 _ => e3 f f11 f12⟩, ⟨⟨by rw [e3 43 (by decide) (by decide)]; exact r1, by rw [e3 52 (by decide) (by decide)]; exact r2, by rw [e3 56 (by decide) (by decide)]; exact r3, by rw [e3 53 (by decide) (by decide)]; exact r4, r5.eq (e2 _ (by omega) (by omega)) (e2 _ (by omega) (by omega)) (e2 _ (by omega) (by omega)), fun i hi => by rw [e2 _ (by omega) (by omega)]; exact r6 i hi⟩, (m + 1) % 20, e4, Nat.mod_lt _ (by decide), e5, by show ((X.1 :: X.2.1).take 20).length ≤ 20; rw [List.length_take]; omega, e6, q6.eq (e2 _ (by omega) (by omega)) (e2 _ (by omega) (by omega))⟩, e2 _ (by omega) (by omega)⟩
theorem RM.set {h h' : jH} {o : Nat} {s' : spSt} (r : RM h o ns blk len p X) (e : ∀ z, z = o + 2 ∨ z = o + 28 ∨ z = o + 30 ∨ z = o + 31 ∨ z = o + 32 ∨ z = o + 42 → h' z = h z) (ef : ∀ f, f = 43 ∨ f = 52 ∨ f = 56 ∨ f = 73 ∨ f = 74 → h' o f = h o f) (h53 : jI32 (h' o 53)) (hs : MS h' o ns blk len s'.2.2.2.1.2 s') : RM h' o ns blk len p (spTo s' X) := by
  obtain ⟨⟨r1, r2, r3, r4, r5, r6⟩, m, q1, q2, q3, q4, q5, q6⟩ := r
  exact ⟨⟨by rw [ef 43 (by decide)]; exact r1, by rw [ef 52 (by decide)]; exact r2, by rw [ef 56 (by decide)]; exact r3, h53, r5.eq (e _ (by omega)) (e _ (by omega)) (e _ (by omega)), fun i hi => by rw [e _ (by omega)]; exact r6 i hi⟩, m, by rw [ef 74 (by decide)]; exact q1, q2, by rw [ef 73 (by decide)]; exact q3, q4, q5.eq (e _ (by omega)) (e _ (by omega)), hs⟩
end REL
