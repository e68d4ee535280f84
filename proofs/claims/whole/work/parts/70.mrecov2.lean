/-! the reference's recovery, whole -/
def spCn (p : Nat → Bool) : Nat → Nat
  | 0 => 0
  | n + 1 => spCn p n + (if p n = true then 1 else 0)
theorem spCn_le {p q : Nat → Bool} : ∀ n, (∀ i, i < n → p i = true → q i = true) → spCn p n ≤ spCn q n := by
  intro n
  induction n with
  | zero => intro _; exact Nat.le_refl _
  | succ n ih =>
    intro h
    have h1 := ih (fun i hi => h i (by omega))
    have h2 := h n (by omega)
    unfold spCn
    by_cases a : p n = true
    · rw [if_pos a, if_pos (h2 a)]; omega
    · rw [if_neg a]; split <;> omega
theorem spCn_lt {p q : Nat → Bool} {j : Nat} : ∀ n, (∀ i, i < n → p i = true → q i = true) → j < n → q j = true → ¬ p j = true → spCn p n < spCn q n := by
  intro n
  induction n with
  | zero => intro _ h; omega
  | succ n ih =>
    intro h hj hq hp
    have h2 := h n (by omega)
    unfold spCn
    by_cases e : j = n
    · subst e
      have h1 := spCn_le (p := p) (q := q) j (fun i hi => h i (by omega))
      rw [if_neg hp, if_pos hq]; omega
    · have h1 := ih (fun i hi => h i (by omega)) (by omega) hq hp
      by_cases a : p n = true
      · rw [if_pos a, if_pos (h2 a)]; omega
      · rw [if_neg a]; split <;> omega
theorem spCn_top {p : Nat → Bool} : ∀ n, spCn p n ≤ n := by
  intro n
  induction n with
  | zero => exact Nat.le_refl _
  | succ n ih => unfold spCn; split <;> omega
section MRC2
variable {o ns blk len : Nat} {D C : Nat → Nat → Int}
theorem m_walks {h : jH} {s : Nat} (hd0 : spDim ns blk len) (hc : MD h o ns blk len D C) (hy : spByD ns len D) (hs : s < ns) {rec : Bool} {snap n : Int} {tab tops : Nat → Int} (hr : MRm h o rec snap n tab tops) (hn0 : 0 ≤ n) (hn1 : n ≤ 900000) :
    ∃ h', M_walks h o (s : Int) = some h' ∧ MWf o rec h h' ∧ MRm h' o rec snap (n + ((spWk blk len (D s)).2.1.length : Int)) (spRecs snap (spWk blk len (D s)).2.1 n tab) (spTopR s (spWk blk len (D s)).2.1 n tops) ∧ h' o 59 = ((spWk blk len (D s)).1.length : Int) ∧ h' o 60 = ((spWk blk len (D s)).2.2.1 : Int) ∧ h' o 61 = ((spWk blk len (D s)).2.2.2 : Int) ∧ ∀ t, t < (spWk blk len (D s)).1.length → h' (o + 37) t = ((spWk blk len (D s)).1.getD t 0 : Int) := by
  have hl := hd0.len
  unfold M_walks
  obtain ⟨h1, hh1⟩ : ∃ h1 : jH, h1 = (jup (jup (jup (jup (jup h o 59 0) o 60 5) o 63 0) o 64 0) o 61 (-1)) := ⟨_, rfl⟩
  rw [← hh1]
  have f1 : MWf o rec h h1 := by
    rw [hh1]
    refine ⟨fun q x1 x2 x3 => by rw [jup_ne x1, jup_ne x1, jup_ne x1, jup_ne x1, jup_ne x1], fun g hg => by rw [ju_ne (by omega), ju_ne (by omega), ju_ne (by omega), ju_ne (by omega), ju_ne (by omega)], fun i _ => by rw [jup_ne (by omega), jup_ne (by omega), jup_ne (by omega), jup_ne (by omega), jup_ne (by omega)]⟩
  have m1 : MRm h1 o rec snap n tab tops := by
    obtain ⟨a1, a2, a3⟩ := hr
    have i33 : h1 (o + 33) = h (o + 33) := funext fun i => by rw [hh1, jup_ne (by omega), jup_ne (by omega), jup_ne (by omega), jup_ne (by omega), jup_ne (by omega)]
    refine ⟨by rw [i33]; exact a1, fun hr => ⟨by rw [f1.2.1 65 (by omega)]; exact (a2 hr).1, ?_, fun q hq => by rw [i33]; exact (a2 hr).2.2.1 q hq, fun q hq => by rw [i33]; exact (a2 hr).2.2.2 q hq⟩, fun hr => by rw [f1.2.1 65 (by omega)]; exact a3 hr⟩
    rw [hh1, ju_ne (by decide), ju_ne (by decide), ju_ne (by decide), ju_ne (by decide), ju_ne (by decide)]
    exact (a2 hr).2.1
  have s1 : MWs h1 o 0 5 0 0 := by rw [hh1]; unfold MWs; simp [ju_if]
  obtain ⟨h', x1, x2, x3, x4, x5, x6, x7, x8⟩ := m_walkL hd0 hy hs 128 h1 5 0 0 5 false 0 n tab tops (f1.md hd0 hc) s1 ⟨Int.le_refl _, fun _ => rfl, fun e => absurd e (by decide), fun e => absurd e (by decide), fun e => absurd e (by decide)⟩ m1 (by omega) (by omega) (by omega) (by omega) hn0 (by omega) (fun _ => ⟨rfl, rfl⟩)
  refine ⟨h', x1, f1.tr x2, x3, ?_, x5, x6, fun t ht => ?_⟩
  · rw [x4]; unfold spWk; simp
  · have := x8 t ht
    rw [Nat.zero_add] at this
    exact this
theorem m_framesOf {h : jH} {s : Nat} (hd0 : spDim ns blk len) (hc : MD h o ns blk len D C) (hy : spByD ns len D) (hs : s < ns) :
    ∃ h', M_framesOf h o (s : Int) = some (if spHead (D s) = true then ((spWk blk len (D s)).1.length : Int) else 0, h') ∧ (∀ q, q ≠ o → q ≠ o + 37 → h' q = h q) ∧ (∀ f, (f < 59 ∨ 65 < f) → h' o f = h o f) ∧ (spHead (D s) = true → ∀ t, t < (spWk blk len (D s)).1.length → h' (o + 37) t = ((spWk blk len (D s)).1.getD t 0 : Int)) := by
  unfold M_framesOf
  rw [m_head hd0 hc hy hs]
  simp only [Option.bind_some]
  by_cases a : spHead (D s) = true
  · simp only [if_pos a, if_neg (show ¬ (1 : Int) = 0 by decide)]
    have hc1 : MD (jup h o 65 0) o ns blk len D C := hc.fr hd0 (jup_ne (by omega)) (fun i _ _ => by rw [jup_ne (by omega)])
    obtain ⟨h', e1, e2, -, e3, -, -, e4⟩ := m_walks (h := jup h o 65 0) (rec := false) (n := 0) (tab := fun _ => 0) (tops := fun _ => 0) hd0 hc1 hy hs ⟨rfl, fun h => (by cases h), fun _ => ju_eq⟩ (by omega) (by omega)
    rw [e1]
    simp only [Option.bind_some]
    refine ⟨h', by rw [e3], fun q x1 x2 => ?_, fun f hf => by rw [e2.2.1 f (by omega), ju_ne (by omega)], fun _ => e4⟩
    by_cases b : q = o + 33
    · subst b
      funext i
      rw [e2.2.2 i (Or.inl rfl), jup_ne (by omega)]
    · rw [e2.1 q x1 b x2, jup_ne x1]
  · simp only [if_neg a, if_true]
    exact ⟨h, rfl, fun _ _ _ => rfl, fun _ _ => rfl, fun h => absurd h a⟩
def spGt (D : Nat → Nat → Int) (ser : Int) : Nat → Bool := fun i => spHead (D i) && decide (ser < spSer (D i))
theorem m_chL {snap : Int} (hd0 : spDim ns blk len) (hy : spByD ns len D) : ∀ (f : Nat) (s : Nat) (r : spR3) (h : jH) (v : Int), spCn (spGt D (spSer (D s))) ns ≤ f → s < ns → MD h o ns blk len D C → MRm h o true snap r.1 r.2.1 r.2.2 → 0 ≤ r.1 → r.1 + 128 * ((f : Int) + 1) ≤ 900000 →
    ∃ h', M_recovering_L137 h o v (s : Int) = M_recovering_L137 h' o ((spChain D ns blk len snap f s r).2 : Int) (-1) ∧ MWf o true h h' ∧ MRm h' o true snap (spChain D ns blk len snap f s r).1.1 (spChain D ns blk len snap f s r).1.2.1 (spChain D ns blk len snap f s r).1.2.2 ∧ (spChain D ns blk len snap f s r).2 < ns ∧ h' o 60 = ((spWk blk len (D (spChain D ns blk len snap f s r).2)).2.2.1 : Int) ∧ h' o 61 = ((spWk blk len (D (spChain D ns blk len snap f s r).2)).2.2.2 : Int) := by
  have hn4 := hd0.2.1
  have step : ∀ (s : Nat) (r : spR3) (h : jH) (v : Int), s < ns → MD h o ns blk len D C → MRm h o true snap r.1 r.2.1 r.2.2 → 0 ≤ r.1 → r.1 ≤ 900000 →
      ∃ h', M_recovering_L137 h o v (s : Int) = M_recovering_L137 h' o (s : Int) (spFollow D ns (spSer (D s)) (spRd D blk len snap s r).1) ∧ MWf o true h h' ∧ MRm h' o true snap (spRd D blk len snap s r).1 (spRd D blk len snap s r).2.1 (spRd D blk len snap s r).2.2 ∧ h' o 60 = ((spWk blk len (D s)).2.2.1 : Int) ∧ h' o 61 = ((spWk blk len (D s)).2.2.2 : Int) := by
    intro s r h v hs hc hr h0 h1
    obtain ⟨h', e1, e2, e3, e4, e5, e6, e7⟩ := m_walks (snap := snap) hd0 hc hy hs hr h0 h1
    have hc' := e2.md hd0 hc
    refine ⟨h', ?_, e2, e3, e5, e6⟩
    conv => lhs; unfold M_recovering_L137
    refine (jloop_l (s' := ((s : Int), spFollow D ns (spSer (D s)) (spRd D blk len snap s r).1, h')) ?_).trans rfl
    show M_recovering_B137 h o v (s : Int) = _
    unfold M_recovering_B137
    rw [if_neg (by omega), e1]
    simp only [Option.bind_some]
    have := m_folL hd0 hc' hy hs (e3.2.1 rfl).2.1 ns 0 (by omega)
    unfold M_follower
    unfold spPick at this
    rw [show (0 : Int) = ((0 : Nat) : Int) from rfl, this]
    rfl
  have fprop : ∀ s nx, spFollow D ns (spSer (D s)) nx ≠ -1 → ∃ t : Nat, t < ns ∧ spFollow D ns (spSer (D s)) nx = t ∧ spCn (spGt D (spSer (D t))) ns < spCn (spGt D (spSer (D s))) ns := by
    intro s nx hq
    have p := spPick_in (p := fun i => spHead (D i) && decide (spSer (D s) < spSer (D i)) && decide (spFst (D i) = nx)) (v := fun i => spSer (D i)) ns
    change -1 ≤ spFollow D ns (spSer (D s)) nx ∧ spFollow D ns (spSer (D s)) nx < (ns : Int) ∧ (spFollow D ns (spSer (D s)) nx ≠ -1 → _) at p
    obtain ⟨t, ht⟩ : ∃ t : Nat, spFollow D ns (spSer (D s)) nx = t := ⟨(spFollow D ns (spSer (D s)) nx).toNat, by omega⟩
    have p2 := p.2.2 hq
    change (spHead (D (spFollow D ns (spSer (D s)) nx).toNat) && decide (spSer (D s) < spSer (D (spFollow D ns (spSer (D s)) nx).toNat)) && decide (spFst (D (spFollow D ns (spSer (D s)) nx).toNat) = nx)) = true at p2
    rw [ht, Int.toNat_natCast] at p2
    simp at p2
    refine ⟨t, by omega, ht, spCn_lt (j := t) ns (fun i _ h => ?_) (by omega) ?_ ?_⟩
    · unfold spGt at h ⊢
      simp at h ⊢
      exact ⟨h.1, by omega⟩
    · unfold spGt
      simp [p2.1.1, p2.1.2]
    · unfold spGt
      simp
  intro f
  induction f with
  | zero =>
    intro s r h v hcn hs hc hr h0 h1
    obtain ⟨h', e1, e2, e3, e4, e5⟩ := step s r h v hs hc hr h0 (by omega)
    have a : spFollow D ns (spSer (D s)) (spRd D blk len snap s r).1 = -1 := by
      by_cases a : spFollow D ns (spSer (D s)) (spRd D blk len snap s r).1 = -1
      · exact a
      · obtain ⟨t, _, _, hlt⟩ := fprop s _ a
        omega
    rw [a] at e1
    exact ⟨h', e1, e2, e3, hs, e4, e5⟩
  | succ f ih =>
    intro s r h v hcn hs hc hr h0 h1
    obtain ⟨h', e1, e2, e3, e4, e5⟩ := step s r h v hs hc hr h0 (by omega)
    have b := spRd_next (D := D) (snap := snap) (s := s) (r := r) hd0
    unfold spChain
    by_cases a : spFollow D ns (spSer (D s)) (spRd D blk len snap s r).1 = -1
    · rw [if_pos a]
      rw [a] at e1
      exact ⟨h', e1, e2, e3, hs, e4, e5⟩
    · rw [if_neg a]
      obtain ⟨t, ht1, ht2, hlt⟩ := fprop s _ a
      rw [ht2] at e1 ⊢
      rw [Int.toNat_natCast]
      obtain ⟨h'', w1, w2, w3, w4, w5, w6⟩ := ih t (spRd D blk len snap s r) h' (s : Int) (by omega) ht1 (e2.md hd0 hc) e3 (by omega) (by omega)
      exact ⟨h'', e1.trans w1, e2.tr w2, w3, w4, w5, w6⟩
/-- what recovering leaves in the reference's row -/
def MRq (w : Nat → Int) (q : spR3 × Nat × Int × Int × Bool) : Prop :=
  w 1 = q.1.1 ∧ w 2 = q.1.1 ∧ (∀ i, i < 16 → w (144 + i) = q.1.2.1 i) ∧ (∀ i, i < 4 → w (192 + i) = q.1.2.2 i) ∧ w 5 = (q.2.1 : Int) ∧ w 6 = q.2.2.1 ∧ w 7 = q.2.2.2.1 ∧ w 10 = (if q.2.2.2.2 = true then 1 else 0) ∧ w 11 = 0 ∧ w 12 = 0 ∧ ∀ i, i < 8 → w (184 + i) = -1
def MRx (i : Nat) : Prop := i = 1 ∨ i = 2 ∨ i = 5 ∨ i = 6 ∨ i = 7 ∨ i = 10 ∨ i = 11 ∨ i = 12 ∨ (144 ≤ i ∧ i < 160) ∨ (184 ≤ i ∧ i < 1220)
theorem m_ewg {h : jH} : ∃ h', M_endsWithoutGround h o = some h' ∧ (∀ q, q ≠ o + 33 → h' q = h q) ∧ (∀ i, ¬ (192 ≤ i ∧ i < 196) → i ≠ 1 → i ≠ 2 → i ≠ 5 → i ≠ 6 → i ≠ 7 → i ≠ 10 → h' (o + 33) i = h (o + 33) i) ∧ (∀ i, i < 4 → h' (o + 33) (192 + i) = -1) ∧ h' (o + 33) 1 = h (o + 33) 9 ∧ h' (o + 33) 2 = h (o + 33) 9 ∧ h' (o + 33) 5 = 0 ∧ h' (o + 33) 6 = 5 ∧ h' (o + 33) 7 = 0 ∧ h' (o + 33) 10 = 1 := by
  unfold M_endsWithoutGround M_endsWithoutGround_L2
  obtain ⟨⟨k, h1⟩, ⟨e1, e2, e3, e4⟩, e5⟩ := jloop_k (f := fun s : (Int × jH) => M_endsWithoutGround_B2 s.2 o s.1) (fun k s => s.1 = (k : Int) ∧ (∀ q, q ≠ o + 33 → s.2 q = h q) ∧ (∀ i, ¬ (192 ≤ i ∧ i < 196) → s.2 (o + 33) i = h (o + 33) i) ∧ ∀ i, i < k → s.2 (o + 33) (192 + i) = -1) 4 (fun k s hk hp => by
    obtain ⟨x, g⟩ := s
    obtain ⟨p1, p2, p3, p4⟩ := hp
    dsimp only at p1 p2 p3 p4
    subst p1
    refine ⟨(((k + 1 : Nat) : Int), jup g (o + 33) (192 + k) (-1)), ?_, rfl, fun q hq => (jup_ne hq).trans (p2 q hq), fun i hi => (ju_ne (by omega)).trans (p3 i hi), fun i hi => ?_⟩
    · show M_endsWithoutGround_B2 g o (k : Int) = _
      unfold M_endsWithoutGround_B2
      rw [if_pos (by omega), pw (by omega) (by omega), if_pos (by omega), pw (by omega) (by omega), show (192 + (k : Int)).toNat = 192 + k by omega]
      rfl
    · show jup g (o + 33) (192 + k) (-1) (o + 33) (192 + i) = -1
      rw [ju_if]
      split
      · rfl
      · exact p4 i (by omega)) (k := 0) (s := ((0 : Int), h)) (by omega) ⟨rfl, fun _ _ => rfl, fun _ _ => rfl, fun i hi => by omega⟩
  dsimp only at e1 e2 e3 e4
  subst e1
  rw [e5]
  refine ⟨_, jloop_x (X := some (jup (jup (jup (jup (jup (jup h1 (o + 33) 5 0) (o + 33) 6 5) (o + 33) 7 0) (o + 33) 10 1) (o + 33) 1 (h1 (o + 33) 9)) (o + 33) 2 (h1 (o + 33) 9))) ?_, ?_⟩
  · show M_endsWithoutGround_B2 h1 o 4 = _
    unfold M_endsWithoutGround_B2
    rw [if_neg (by omega)]
    simp [ju_if]
  · refine ⟨fun q hq => by rw [jup_ne hq, jup_ne hq, jup_ne hq, jup_ne hq, jup_ne hq, jup_ne hq]; exact e2 q hq, fun i h0 a1 a2 a5 a6 a7 a10 => by rw [ju_ne a2, ju_ne a1, ju_ne a10, ju_ne a7, ju_ne a6, ju_ne a5]; exact e3 i h0, fun i hi => by rw [ju_ne (by omega), ju_ne (by omega), ju_ne (by omega), ju_ne (by omega), ju_ne (by omega), ju_ne (by omega)]; exact e4 i hi, ?_⟩
    simp [ju_if]
    exact e3 9 (by omega)
theorem m_fin {h : jH} {snap : Int} {t : Nat} {r : spR3} (hd0 : spDim ns blk len) (hy : spByD ns len D) (hc : MD h o ns blk len D C) (hr : MRm h o true snap r.1 r.2.1 r.2.2) (h11 : h (o + 33) 11 = 0) (h12 : h (o + 33) 12 = 0) (h10 : h (o + 33) 10 = 0) (hw : ∀ i, i < 8 → h (o + 33) (184 + i) = -1) (v : Int)
    (hv : r.1 < snap ∨ (v = (t : Int) ∧ t < ns ∧ h o 60 = ((spWk blk len (D t)).2.2.1 : Int) ∧ h o 61 = ((spWk blk len (D t)).2.2.2 : Int) ∧ (spWk blk len (D t)).2.2.1 ≤ len)) :
    ∃ h', M_recovering_L137 h o v (-1) = some h' ∧ (∀ q, q ≠ o + 33 → h' q = h q) ∧ MRq (h' (o + 33)) (if r.1 < snap then ((snap, r.2.1, fun _ => -1), 0, 5, 0, true) else (r, t, ((spWk blk len (D t)).2.2.1 : Int), spSer (D t), spDam D ns blk len t)) ∧ (∀ i, ¬ MRx i → h' (o + 33) i = h (o + 33) i) ∧ MD h' o ns blk len (if r.1 < snap ∨ spDam D ns blk len t = true then D else spWipe D t (spWk blk len (D t)).2.2.1) (if r.1 < snap ∨ spDam D ns blk len t = true then C else spWipe C t (spWk blk len (D t)).2.2.1) := by
  obtain ⟨n, tab, tops⟩ := r
  obtain ⟨a1, a2, -⟩ := hr
  obtain ⟨b1, b2, b3, b4⟩ := a2 rfl
  dsimp only at b2 b3 b4 hv ⊢
  unfold M_recovering_L137
  by_cases q : n < snap
  · obtain ⟨h', e1, e2, e3, e4, e5, e6, e7, e8, e9, e10⟩ := m_ewg (h := h) (o := o)
    rw [if_pos q, if_pos (Or.inl q), if_pos (Or.inl q)]
    refine ⟨h', jloop_x (X := some h') ?_, e2, ?_, fun i hi => ?_, ?_⟩
    · show M_recovering_B137 h o v (-1) = _
      unfold M_recovering_B137
      rw [if_pos rfl, if_pos (by decide), show ((9 : Int)).toNat = 9 from rfl, b2, a1, if_pos q, e1]
      rfl
    · refine ⟨by rw [e5]; exact a1, by rw [e6]; exact a1, fun i hi => ?_, e4, e7, e8, e9, e10, ?_, ?_, fun i hi => ?_⟩
      · rw [e3 _ (by omega) (by omega) (by omega) (by omega) (by omega) (by omega) (by omega)]; exact b3 i hi
      · rw [e3 _ (by omega) (by omega) (by omega) (by omega) (by omega) (by omega) (by omega)]; exact h11
      · rw [e3 _ (by omega) (by omega) (by omega) (by omega) (by omega) (by omega) (by omega)]; exact h12
      · rw [e3 _ (by omega) (by omega) (by omega) (by omega) (by omega) (by omega) (by omega)]; exact hw i hi
    · unfold MRx at hi
      exact e3 _ (by omega) (by omega) (by omega) (by omega) (by omega) (by omega) (by omega)
    · exact hc.fr hd0 (e2 _ (by omega)) (fun i _ _ => e3 _ (by omega) (by omega) (by omega) (by omega) (by omega) (by omega) (by omega))
  · rcases hv with hv | ⟨rfl, ht, h60, h61, hle⟩
    · exact absurd hv q
    rw [if_neg q]
    obtain ⟨h1, hh1⟩ : ∃ h1 : jH, h1 = jup (jup (jup h (o + 33) 5 (t : Int)) (o + 33) 6 (h o 60)) (o + 33) 7 (spSer (D t)) := ⟨_, rfl⟩
    have hc0 : MD (jup (jup h (o + 33) 5 (t : Int)) (o + 33) 6 (h o 60)) o ns blk len D C := hc.fr hd0 (by rw [jup_ne (by omega), jup_ne (by omega)]) (fun i _ _ => by rw [ju_ne (by omega), ju_ne (by omega)])
    have hc1 : MD h1 o ns blk len D C := hc.fr hd0 (by rw [hh1, jup_ne (by omega), jup_ne (by omega), jup_ne (by omega)]) (fun i _ _ => by rw [hh1, ju_ne (by omega), ju_ne (by omega), ju_ne (by omega)])
    have ho1 : h1 o = h o := by rw [hh1, jup_ne (by omega), jup_ne (by omega), jup_ne (by omega)]
    have hdam := m_dam hd0 hc1 hy ht (by rw [ho1]; exact h61)
    have p236 : ∀ g : jH, g o 62 = n → M_recovering_p236 g o = some (jup (jup g (o + 33) 1 n) (o + 33) 2 n) := by
      intro g hg
      unfold M_recovering_p236
      rw [if_pos (by decide), if_pos (by decide), jup_ne (show o ≠ o + 33 by omega), hg]
      rfl
    have hB : M_recovering_B137 h o (t : Int) (-1) = Option.map Sum.inr (if spDam D ns blk len t = true then M_recovering_p236 (jup h1 (o + 33) 10 1) o else Option.bind (M_zeroes h1 o (t : Int) ((spWk blk len (D t)).2.2.1 : Int)) (fun b24 => M_recovering_p236 b24.2 o)) := by
      unfold M_recovering_B137
      rw [if_pos rfl, if_pos (by decide), show ((9 : Int)).toNat = 9 from rfl, b2, a1, if_neg q, if_pos (by decide), if_pos (by decide)]
      rw [show ((5 : Int)).toNat = 5 from rfl, show ((6 : Int)).toNat = 6 from rfl, show ((7 : Int)).toNat = 7 from rfl, show ((10 : Int)).toNat = 10 from rfl]
      rw [show (jup h (o + 33) 5 (t : Int)) o 60 = h o 60 by rw [jup_ne (by omega)], m_ser hd0 hc0 hy ht]
      simp only [Option.bind_some]
      rw [if_pos (by decide), ← hh1, hdam]
      simp only [Option.bind_some]
      cases hq : spDam D ns blk len t with
      | true => rw [if_pos rfl, if_neg (by decide), if_pos (by decide), if_pos rfl]
      | false => rw [if_pos (show (if false = true then (1 : Int) else 0) = 0 from rfl), if_neg (show ¬ false = true by decide), show h1 o 60 = ((spWk blk len (D t)).2.2.1 : Int) by rw [ho1, h60]]
    cases hq : spDam D ns blk len t with
    | true =>
      rw [hq] at hB
      rw [if_pos (Or.inr rfl), if_pos (Or.inr rfl)]
      rw [if_pos rfl, p236 _ (by rw [jup_ne (by omega), ho1]; exact b2)] at hB
      refine ⟨_, jloop_x hB, fun q hq => by rw [jup_ne hq, jup_ne hq, jup_ne hq, hh1, jup_ne hq, jup_ne hq, jup_ne hq], ?_, fun i hi => ?_, ?_⟩
      · refine ⟨?_, ?_, fun i hi => ?_, fun i hi => ?_, ?_, ?_, ?_, ?_, ?_, ?_, fun i hi => ?_⟩
        · simp [ju_if]
        · simp [ju_if]
        · rw [ju_ne (by omega), ju_ne (by omega), ju_ne (by omega), hh1, ju_ne (by omega), ju_ne (by omega), ju_ne (by omega)]; exact b3 i hi
        · rw [ju_ne (by omega), ju_ne (by omega), ju_ne (by omega), hh1, ju_ne (by omega), ju_ne (by omega), ju_ne (by omega)]; exact b4 i hi
        · rw [hh1]; simp [ju_if]
        · rw [hh1]; simp [ju_if, h60]
        · rw [hh1]; simp [ju_if]
        · rw [hh1]; simp [ju_if]
        · rw [hh1]; simp [ju_if, h11]
        · rw [hh1]; simp [ju_if, h12]
        · rw [ju_ne (by omega), ju_ne (by omega), ju_ne (by omega), hh1, ju_ne (by omega), ju_ne (by omega), ju_ne (by omega)]; exact hw i hi
      · unfold MRx at hi
        rw [ju_ne (by omega), ju_ne (by omega), ju_ne (by omega), hh1, ju_ne (by omega), ju_ne (by omega), ju_ne (by omega)]
      · exact hc1.fr hd0 (by rw [jup_ne (by omega), jup_ne (by omega), jup_ne (by omega)]) (fun i _ _ => by rw [ju_ne (by omega), ju_ne (by omega), ju_ne (by omega)])
    | false =>
      rw [hq] at hB
      have hnq : ¬ (n < snap ∨ false = true) := by intro h; rcases h with h | h; exact q h; cases h
      rw [if_neg hnq, if_neg hnq]
      obtain ⟨h2, z1, z2, z3⟩ := m_zero hd0 ht hle hc1
      have ho2 : h2 o = h o := by rw [z2.1 o (by omega), ho1]
      have i2 : ∀ i, (i < 196 ∨ 1220 ≤ i) → h2 (o + 33) i = h1 (o + 33) i := z2.2
      rw [if_neg (by decide), z1] at hB
      simp only [Option.bind_some] at hB
      rw [p236 _ (by rw [ho2]; exact b2)] at hB
      refine ⟨_, jloop_x hB, fun q hq => by rw [jup_ne hq, jup_ne hq, z2.1 q hq, hh1, jup_ne hq, jup_ne hq, jup_ne hq], ?_, fun i hi => ?_, ?_⟩
      · refine ⟨?_, ?_, fun i hi => ?_, fun i hi => ?_, ?_, ?_, ?_, ?_, ?_, ?_, fun i hi => ?_⟩
        · simp [ju_if]
        · simp [ju_if]
        · rw [ju_ne (by omega), ju_ne (by omega), i2 _ (by omega), hh1, ju_ne (by omega), ju_ne (by omega), ju_ne (by omega)]; exact b3 i hi
        · rw [ju_ne (by omega), ju_ne (by omega), i2 _ (by omega), hh1, ju_ne (by omega), ju_ne (by omega), ju_ne (by omega)]; exact b4 i hi
        · rw [ju_ne (by omega), ju_ne (by omega), i2 _ (by omega), hh1]; simp [ju_if]
        · rw [ju_ne (by omega), ju_ne (by omega), i2 _ (by omega), hh1]; simp [ju_if, h60]
        · rw [ju_ne (by omega), ju_ne (by omega), i2 _ (by omega), hh1]; simp [ju_if]
        · rw [ju_ne (by omega), ju_ne (by omega), i2 _ (by omega), hh1]; simp [ju_if, h10]
        · rw [ju_ne (by omega), ju_ne (by omega), i2 _ (by omega), hh1]; simp [ju_if, h11]
        · rw [ju_ne (by omega), ju_ne (by omega), i2 _ (by omega), hh1]; simp [ju_if, h12]
        · rw [ju_ne (by omega), ju_ne (by omega), i2 _ (by omega), hh1, ju_ne (by omega), ju_ne (by omega), ju_ne (by omega)]; exact hw i hi
      · unfold MRx at hi
        rw [ju_ne (by omega), ju_ne (by omega), i2 _ (by omega), hh1, ju_ne (by omega), ju_ne (by omega), ju_ne (by omega)]
      · exact z3.fr hd0 (by rw [jup_ne (by omega), jup_ne (by omega)]) (fun i _ _ => by rw [ju_ne (by omega), ju_ne (by omega)])
theorem spWalk_end {blk len : Nat} {b : Nat → Int} (hb : 4 < blk) (hl : len % blk = 0) : ∀ (f k : Nat) (ins : Bool) (pay : Nat) (hd : Int) (e : Nat), k ≤ len → e ≤ len → (spWalk blk len b f k ins pay hd e).2.2.1 ≤ len := by
  intro f
  induction f with
  | zero => intro k ins pay hd e hk he; unfold spWalk; exact he
  | succ f ih =>
    intro k ins pay hd e hk he
    have hst := spStart_le (show 0 < blk by omega) hl hk
    by_cases a : len ≤ spStart blk k ∨ spGo blk len b (spStart blk k) ins pay hd = false
    · rw [spW_no (by omega) hb hl hk a]
      exact he
    · have a1 : spStart blk k < len := by omega
      have a2 : spGo blk len b (spStart blk k) ins pay hd = true := by
        cases hq : spGo blk len b (spStart blk k) ins pay hd with
        | true => rfl
        | false => exact absurd (Or.inr hq) a
      rw [spW_go a1 a2]
      have e9 := spFrame_in (by omega) hl (spGo_frame a2).1
      exact ih _ _ _ _ _ (by omega) (by split <;> omega)
theorem spWk_end (hd0 : spDim ns blk len) {b : Nat → Int} : (spWk blk len b).2.2.1 ≤ len := by
  have hl := hd0.len
  exact spWalk_end (by have := hd0.2.2.1; omega) hl.2.2.2 128 5 false 0 0 5 (by omega) (by omega)
/-- what recovering leaves of the disk -/
def spRdisk (D : Nat → Nat → Int) (ns blk len : Nat) (snap : Int) (stab : Nat → Int) (f : Nat → Nat → Int) : Nat → Nat → Int :=
  if (spRecov D ns blk len snap stab).2.2.2.2 = true then f else spWipe f (spRecov D ns blk len snap stab).2.1 (spRecov D ns blk len snap stab).2.2.1.toNat
theorem m_recov {h : jH} {snap : Int} {stab : Nat → Int} (hd0 : spDim ns blk len) (hc : MD h o ns blk len D C) (hy : spByD ns len D) (h9 : h (o + 33) 9 = snap) (hst : ∀ q, q < 16 → h (o + 33) (160 + q) = stab q) (hs0 : 0 ≤ snap) (hs1 : snap ≤ 800000) :
    ∃ h', M_recovering h o = some h' ∧ (∀ q, q ≠ o → q ≠ o + 33 → q ≠ o + 37 → h' q = h q) ∧ (∀ f, (f < 59 ∨ 65 < f) → h' o f = h o f) ∧ MRq (h' (o + 33)) (spRecov D ns blk len snap stab) ∧ (∀ i, ¬ MRx i → h' (o + 33) i = h (o + 33) i) ∧ MD h' o ns blk len (spRdisk D ns blk len snap stab D) (spRdisk D ns blk len snap stab C) := by
  have hl := hd0.len
  unfold M_recovering M_recovering_L2
  obtain ⟨⟨k, h1⟩, ⟨e1, e2, e3, e4⟩, e5⟩ := jloop_k (f := fun s : (Int × jH) => M_recovering_B2 s.2 o s.1) (fun k s => s.1 = (k : Int) ∧ (∀ q, q ≠ o + 33 → s.2 q = h q) ∧ (∀ i, ¬ (144 ≤ i ∧ i < 160) → s.2 (o + 33) i = h (o + 33) i) ∧ ∀ i, i < k → s.2 (o + 33) (144 + i) = stab i) 16 (fun k s hk hp => by
    obtain ⟨x, g⟩ := s
    obtain ⟨p1, p2, p3, p4⟩ := hp
    dsimp only at p1 p2 p3 p4
    subst p1
    refine ⟨(((k + 1 : Nat) : Int), jup g (o + 33) (144 + k) (stab k)), ?_, rfl, fun q hq => (jup_ne hq).trans (p2 q hq), fun i hi => (ju_ne (by omega)).trans (p3 i hi), fun i hi => ?_⟩
    · show M_recovering_B2 g o (k : Int) = _
      unfold M_recovering_B2
      rw [if_pos (by omega), pw (by omega) (by omega), if_pos (by omega), pw (by omega) (by omega), if_pos (by omega), pw (by omega) (by omega), show (160 + (k : Int)).toNat = 160 + k by omega, show (144 + (k : Int)).toNat = 144 + k by omega, p3 _ (by omega), hst k hk]
      rfl
    · show jup g (o + 33) (144 + k) (stab k) (o + 33) (144 + i) = stab i
      rw [ju_if]
      split
      · rename_i e
        have : i = k := by omega
        rw [this]
      · exact p4 i (by omega)) (k := 0) (s := ((0 : Int), h)) (by omega) ⟨rfl, fun _ _ => rfl, fun _ _ => rfl, fun i hi => by omega⟩
  dsimp only at e1 e2 e3 e4
  subst e1
  rw [e5]
  have x1 : jloop (fun s : (Int × jH) => M_recovering_B2 s.2 o s.1) (((16 : Nat) : Int), h1) = M_recovering_L36 h1 o 0 := jloop_x (by
    show M_recovering_B2 h1 o 16 = _
    unfold M_recovering_B2
    rw [if_neg (by omega)])
  rw [x1]
  unfold M_recovering_L36
  obtain ⟨⟨k, h2⟩, ⟨f1, f2, f3, f4⟩, f5⟩ := jloop_k (f := fun s : (Int × jH) => M_recovering_B36 s.2 o s.1) (fun k s => s.1 = (k : Int) ∧ (∀ q, q ≠ o + 33 → s.2 q = h1 q) ∧ (∀ i, ¬ (192 ≤ i ∧ i < 196) → s.2 (o + 33) i = h1 (o + 33) i) ∧ ∀ i, i < k → s.2 (o + 33) (192 + i) = -1) 4 (fun k s hk hp => by
    obtain ⟨x, g⟩ := s
    obtain ⟨p1, p2, p3, p4⟩ := hp
    dsimp only at p1 p2 p3 p4
    subst p1
    refine ⟨(((k + 1 : Nat) : Int), jup g (o + 33) (192 + k) (-1)), ?_, rfl, fun q hq => (jup_ne hq).trans (p2 q hq), fun i hi => (ju_ne (by omega)).trans (p3 i hi), fun i hi => ?_⟩
    · show M_recovering_B36 g o (k : Int) = _
      unfold M_recovering_B36
      rw [if_pos (by omega), pw (by omega) (by omega), if_pos (by omega), pw (by omega) (by omega), show (192 + (k : Int)).toNat = 192 + k by omega]
      rfl
    · show jup g (o + 33) (192 + k) (-1) (o + 33) (192 + i) = -1
      rw [ju_if]
      split
      · rfl
      · exact p4 i (by omega)) (k := 0) (s := ((0 : Int), h1)) (by omega) ⟨rfl, fun _ _ => rfl, fun _ _ => rfl, fun i hi => by omega⟩
  dsimp only at f1 f2 f3 f4
  subst f1
  rw [f5]
  have x2 : jloop (fun s : (Int × jH) => M_recovering_B36 s.2 o s.1) (((4 : Nat) : Int), h2) = M_recovering_L60 h2 o 0 := jloop_x (by
    show M_recovering_B36 h2 o 4 = _
    unfold M_recovering_B36
    rw [if_neg (by omega)])
  rw [x2]
  unfold M_recovering_L60
  obtain ⟨⟨k, h3⟩, ⟨g1, g2, g3, g4⟩, g5⟩ := jloop_k (f := fun s : (Int × jH) => M_recovering_B60 s.2 o s.1) (fun k s => s.1 = (k : Int) ∧ (∀ q, q ≠ o + 33 → s.2 q = h2 q) ∧ (∀ i, ¬ (184 ≤ i ∧ i < 192) → s.2 (o + 33) i = h2 (o + 33) i) ∧ ∀ i, i < k → s.2 (o + 33) (184 + i) = -1) 8 (fun k s hk hp => by
    obtain ⟨x, g⟩ := s
    obtain ⟨p1, p2, p3, p4⟩ := hp
    dsimp only at p1 p2 p3 p4
    subst p1
    refine ⟨(((k + 1 : Nat) : Int), jup g (o + 33) (184 + k) (-1)), ?_, rfl, fun q hq => (jup_ne hq).trans (p2 q hq), fun i hi => (ju_ne (by omega)).trans (p3 i hi), fun i hi => ?_⟩
    · show M_recovering_B60 g o (k : Int) = _
      unfold M_recovering_B60
      rw [if_pos (by omega), pw (by omega) (by omega), if_pos (by omega), pw (by omega) (by omega), show (184 + (k : Int)).toNat = 184 + k by omega]
      rfl
    · show jup g (o + 33) (184 + k) (-1) (o + 33) (184 + i) = -1
      rw [ju_if]
      split
      · rfl
      · exact p4 i (by omega)) (k := 0) (s := ((0 : Int), h2)) (by omega) ⟨rfl, fun _ _ => rfl, fun _ _ => rfl, fun i hi => by omega⟩
  dsimp only at g1 g2 g3 g4
  subst g1
  rw [g5]
  have q3 : ∀ q, q ≠ o + 33 → h3 q = h q := fun q hq => by rw [g2 q hq, f2 q hq, e2 q hq]
  have w3 : ∀ i, ¬ (144 ≤ i ∧ i < 160) → ¬ (192 ≤ i ∧ i < 196) → ¬ (184 ≤ i ∧ i < 192) → h3 (o + 33) i = h (o + 33) i := fun i a b c => by rw [g3 i c, f3 i b, e3 i a]
  obtain ⟨h4, hh4⟩ : ∃ h4 : jH, h4 = jup (jup (jup h3 (o + 33) 11 0) (o + 33) 12 0) (o + 33) 10 0 := ⟨_, rfl⟩
  have q4 : ∀ q, q ≠ o + 33 → h4 q = h q := fun q hq => by rw [hh4, jup_ne hq, jup_ne hq, jup_ne hq, q3 q hq]
  have w4 : ∀ i, ¬ MRx i → h4 (o + 33) i = h (o + 33) i := fun i hi => by
    unfold MRx at hi
    rw [hh4, ju_ne (by omega), ju_ne (by omega), ju_ne (by omega), w3 i (by omega) (by omega) (by omega)]
  have w4' : ∀ i, 13 ≤ i → h4 (o + 33) i = h3 (o + 33) i := fun i hi => by rw [hh4, ju_ne (by omega), ju_ne (by omega), ju_ne (by omega)]
  have hc3 : MD (jup (jup h3 (o + 33) 11 0) (o + 33) 12 0) o ns blk len D C := hc.fr hd0 (by rw [jup_ne (by omega), jup_ne (by omega), q3 _ (by omega)]) (fun i _ _ => by rw [ju_ne (by omega), ju_ne (by omega), w3 i (by omega) (by omega) (by omega)])
  have hc4 : MD h4 o ns blk len D C := hc.fr hd0 (q4 _ (by omega)) (fun i _ _ => by rw [w4' i (by omega), w3 i (by omega) (by omega) (by omega)])
  have tb4 : ∀ q, q < 16 → h4 (o + 33) (144 + q) = stab q := fun q hq => by rw [w4' _ (by omega), g3 _ (by omega), f3 _ (by omega), e4 q hq]
  have tp4 : ∀ q, q < 4 → h4 (o + 33) (192 + q) = -1 := fun q hq => by rw [w4' _ (by omega), g3 _ (by omega), f4 q hq]
  have wa4 : ∀ q, q < 8 → h4 (o + 33) (184 + q) = -1 := fun q hq => by rw [w4' _ (by omega), g4 q hq]
  have h49 : h4 (o + 33) 9 = snap := by rw [w4 9 (by unfold MRx; omega), h9]
  have h4z : h4 (o + 33) 11 = 0 ∧ h4 (o + 33) 12 = 0 ∧ h4 (o + 33) 10 = 0 := by rw [hh4]; simp [ju_if]
  have hbeg := m_begL (snap := snap) hd0 hc3 hy (by rw [ju_ne (by omega), ju_ne (by omega), w3 9 (by omega) (by omega) (by omega), h9]) ns 0 (by omega)
  unfold spPick at hbeg
  have pb := spPick_in (p := fun i => spHead (D i) && decide (spFst (D i) ≤ snap)) (v := fun i => spSer (D i)) ns
  change -1 ≤ spBegin D ns snap ∧ spBegin D ns snap < (ns : Int) ∧ _ at pb
  have x3 : jloop (fun s : (Int × jH) => M_recovering_B60 s.2 o s.1) (((8 : Nat) : Int), h3) = (if spBegin D ns snap = -1 then M_recovering_p127 h4 o (spBegin D ns snap) o (-1) else Option.bind (M_firstOf h4 o (spBegin D ns snap)) (fun b13 => M_recovering_p127 h4 o (spBegin D ns snap) o b13)) := jloop_x (by
    show M_recovering_B60 h3 o 8 = _
    unfold M_recovering_B60
    rw [if_neg (by omega), if_pos (by decide), if_pos (by decide)]
    rw [show ((11 : Int)).toNat = 11 from rfl, show ((12 : Int)).toNat = 12 from rfl, show ((10 : Int)).toNat = 10 from rfl]
    unfold M_beginner
    rw [show M_beginner_L4 (jup (jup h3 (o + 33) 11 0) (o + 33) 12 0) o (-1) 0 = _ from hbeg]
    simp only [Option.bind_some]
    rw [if_pos (by decide), ← hh4])
  rw [x3]
  have fin : ∀ (b v : Int) (n : Int) (s : Nat), (b = -1 ∧ v = -1 ∧ n = -1) ∨ (b = (s : Int) ∧ s < ns ∧ n = spFst (D s)) → ∃ h5, M_recovering_p127 h4 o b o n = M_recovering_L137 h5 o b b ∧ (∀ q, q ≠ o → h5 q = h4 q) ∧ (∀ f, f ≠ 62 → f ≠ 65 → h5 o f = h4 o f) ∧ MRm h5 o true snap n stab (fun _ => -1) ∧ MD h5 o ns blk len D C := by
    intro b v n s _
    unfold M_recovering_p127
    refine ⟨_, rfl, fun q hq => by rw [jup_ne hq, jup_ne hq], fun f h1 h2 => by rw [ju_ne h2, ju_ne h1], ⟨by rw [jup_ne (by omega), jup_ne (by omega)]; exact h49, fun _ => ⟨ju_eq, by rw [ju_ne (by decide), ju_eq], fun q hq => by rw [jup_ne (by omega), jup_ne (by omega)]; exact tb4 q hq, fun q hq => by rw [jup_ne (by omega), jup_ne (by omega)]; exact tp4 q hq⟩, fun h => by cases h⟩, hc4.fr hd0 (by rw [jup_ne (by omega), jup_ne (by omega)]) (fun i _ _ => by rw [jup_ne (by omega), jup_ne (by omega)])⟩
  have wrap : ∀ (h5 h' : jH) (R : spR3 × Nat × Int × Int × Bool) (D' C' : Nat → Nat → Int), MWf o true h5 h' ∨ True → True := fun _ _ _ _ _ _ => trivial
  unfold spRdisk
  by_cases a : spBegin D ns snap = -1
  · rw [if_pos a]
    have hR : spRecov D ns blk len snap stab = ((snap, stab, fun _ => -1), 0, 5, 0, true) := by unfold spRecov; rw [if_pos a]
    rw [hR]
    obtain ⟨h5, y1, y2, y3, y4, y5⟩ := fin (spBegin D ns snap) (-1) (-1) 0 (Or.inl ⟨a, rfl, rfl⟩)
    rw [y1, a]
    obtain ⟨h', z1, z2, z3, z4, z5⟩ := m_fin (snap := snap) (t := 0) (r := (-1, stab, fun _ => -1)) hd0 hy y5 y4 (by rw [y2 _ (by omega)]; exact h4z.1) (by rw [y2 _ (by omega)]; exact h4z.2.1) (by rw [y2 _ (by omega)]; exact h4z.2.2) (fun i hi => by rw [y2 _ (by omega)]; exact wa4 i hi) (-1) (Or.inl (by dsimp only; omega))
    have c1 : ((-1 : Int), stab, (fun _ => -1 : Nat → Int)).1 < snap := by dsimp only; omega
    rw [if_pos c1] at z3
    rw [if_pos (Or.inl c1), if_pos (Or.inl c1)] at z5
    refine ⟨h', z1, fun q a1 a2 a3 => by rw [z2 q a2, y2 q a1, q4 q a2], fun f hf => by rw [z2 o (by omega), y3 f (by omega) (by omega), q4 o (by omega)], z3, fun i hi => by rw [z4 i hi, y2 _ (by omega), w4 i hi], z5⟩
  · rw [if_neg a]
    obtain ⟨s, hs⟩ : ∃ s : Nat, spBegin D ns snap = s := ⟨(spBegin D ns snap).toNat, by omega⟩
    have hsn : s < ns := by omega
    rw [hs, m_fst hd0 hc4 hy hsn]
    simp only [Option.bind_some]
    obtain ⟨h5, y1, y2, y3, y4, y5⟩ := fin (s : Int) (s : Int) (spFst (D s)) s (Or.inr ⟨rfl, hsn, rfl⟩)
    rw [y1]
    have hsf := spSer_in (hy s hsn) (by omega)
    have hcn : spCn (spGt D (spSer (D s))) ns ≤ 3 := by
      have t1 := spCn_lt (p := spGt D (spSer (D s))) (q := fun _ => true) (j := s) ns (fun _ _ _ => rfl) hsn rfl (by unfold spGt; simp)
      have t2 := spCn_top (p := fun _ => true) ns
      have := hd0.2.1
      omega
    obtain ⟨h6, v1, v2, v3, v4, v5, v6⟩ := m_chL (snap := snap) hd0 hy 3 s (spFst (D s), stab, fun _ => -1) h5 (s : Int) hcn hsn y5 y4 (by dsimp only; omega) (by dsimp only; omega)
    rw [v1]
    have hR : spRecov D ns blk len snap stab = (if (spChain D ns blk len snap 3 s (spFst (D s), stab, fun _ => -1)).1.1 < snap then ((snap, (spChain D ns blk len snap 3 s (spFst (D s), stab, fun _ => -1)).1.2.1, fun _ => -1), 0, 5, 0, true) else ((spChain D ns blk len snap 3 s (spFst (D s), stab, fun _ => -1)).1, (spChain D ns blk len snap 3 s (spFst (D s), stab, fun _ => -1)).2, ((spWk blk len (D (spChain D ns blk len snap 3 s (spFst (D s), stab, fun _ => -1)).2)).2.2.1 : Int), spSer (D (spChain D ns blk len snap 3 s (spFst (D s), stab, fun _ => -1)).2), spDam D ns blk len (spChain D ns blk len snap 3 s (spFst (D s), stab, fun _ => -1)).2)) := by
      unfold spRecov
      rw [if_neg a, hs, Int.toNat_natCast]
    rw [hR]
    generalize spChain D ns blk len snap 3 s (spFst (D s), stab, fun _ => -1) = c at v3 v4 v5 v6 ⊢
    have i6 : ∀ i, ¬ (144 ≤ i ∧ i < 160) → ¬ (192 ≤ i ∧ i < 196) → h6 (o + 33) i = h4 (o + 33) i := fun i b1 b2 => by rw [v2.2.2 i (Or.inr ⟨b1, b2⟩), y2 _ (by omega)]
    obtain ⟨h', z1, z2, z3, z4, z5⟩ := m_fin (snap := snap) (t := c.2) (r := c.1) hd0 hy (v2.md hd0 y5) v3 (by rw [i6 _ (by omega) (by omega)]; exact h4z.1) (by rw [i6 _ (by omega) (by omega)]; exact h4z.2.1) (by rw [i6 _ (by omega) (by omega)]; exact h4z.2.2) (fun i hi => by rw [i6 _ (by omega) (by omega)]; exact wa4 i hi) (c.2 : Int) (Or.inr ⟨rfl, v4, v5, v6, spWk_end hd0⟩)
    refine ⟨h', z1, fun q a1 a2 a3 => by rw [z2 q a2, v2.1 q a1 a2 a3, y2 q a1, q4 q a2], fun f hf => by rw [z2 o (by omega), v2.2.1 f (by omega), y3 f (by omega) (by omega), q4 o (by omega)], z3, fun i hi => ?_, ?_⟩
    · have hi2 := hi
      unfold MRx at hi2
      rw [z4 i hi, i6 i (by omega) (by omega), w4 i hi]
    · by_cases q : c.1.1 < snap
      · rw [if_pos (Or.inl q), if_pos (Or.inl q)] at z5
        rw [if_pos q]
        exact z5
      · rw [if_neg q]
        cases hq : spDam D ns blk len c.2 with
        | true => rw [hq, if_pos (Or.inr rfl), if_pos (Or.inr rfl)] at z5; exact z5
        | false =>
          have hnq : ¬ (c.1.1 < snap ∨ false = true) := by intro h; rcases h with h | h; exact q h; cases h
          rw [hq, if_neg hnq, if_neg hnq] at z5
          exact z5
end MRC2
