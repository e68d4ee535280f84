/-! the reference's recovery -/
def up2 (f : Nat → Nat → Int) (s k : Nat) (v : Int) : Nat → Nat → Int := fun s' k' => if s' = s ∧ k' = k then v else f s' k'
def spWipe (f : Nat → Nat → Int) (s k : Nat) : Nat → Nat → Int := fun s' k' => if s' = s ∧ k ≤ k' then 0 else f s' k'
def spNz (b : Nat → Int) : Nat → Nat → Int
  | 0, _ => 0
  | n + 1, i => (if b i = 0 then 0 else 1) + spNz b n (i + 1)
theorem spWipe_step {f : Nat → Nat → Int} {s k : Nat} : spWipe (up2 f s k 0) s (k + 1) = spWipe f s k := by
  funext s' k'
  unfold spWipe up2
  by_cases a : s' = s
  · by_cases b : k' = k
    · simp [a, b]
    · by_cases c : k ≤ k'
      · have : k + 1 ≤ k' := by omega
        simp [a, b, c, this]
      · have : ¬ k + 1 ≤ k' := by omega
        simp [a, b, c, this]
  · simp [a]
theorem spNz_congr {b c : Nat → Int} : ∀ (n i : Nat), (∀ k, i ≤ k → b k = c k) → spNz b n i = spNz c n i := by
  intro n
  induction n with
  | zero => intro i _; rfl
  | succ n ih => intro i h; unfold spNz; rw [h i (by omega), ih (i + 1) (fun k hk => h k (by omega))]
theorem spNz_in {b : Nat → Int} : ∀ (n i : Nat), 0 ≤ spNz b n i ∧ spNz b n i ≤ n := by
  intro n
  induction n with
  | zero => intro i; unfold spNz; omega
  | succ n ih => intro i; unfold spNz; have := ih (i + 1); split <;> omega
section MRC
variable {o ns blk len s : Nat} {D C : Nat → Nat → Int}
/-- only the disk's part of the reference's row is changed -/
def MDf (o : Nat) (h h' : jH) : Prop := (∀ q, q ≠ o + 33 → h' q = h q) ∧ ∀ i, (i < 196 ∨ 1220 ≤ i) → h' (o + 33) i = h (o + 33) i
theorem MDf.rf {o : Nat} {h : jH} : MDf o h h := ⟨fun _ _ => rfl, fun _ _ => rfl⟩
theorem MDf.tr {o : Nat} {h h1 h2 : jH} (a : MDf o h h1) (b : MDf o h1 h2) : MDf o h h2 := ⟨fun q x => (b.1 q x).trans (a.1 q x), fun i x => (b.2 i x).trans (a.2 i x)⟩
theorem m_lands {h : jH} {k : Nat} {v : Int} (hd0 : spDim ns blk len) (hc : MD h o ns blk len D C) (hs : s < ns) (hk : k < len) : ∃ h', M_lands h o ((128 * s + k : Nat) : Int) v = some h' ∧ MDf o h h' ∧ MD h' o ns blk len (up2 D s k v) (up2 C s k 0) := by
  have hl := hd0.len
  have hn := hd0.2.1
  unfold M_lands
  rw [pw (by omega) (by omega), pw (by omega) (by omega), if_pos (by omega), if_pos (by omega), show (708 + ((128 * s + k : Nat) : Int)).toNat = 708 + 128 * s + k by omega, show (196 + ((128 * s + k : Nat) : Int)).toNat = 196 + 128 * s + k by omega]
  obtain ⟨c1, c2, c3, c4, c5, c6⟩ := hc
  refine ⟨_, rfl, ⟨fun q hq => by rw [jup_ne hq, jup_ne hq], fun i hi => by rw [ju_ne (by omega), ju_ne (by omega)]⟩, ?_, ?_, ?_, fun s' k' hs' hk' => ?_, fun s' k' hs' hk' => ?_, fun s' k' hs' hk' hq => ?_⟩
  · rw [jup_ne (by omega), jup_ne (by omega)]; exact c1
  · rw [jup_ne (by omega), jup_ne (by omega)]; exact c2
  · rw [jup_ne (by omega), jup_ne (by omega)]; exact c3
  · rw [ju_ne (by omega), ju_if]
    unfold up2
    by_cases a : s' = s ∧ k' = k
    · rw [if_pos (by omega), if_pos a]
    · rw [if_neg (by omega), if_neg a]; exact c4 s' k' hs' hk'
  · rw [ju_if, ju_ne (by omega)]
    unfold up2
    by_cases a : s' = s ∧ k' = k
    · rw [if_pos (by omega), if_pos a]
    · rw [if_neg (by omega), if_neg a]; exact c5 s' k' hs' hk'
  · rw [ju_ne (by omega), ju_ne (by omega)]; exact c6 s' k' hs' hk' hq
theorem m_zeroL (hd0 : spDim ns blk len) (hs : s < ns) : ∀ (m k : Nat) (h : jH) (D C : Nat → Nat → Int) (acc : Int), k + m = len → MD h o ns blk len D C → 0 ≤ acc → acc + (m : Int) ≤ 1000000 → ∃ h', M_zeroes_L5 h o (s : Int) acc (k : Int) = some (acc + spNz (D s) m k, h') ∧ MDf o h h' ∧ MD h' o ns blk len (spWipe D s k) (spWipe C s k) := by
  have hl := hd0.len
  have hn := hd0.2.1
  unfold M_zeroes_L5
  intro m
  induction m with
  | zero =>
    intro k h D C acc hk hc h0 h1
    refine ⟨h, jloop_r ?_, MDf.rf, ?_⟩
    · show M_zeroes_B5 h o (s : Int) acc (k : Int) = _
      unfold M_zeroes_B5
      rw [m_len hc hd0]
      simp only [Option.bind_some]
      rw [if_neg (by omega)]
      unfold spNz
      simp
    · obtain ⟨c1, c2, c3, c4, c5, c6⟩ := hc
      refine ⟨c1, c2, c3, fun s' k' hs' hk' => ?_, fun s' k' hs' hk' => ?_, c6⟩
      · unfold spWipe; rw [if_neg (by omega)]; exact c4 s' k' hs' hk'
      · unfold spWipe; rw [if_neg (by omega)]; exact c5 s' k' hs' hk'
  | succ m ih =>
    intro k h D C acc hk hc h0 h1
    obtain ⟨h1', e1, e2, e3⟩ := m_lands (v := 0) hd0 hc hs (show k < len by omega)
    obtain ⟨h', e4, e5, e6⟩ := ih (k + 1) h1' _ _ (acc + (if D s k = 0 then 0 else 1)) (by omega) e3 (by split <;> omega) (by split <;> omega)
    rw [spWipe_step, spWipe_step] at e6
    refine ⟨h', (jloop_l (s' := (acc + (if D s k = 0 then 0 else 1), ((k + 1 : Nat) : Int), h1')) ?_).trans (e4.trans ?_), e2.tr e5, e6⟩
    · show M_zeroes_B5 h o (s : Int) acc (k : Int) = _
      unfold M_zeroes_B5 M_zeroes_p27
      rw [m_len hc hd0]
      simp only [Option.bind_some]
      rw [if_pos (by omega), m_oct hd0 hc hs (by omega)]
      simp only [Option.bind_some]
      rw [pw (x := 128 * (s : Int)) (by omega) (by omega), pw (x := 128 * (s : Int) + (k : Int)) (by omega) (by omega), show 128 * (s : Int) + (k : Int) = ((128 * s + k : Nat) : Int) by omega, e1]
      simp only [Option.bind_some]
      rw [pw (x := (k : Int) + 1) (by omega) (by omega), pw (x := acc + 1) (by omega) (by omega)]
      by_cases a : D s k = 0
      · rw [if_pos a, if_pos a]; simp
      · rw [if_neg a, if_neg a]; simp
    · have : spNz (up2 D s k 0 s) m (k + 1) = spNz (D s) m (k + 1) := spNz_congr _ _ (fun i hi => by unfold up2; rw [if_neg (by omega)])
      rw [this]
      conv => rhs; unfold spNz
      congr 2
      omega
theorem m_zero {h : jH} (hd0 : spDim ns blk len) (hs : s < ns) {k : Nat} (hk : k ≤ len) (hc : MD h o ns blk len D C) : ∃ h', M_zeroes h o (s : Int) (k : Int) = some (spNz (D s) (len - k) k, h') ∧ MDf o h h' ∧ MD h' o ns blk len (spWipe D s k) (spWipe C s k) := by
  have hl := hd0.len
  obtain ⟨h', e1, e2, e3⟩ := m_zeroL hd0 hs (len - k) k h D C 0 (by omega) hc (by omega) (by omega)
  refine ⟨h', ?_, e2, e3⟩
  unfold M_zeroes
  rw [e1]
  simp
theorem m_begL {h : jH} (hd0 : spDim ns blk len) (hc : MD h o ns blk len D C) (hy : spByD ns len D) {snap : Int} (h9 : h (o + 33) 9 = snap) : ∀ m i, i + m = ns → M_beginner_L4 h o (spPick (fun i => spHead (D i) && decide (spFst (D i) ≤ snap)) (fun i => spSer (D i)) i) (i : Int) = some (spBegin D ns snap) := by
  have hl := hd0.len
  have hn := hd0.2.1
  unfold M_beginner_L4
  intro m
  induction m with
  | zero =>
    intro i hi
    refine jloop_r ?_
    obtain rfl : i = ns := by omega
    show M_beginner_B4 h o _ _ = _
    unfold M_beginner_B4
    rw [m_seg hc]
    simp only [Option.bind_some]
    rw [if_neg (by omega)]
    rfl
  | succ m ih =>
    intro i hi
    have hi2 : i < ns := by omega
    rw [← ih (i + 1) (by omega)]
    refine jloop_l ?_
    show M_beginner_B4 h o _ _ = _
    have hp := spPick_in (p := fun i => spHead (D i) && decide (spFst (D i) ≤ snap)) (v := fun i => spSer (D i)) i
    unfold M_beginner_B4 M_beginner_p53
    rw [m_seg hc]
    simp only [Option.bind_some]
    rw [if_pos (by omega), m_head hd0 hc hy hi2, m_fst hd0 hc hy hi2, m_ser hd0 hc hy hi2, pw (by omega) (by omega)]
    rw [show (i : Int) + 1 = ((i + 1 : Nat) : Int) by omega]
    rw [show ((9 : Int)).toNat = 9 from rfl, h9]
    conv => rhs; unfold spPick
    generalize hq : spPick (fun i => spHead (D i) && decide (spFst (D i) ≤ snap)) (fun i => spSer (D i)) i = q at hp
    by_cases a1 : spHead (D i) = true
    rotate_left
    · simp [a1]
    · by_cases a2 : spFst (D i) ≤ snap
      · by_cases a3 : q = -1
        · simp [a1, a2, a3, show ¬ snap < spFst (D i) by omega]
        · obtain ⟨t, ht⟩ : ∃ t : Nat, q = t := ⟨q.toNat, by omega⟩
          subst ht
          rw [m_ser hd0 hc hy (show t < ns by omega)]
          by_cases a4 : spSer (D t) < spSer (D i)
          · simp [a1, a2, a3, a4, show ¬ snap < spFst (D i) by omega]
          · simp [a1, a2, a3, a4, show ¬ snap < spFst (D i) by omega]
      · simp [a1, a2, show snap < spFst (D i) by omega]
theorem m_gt {h : jH} (hd0 : spDim ns blk len) (hc : MD h o ns blk len D C) (hy : spByD ns len D) {i t : Nat} (hi : i < ns) (ht : t < ns) : M_isGreater h o (i : Int) (t : Int) = some (if spHead (D i) = true ∧ spSer (D t) < spSer (D i) then 1 else 0) := by
  unfold M_isGreater M_isGreater_p25
  rw [m_head hd0 hc hy hi, m_ser hd0 hc hy hi, m_ser hd0 hc hy ht]
  simp only [Option.bind_some]
  by_cases a : spHead (D i) = true
  · by_cases b : spSer (D t) < spSer (D i)
    · simp [a, b]
    · simp [a, b]
  · simp [a]
theorem m_folL {h : jH} (hd0 : spDim ns blk len) (hc : MD h o ns blk len D C) (hy : spByD ns len D) (hs : s < ns) {nx : Int} (h3 : h o 62 = nx) : ∀ m i, i + m = ns → M_follower_L4 h o (s : Int) (spPick (fun i => spHead (D i) && decide (spSer (D s) < spSer (D i)) && decide (spFst (D i) = nx)) (fun i => spSer (D i)) i) (i : Int) = some (spFollow D ns (spSer (D s)) nx) := by
  have hl := hd0.len
  have hn := hd0.2.1
  unfold M_follower_L4
  intro m
  induction m with
  | zero =>
    intro i hi
    refine jloop_r ?_
    obtain rfl : i = ns := by omega
    show M_follower_B4 h o _ _ _ = _
    unfold M_follower_B4
    rw [m_seg hc]
    simp only [Option.bind_some]
    rw [if_neg (by omega)]
    rfl
  | succ m ih =>
    intro i hi
    have hi2 : i < ns := by omega
    rw [← ih (i + 1) (by omega)]
    refine jloop_l ?_
    show M_follower_B4 h o _ _ _ = _
    have hp := spPick_in (p := fun i => spHead (D i) && decide (spSer (D s) < spSer (D i)) && decide (spFst (D i) = nx)) (v := fun i => spSer (D i)) i
    unfold M_follower_B4 M_follower_p47
    rw [m_seg hc]
    simp only [Option.bind_some]
    rw [if_pos (by omega), m_gt hd0 hc hy hi2 hs, m_fst hd0 hc hy hi2, pw (by omega) (by omega), h3]
    rw [show (i : Int) + 1 = ((i + 1 : Nat) : Int) by omega]
    conv => rhs; unfold spPick
    generalize hq : spPick (fun i => spHead (D i) && decide (spSer (D s) < spSer (D i)) && decide (spFst (D i) = nx)) (fun i => spSer (D i)) i = q at hp
    by_cases a1 : spHead (D i) = true
    rotate_left
    · simp [a1]
    · by_cases a2 : spSer (D s) < spSer (D i)
      · by_cases a5 : spFst (D i) = nx
        · by_cases a3 : q = -1
          · simp [a1, a2, a3, a5]
          · obtain ⟨t, ht⟩ : ∃ t : Nat, q = t := ⟨q.toNat, by omega⟩
            subst ht
            rw [m_gt hd0 hc hy hi2 (show t < ns by omega)]
            by_cases a4 : spSer (D t) < spSer (D i)
            · simp [a1, a2, a3, a4, a5]
            · simp [a1, a2, a3, a4, a5]
        · simp [a1, a2, a5]
      · simp [a1, a2]
theorem m_damL {h : jH} (hd0 : spDim ns blk len) (hc : MD h o ns blk len D C) (hy : spByD ns len D) (hs : s < ns) : ∀ m k, k + m = len ∨ (m = 0 ∧ k = len + 1) → ∃ y, M_isDamaged_L34 h o (s : Int) (k : Int) = some y ∧ ((y = 1 ∧ ∃ j, k ≤ j ∧ j < len ∧ spFrame blk len (D s) j = true ∧ 1 ≤ D s (j + 1) ∧ D s (j + 1) ≤ 4) ∨ (y = 0 ∧ ¬ ∃ j, k ≤ j ∧ j < len ∧ spFrame blk len (D s) j = true ∧ 1 ≤ D s (j + 1) ∧ D s (j + 1) ≤ 4)) := by
  have hl := hd0.len
  have b0 : 0 < blk := by have := hd0.2.2.1; omega
  unfold M_isDamaged_L34
  intro m
  induction m with
  | zero =>
    intro k hk
    refine ⟨0, jloop_r ?_, Or.inr ⟨rfl, by rintro ⟨j, h1, h2, -⟩; omega⟩⟩
    show M_isDamaged_B34 h o _ _ = _
    unfold M_isDamaged_B34
    rw [m_len hc hd0]
    simp only [Option.bind_some]
    rw [if_neg (by omega)]
    rfl
  | succ m ih =>
    intro k hk
    have hk2 : k < len := by omega
    have hin : ∀ x : Int, M_isIn x 1 4 = some (if 1 ≤ x ∧ x ≤ 4 then 1 else 0) := by
      intro x
      unfold M_isIn M_isIn_p17 jcmp
      by_cases a : x < 1
      · rw [if_pos (by rw [if_pos a]; decide), if_neg (by omega)]
      · rw [if_neg (by rw [if_neg a]; split <;> decide)]
        by_cases b : x < 4
        · rw [if_neg (by rw [if_pos b]; decide), if_pos (by omega)]
        · by_cases c : x = 4
          · rw [if_neg (by rw [if_neg b, if_pos c]; decide), if_pos (by omega)]
          · rw [if_pos (by rw [if_neg b, if_neg c]; decide), if_neg (by omega)]
    by_cases a : spFrame blk len (D s) k = true ∧ 1 ≤ D s (k + 1) ∧ D s (k + 1) ≤ 4
    · have e9 := spFrame_in b0 hl.2.2.2 a.1
      refine ⟨1, jloop_r ?_, Or.inl ⟨rfl, k, by omega, hk2, a⟩⟩
      show M_isDamaged_B34 h o _ _ = _
      unfold M_isDamaged_B34
      rw [m_len hc hd0]
      simp only [Option.bind_some]
      rw [if_pos (by omega), m_frame hd0 hc hy hs, if_pos a.1]
      simp only [Option.bind_some]
      rw [if_neg (by decide), pw (by omega) (by omega), show (k : Int) + 1 = ((k + 1 : Nat) : Int) by omega, m_oct hd0 hc hs (by omega)]
      simp only [Option.bind_some]
      rw [hin, if_pos a.2]
      rfl
    · obtain ⟨y, e1, e2⟩ := ih (k + 1) (by omega)
      have : (∃ j, k + 1 ≤ j ∧ j < len ∧ spFrame blk len (D s) j = true ∧ 1 ≤ D s (j + 1) ∧ D s (j + 1) ≤ 4) ↔ (∃ j, k ≤ j ∧ j < len ∧ spFrame blk len (D s) j = true ∧ 1 ≤ D s (j + 1) ∧ D s (j + 1) ≤ 4) := by
        constructor
        · rintro ⟨j, h1, h2⟩; exact ⟨j, by omega, h2⟩
        · rintro ⟨j, h1, h2⟩
          refine ⟨j, ?_, h2⟩
          by_cases e : j = k
          · subst e; exact absurd h2.2 a
          · omega
      rw [this] at e2
      refine ⟨y, (jloop_l (s' := ((k + 1 : Nat) : Int)) ?_).trans e1, e2⟩
      show M_isDamaged_B34 h o _ _ = _
      unfold M_isDamaged_B34
      rw [m_len hc hd0]
      simp only [Option.bind_some]
      rw [if_pos (by omega), m_frame hd0 hc hy hs, pw (x := (k : Int) + 1) (by omega) (by omega)]
      simp only [Option.bind_some]
      by_cases b : spFrame blk len (D s) k = true
      · have e9 := spFrame_in b0 hl.2.2.2 b
        rw [if_neg (by rw [if_pos b]; decide), show (k : Int) + 1 = ((k + 1 : Nat) : Int) by omega, m_oct hd0 hc hs (by omega)]
        simp only [Option.bind_some]
        rw [hin, if_neg (fun e => a ⟨b, e⟩)]
        rfl
      · rw [if_pos (by rw [if_neg b])]
        congr 2
theorem m_dam {h : jH} (hd0 : spDim ns blk len) (hc : MD h o ns blk len D C) (hy : spByD ns len D) (hs : s < ns) (h61 : h o 61 = ((spWk blk len (D s)).2.2.2 : Int)) : M_isDamaged h o (s : Int) = some (if spDam D ns blk len s = true then 1 else 0) := by
  have hl := hd0.len
  have hn := hd0.2.1
  have hst := spWalk_stop (b := D s) (show 4 < blk by have := hd0.2.2.1; omega) hl.2.2.2 128 5 false 0 0 5 (by omega)
  change (spWk blk len (D s)).2.2.2 ≤ len at hst
  have key : ∀ m i, i + m = ns → spAny (fun i => spHead (D i) && decide (spSer (D s) < spSer (D i))) i = false → M_isDamaged_L2 h o (s : Int) (i : Int) = some (if spDam D ns blk len s = true then 1 else 0) := by
    unfold M_isDamaged_L2
    intro m
    induction m with
    | zero =>
      intro i hi ha
      obtain rfl : i = ns := by omega
      obtain ⟨y, y1, y2⟩ := m_damL hd0 hc hy hs (len - ((spWk blk len (D s)).2.2.2 + 1)) ((spWk blk len (D s)).2.2.2 + 1) (by omega)
      refine (jloop_x (X := some y) ?_).trans ?_
      · show M_isDamaged_B2 h o _ _ = _
        unfold M_isDamaged_B2
        rw [m_seg hc]
        simp only [Option.bind_some]
        rw [if_neg (by omega), h61, pw (by omega) (by omega), show ((spWk blk len (D s)).2.2.2 : Int) + 1 = (((spWk blk len (D s)).2.2.2 + 1 : Nat) : Int) by omega, y1]
      · rcases y2 with ⟨rfl, y2⟩ | ⟨rfl, y2⟩
        · rw [if_pos (spDam_iff.mpr (Or.inr y2))]
        · rw [if_neg]
          intro hq
          rcases spDam_iff.mp hq with h | h
          · rw [ha] at h; cases h
          · exact y2 h
    | succ m ih =>
      intro i hi ha
      have hi2 : i < ns := by omega
      by_cases a : spHead (D i) = true ∧ spSer (D s) < spSer (D i)
      · refine (jloop_r (o := (1 : Int)) ?_).trans ?_
        · show M_isDamaged_B2 h o _ _ = _
          unfold M_isDamaged_B2
          rw [m_seg hc]
          simp only [Option.bind_some]
          rw [if_pos (by omega), m_gt hd0 hc hy hi2 hs, if_pos a]
          rfl
        · rw [if_pos]
          refine spDam_iff.mpr (Or.inl (spAny_of.mpr ⟨i, hi2, ?_⟩))
          simp [a.1, a.2]
      · refine (jloop_l (s' := ((i + 1 : Nat) : Int)) ?_).trans (ih (i + 1) (by omega) ?_)
        · show M_isDamaged_B2 h o _ _ = _
          unfold M_isDamaged_B2
          rw [m_seg hc]
          simp only [Option.bind_some]
          rw [if_pos (by omega), m_gt hd0 hc hy hi2 hs, if_neg a, pw (by omega) (by omega)]
          rfl
        · unfold spAny
          rw [ha]
          simp
          intro h
          have : ¬ spSer (D s) < spSer (D i) := fun e => a ⟨h, e⟩
          omega
  unfold M_isDamaged
  exact key ns 0 (by omega) rfl
end MRC
