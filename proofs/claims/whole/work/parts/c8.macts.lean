/-! the acts, the reference's -/
theorem m_isIn {v x y : Int} : M_isIn v x y = some (if x ≤ v ∧ v ≤ y then 1 else 0) := by
  unfold M_isIn M_isIn_p17
  by_cases a : v < x
  · rw [if_pos (jcmp_lt.mpr a), if_neg (by omega)]
  · rw [if_neg (fun h => a (jcmp_lt.mp h))]
    by_cases c : y < v
    · rw [if_pos (jcmp_gt.mpr c), if_neg (by omega)]
    · rw [if_neg (fun h => c (jcmp_gt.mp h)), if_pos (by omega)]
section MACT
variable {o ns blk len : Nat} {p : spPl} {X : spX} {b : Int}
theorem MS.que {h : jH} {kpm : spKp} {s : spSt} (hs : MS h o ns blk len kpm s) : h (o + 33) 1 = s.2.2.1.2.2 + (s.2.2.1.1.length : Int) ∧ h (o + 33) 2 = s.2.2.1.2.2 ∧ h (o + 33) 11 = (spWtg s : Int) ∧ h (o + 33) 10 = (if s.2.2.2.2.2.2.2.2.2.1 = true then 1 else 0) ∧ h (o + 33) 9 = s.2.2.2.2.1.2.2.1 ∧ h (o + 33) 4 = (s.2.1.1.length : Int) ∧ h (o + 33) 12 = (s.2.2.2.1.1.length : Int) ∧ (∀ x : Nat, x < 8 → h (o + 33) (184 + x) = spAw s.2.2.2.1.1 (x : Int)) ∧ MD h o ns blk len s.1.1 s.1.2 ∧ h (o + 33) 0 = s.2.2.2.2.2.2.2.2.2.2 := by
  obtain ⟨⟨D, C⟩, ⟨F, lf⟩, ⟨q, fl, first⟩, ⟨wt, kp⟩, ⟨tab, stab, snap, tops⟩, ⟨sg, at', ser, gr, hl, tk⟩⟩ := s
  obtain ⟨c1, ⟨c2, c2'⟩, c3, ⟨c4, c4', c4''⟩, c5, ⟨t1, t2, t3, t4⟩, p1, p2, p3, p4, p5, p6, p7⟩ := hs
  refine ⟨c3.2.1, c3.1, ?_, p5, t3, c2.1, c4, c4'', c1, p6⟩
  rw [c3.2.2.1]
  show _ = ((q.length - fl : Nat) : Int)
  have := c3.2.2.2.2.1
  omega
theorem spInv.wt8 {s : spSt} (hI : spInv ns blk len b s) : s.2.2.2.1.1.length ≤ 8 := by
  obtain ⟨⟨D, C⟩, ⟨F, lf⟩, ⟨q, fl, first⟩, ⟨wt, kp⟩, ⟨tab, stab, snap, tops⟩, ⟨sg, at', ser, gr, hl, tk⟩⟩ := s
  exact hI.2.2.2.1.1
theorem RM.told {h : jH} (r : RM h o ns blk len p X) : h o 43 ≠ 0 := by rw [r.1.1]; decide
/-- how a refusal goes on -/
theorem m_refuses {h : jH} {k : Nat} (hk : k < 7) : M_refuses h o (k : Int) = some (-1, jup h (o + 2) k (wr (h (o + 2) k + 1))) := by
  unfold M_refuses
  rw [if_pos (by omega), if_pos (by omega), Int.toNat_natCast]
theorem m_isRefused {h : jH} {k : Nat} (hk : k < 7) : M_isRefused h o (k : Int) = some (0, jup h (o + 2) k (wr (h (o + 2) k + 1))) := by
  unfold M_isRefused
  rw [if_pos (by omega), if_pos (by omega), Int.toNat_natCast]
theorem RM.upd {h h' : jH} {s' : spSt} (r : RM h o ns blk len p X) (e : ∀ z, z ≠ o + 33 → h' z = h z) (hs : MS h' o ns blk len s'.2.2.2.1.2 s') : RMf o h h' ∧ RM h' o ns blk len p (spTo s' X) := ⟨⟨fun z _ _ z3 _ _ _ _ _ _ => e z z3, fun f _ _ _ _ _ _ _ _ _ _ _ _ _ => by rw [e o (by omega)]⟩, r.set (fun z hz => e z (by omega)) (fun f _ => by rw [e o (by omega)]) (by rw [e o (by omega)]; exact r.1.2.2.2.1) hs⟩
theorem RM.append {h : jH} {k v sz : Int} (hk : spXk ns blk len b X) (r : RM h o ns blk len p X) : ∃ h', M_append h o k v sz = some ((spDAppend blk len k v sz X).1, h') ∧ RMf o h h' ∧ RM h' o ns blk len p (spDAppend blk len k v sz X).2 := by
  have hd := hk.dim
  have hl := hd.len
  have hi := hk.1.1.que
  have hm := r.2
  obtain ⟨m, q1, q2, q3, q4, q5, q6⟩ := hm
  have hq := q6.que
  have cn : spCanA blk len k v sz X.1 = true ↔ (X.1.2.2.2.2.2.2.2.2.2.1 = false ∧ spWtg X.1 < 16 ∧ 0 ≤ k ∧ k < 16 ∧ 0 ≤ v ∧ v < 1000 ∧ 0 ≤ sz ∧ sz < 41 ∧ spBeh blk len 6 5 (3 + sz.toNat) ≠ none) := by
    unfold spCanA
    simp only [Bool.and_eq_true, decide_eq_true_eq, Bool.not_eq_true', and_assoc]
  have hno : ¬ (spCanA blk len k v sz X.1 = true) → ∃ h', M_append_p51 h o = some ((spDAppend blk len k v sz X).1, h') ∧ RMf o h h' ∧ RM h' o ns blk len p (spDAppend blk len k v sz X).2 := by
    intro hno
    unfold spDAppend M_append_p51
    rw [if_neg hno, show M_refuses h o 2 = _ from m_refuses (k := 2) (by decide)]
    exact ⟨_, rfl, r.refuse (by decide)⟩
  unfold M_append
  rw [if_neg r.told, m_isIn]
  simp only [Option.bind_some]
  by_cases a1 : 0 ≤ k ∧ k ≤ 15
  rotate_left
  · rw [if_neg a1, if_pos rfl]; exact hno (fun h => by have := cn.mp h; omega)
  rw [if_pos a1, if_neg (by decide), m_isIn]
  simp only [Option.bind_some]
  by_cases a2 : 0 ≤ v ∧ v ≤ 999
  rotate_left
  · rw [if_neg a2, if_pos rfl]; exact hno (fun h => by have := cn.mp h; omega)
  rw [if_pos a2, if_neg (by decide), m_isIn]
  simp only [Option.bind_some]
  by_cases a3 : 0 ≤ sz ∧ sz ≤ 40
  rotate_left
  · rw [if_neg a3, if_pos rfl]; exact hno (fun h => by have := cn.mp h; omega)
  rw [if_pos a3, if_neg (by decide)]
  have hca : M_canAppend h o sz = some (if spCanA blk len k v sz X.1 = true then 1 else 0) := by
    unfold M_canAppend M_canAppend_p37
    rw [if_pos (by decide), show ((11 : Int)).toNat = 11 from rfl, show ((10 : Int)).toNat = 10 from rfl, hq.2.2.1, hq.2.2.2.1]
    by_cases b1 : spWtg X.1 < 16
    rotate_left
    · rw [if_neg (by omega), if_neg (fun h => b1 (cn.mp h).2.1)]
    rw [if_pos (by omega), if_pos (by decide)]
    by_cases b2 : X.1.2.2.2.2.2.2.2.2.2.1 = true
    · rw [if_neg (by rw [if_pos b2]; decide), if_neg (fun h => by have := (cn.mp h).1; rw [b2] at this; cases this)]
    have b2' : X.1.2.2.2.2.2.2.2.2.2.1 = false := by cases hq : X.1.2.2.2.2.2.2.2.2.2.1 with
      | true => exact absurd hq b2
      | false => rfl
    rw [if_pos (by rw [if_neg b2]), pw (by omega) (by omega)]
    have hr := m_hasRoom (k := 5) (left := 3 + sz.toNat) hd hq.2.2.2.2.2.2.2.2.1 (by omega) (by omega)
    rw [show ((5 : Nat) : Int) = 5 from rfl, show ((3 + sz.toNat : Nat) : Int) = 3 + sz by omega] at hr
    rw [hr]
    simp only [Option.bind_some]
    by_cases b3 : spBeh blk len 6 5 (3 + sz.toNat) = none
    · rw [if_pos b3, if_pos rfl, if_neg (fun h => (cn.mp h).2.2.2.2.2.2.2.2 b3)]
    · rw [if_neg b3, if_neg (by decide), if_pos (cn.mpr ⟨b2', b1, a1.1, by omega, a2.1, by omega, a3.1, by omega, b3⟩)]
  rw [hca]
  simp only [Option.bind_some]
  by_cases a : spCanA blk len k v sz X.1 = true
  rotate_left
  · rw [if_neg a, if_pos rfl]; exact hno a
  rw [if_pos a, if_neg (by decide)]
  unfold spDAppend
  rw [if_pos a]
  obtain ⟨g, e1, e2, e3, e4⟩ := r.rem hk
  rw [e1]
  simp only [Option.bind_some]
  have gs : MS g o ns blk len X.1.2.2.2.1.2 X.1 := e3.2.elim (fun m hm => hm.2.2.2.2.2)
  obtain ⟨g2, x1, x2, x3, x4⟩ := m_appends (k := k) (v := v) (sz := sz) gs hk.1.1 (cn.mp a).2.1
  rw [x1]
  simp only [Option.bind_some]
  rw [if_pos (by decide), show ((1 : Int)).toNat = 1 from rfl, x4, pw (by omega) (by omega)]
  have hu := e3.upd (s' := spApp k v sz X.1) x2 x3
  refine ⟨g2, ?_, e2.tr hu.1, hu.2⟩
  congr 2
  omega
theorem RM.crash {h : jH} {k : Int} (hk : spXk ns blk len b X) (hb : 66200 ≤ b) (r : RM h o ns blk len p X) : ∃ h', M_crash h o k = some ((spDCrash ns blk len k X).1, h') ∧ RMf o h h' ∧ RM h' o ns blk len p (spDCrash ns blk len k X).2 := by
  obtain ⟨m, q1, q2, q3, q4, q5, q6⟩ := r.2
  have hq := q6.que
  unfold M_crash M_crash_p23
  rw [if_neg r.told, if_pos (by decide), show ((4 : Int)).toNat = 4 from rfl, hq.2.2.2.2.2.1, m_isIn]
  simp only [Option.bind_some]
  unfold spDCrash
  by_cases a : 0 ≤ k ∧ k ≤ (X.1.2.1.1.length : Int)
  rotate_left
  · rw [if_neg a, if_neg a, if_pos rfl, show M_refuses h o 4 = _ from m_refuses (k := 4) (by decide)]
    exact ⟨_, rfl, r.refuse (by decide)⟩
  rw [if_pos a, if_pos a, if_neg (by decide)]
  obtain ⟨g, e1, e2, e3, e4⟩ := r.rem hk
  rw [e1]
  simp only [Option.bind_some]
  have gs : MS g o ns blk len X.1.2.2.2.1.2 X.1 := e3.2.elim (fun m hm => hm.2.2.2.2.2)
  obtain ⟨g2, x1, x2, x3, x4⟩ := m_crash (k := k.toNat) gs hk.1.1 (by omega)
  rw [show (k.toNat : Int) = k by omega] at x1
  rw [x1]
  simp only [Option.bind_some]
  have hq2 := x4.que
  have hl0 : (spCra ns blk len k.toNat X.1).2.2.1.1.length = 0 := rfl
  rw [if_pos (by decide), show ((1 : Int)).toNat = 1 from rfl, hq2.1, hl0]
  have x4' : MS g2 o ns blk len (spCra ns blk len k.toNat X.1).2.2.2.1.2 (spCra ns blk len k.toNat X.1) := x4
  refine ⟨g2, ?_, e2.tr ⟨fun z z1 _ z3 _ _ _ z7 _ _ => x2 z z1 z3 z7, fun f _ _ _ _ _ _ _ _ _ f10 _ _ _ => x3 f f10⟩, e3.set (fun z hz => x2 z (by omega) (by omega) (by omega)) (fun f hf => x3 f (by omega)) (by rw [x3 53 (by omega)]; exact e3.1.2.2.2.1) x4'⟩
  congr 2
  show _ + ((0 : Nat) : Int) = _
  omega
theorem RM.snap {h : jH} (hk : spXk ns blk len b X) (r : RM h o ns blk len p X) : ∃ h', M_snap h o = some ((spDSnap X).1, h') ∧ RMf o h h' ∧ RM h' o ns blk len p (spDSnap X).2 := by
  have hd := hk.dim
  obtain ⟨m, q1, q2, q3, q4, q5, q6⟩ := r.2
  have hq := q6.que
  have hno : ¬ (X.1.2.2.2.2.2.2.2.2.2.1 = false ∧ X.1.2.2.2.2.1.2.2.1 ≠ X.1.2.2.1.2.2) → ∃ h', M_snap_p34 h o = some ((spDSnap X).1, h') ∧ RMf o h h' ∧ RM h' o ns blk len p (spDSnap X).2 := by
    intro hno
    unfold spDSnap M_snap_p34
    rw [if_neg hno, show M_refuses h o 4 = _ from m_refuses (k := 4) (by decide)]
    exact ⟨_, rfl, r.refuse (by decide)⟩
  unfold M_snap
  rw [if_neg r.told, if_pos (by decide), show ((10 : Int)).toNat = 10 from rfl, hq.2.2.2.1]
  by_cases a1 : X.1.2.2.2.2.2.2.2.2.2.1 = true
  · rw [if_pos (by rw [if_pos a1])]; exact hno (fun h => by rw [a1] at h; cases h.1)
  have a1' : X.1.2.2.2.2.2.2.2.2.2.1 = false := by cases hq : X.1.2.2.2.2.2.2.2.2.2.1 with
    | true => exact absurd hq a1
    | false => rfl
  rw [if_neg (by rw [if_neg a1]; decide), if_pos (by decide), if_pos (by decide), show ((9 : Int)).toNat = 9 from rfl, show ((2 : Int)).toNat = 2 from rfl, hq.2.2.2.2.1, hq.2.1]
  by_cases a2 : X.1.2.2.2.2.1.2.2.1 = X.1.2.2.1.2.2
  · rw [if_pos a2]; exact hno (fun h => h.2 a2)
  rw [if_neg a2]
  unfold spDSnap
  rw [if_pos ⟨a1', a2⟩]
  obtain ⟨g, e1, e2, e3, e4⟩ := r.rem hk
  rw [e1]
  simp only [Option.bind_some]
  have gs : MS g o ns blk len X.1.2.2.2.1.2 X.1 := e3.2.elim (fun m hm => hm.2.2.2.2.2)
  have hw8 := hk.1.1.wt8
  obtain ⟨g2, x1, x2, x3⟩ := m_snp hd hw8 gs
  rw [gs.que.2.1, if_pos (by decide), if_pos (by decide), x1]
  have x3' : MS g2 o ns blk len (spSnp X.1).2.2.2.1.2 (spSnp X.1) := x3
  have hu := e3.upd x2 x3'
  exact ⟨g2, rfl, e2.tr hu.1, hu.2⟩
theorem RM.undo {h : jH} (hk : spXk ns blk len b X) (r : RM h o ns blk len p X) : ∃ h', M_undo h o = some ((spDUndo X).1, h') ∧ RMf o h h' ∧ RM h' o ns blk len p (spDUndo X).2 := by
  have r0 := r
  obtain ⟨⟨r1, r2, r3, r4, r5, r6⟩, m, q1, q2, q3, q4, q5, q6⟩ := r
  obtain ⟨s, past, rf⟩ := X
  cases past with
  | nil =>
    have q3' : h o 73 = 0 := q3
    unfold M_undo
    rw [if_pos q3', if_pos (by decide), if_pos (by decide)]
    exact ⟨_, rfl, r0.refuse (k := 5) (by decide)⟩
  | cons x past =>
    obtain ⟨g, e1, e2, e3, e4, e5, e6, e7⟩ := m_back (fun y hy => (hk.2 y (List.mem_cons_of_mem _ hy)).1) (hk.2 x List.mem_cons_self).1 q1 q2 q3 q4 q5
    have q4' : (x :: past).length ≤ 20 := q4
    rw [List.length_cons] at q4'
    exact ⟨g, e1, ⟨fun z z1 _ z3 _ _ _ _ _ _ => e2 z z1 z3, fun f _ _ _ _ _ _ _ _ _ _ f11 f12 _ => e3 f f11 f12⟩, ⟨by rw [e3 43 (by decide) (by decide)]; exact r1, by rw [e3 52 (by decide) (by decide)]; exact r2, by rw [e3 56 (by decide) (by decide)]; exact r3, by rw [e3 53 (by decide) (by decide)]; exact r4, r5.eq (e2 _ (by omega) (by omega)) (e2 _ (by omega) (by omega)) (e2 _ (by omega) (by omega)), fun i hi => by rw [e2 _ (by omega) (by omega)]; exact r6 i hi⟩, (m + 19) % 20, e4, Nat.mod_lt _ (by decide), e5, by show past.length ≤ 20; omega, e6, e7⟩
theorem RM.flip {h : jH} {s k : Int} (hk : spXk ns blk len b X) (r : RM h o ns blk len p X) : ∃ h', M_flip h o s k = some ((spDFlip ns len s k X).1, h') ∧ RMf o h h' ∧ RM h' o ns blk len p (spDFlip ns len s k X).2 := by
  have hd := hk.dim
  have hl := hd.len
  have hn4 := hd.2.1
  have hn2 := hd.1
  obtain ⟨m, q1, q2, q3, q4, q5, q6⟩ := r.2
  have hq := q6.que
  have hD := hq.2.2.2.2.2.2.2.2.1
  have hno : ¬ (0 ≤ s ∧ s < (ns : Int) ∧ 0 ≤ k ∧ k < (len : Int)) → ∃ h', M_flip_p24 h o = some ((spDFlip ns len s k X).1, h') ∧ RMf o h h' ∧ RM h' o ns blk len p (spDFlip ns len s k X).2 := by
    intro hno
    unfold spDFlip M_flip_p24
    rw [if_neg hno, show M_refuses h o 4 = _ from m_refuses (k := 4) (by decide)]
    exact ⟨_, rfl, r.refuse (by decide)⟩
  have hsg : M_isSegment h o s = some (if 0 ≤ s ∧ s ≤ (ns : Int) - 1 then 1 else 0) := by
    unfold M_isSegment M_isSegment_p27 M_segmentMany
    rw [if_neg r.told, if_pos (by decide), show ((5 : Int)).toNat = 5 from rfl, hD.1]
    simp only [Option.bind_some]
    rw [pw (by omega) (by omega), m_isIn]
    simp only [Option.bind_some]
    by_cases a : 0 ≤ s ∧ s ≤ (ns : Int) - 1
    · rw [if_pos a, if_neg (by decide)]
    · rw [if_neg a, if_pos rfl]
  have hln : M_length h o = some (len : Int) := by
    unfold M_length
    rw [if_pos (by decide), if_pos (by decide), show ((6 : Int)).toNat = 6 from rfl, show ((7 : Int)).toNat = 7 from rfl, hD.2.2.1, pw (by omega) (by omega)]
  unfold M_flip
  rw [hsg]
  simp only [Option.bind_some]
  by_cases a1 : 0 ≤ s ∧ s ≤ (ns : Int) - 1
  rotate_left
  · rw [if_neg a1, if_pos rfl]; exact hno (by omega)
  rw [if_pos a1, if_neg (by decide), hln]
  simp only [Option.bind_some]
  rw [pw (by omega) (by omega), m_isIn]
  simp only [Option.bind_some]
  by_cases a2 : 0 ≤ k ∧ k ≤ (len : Int) - 1
  rotate_left
  · rw [if_neg a2, if_pos rfl]; exact hno (by omega)
  rw [if_pos a2, if_neg (by decide)]
  unfold spDFlip
  rw [if_pos (by omega)]
  obtain ⟨g, e1, e2, e3, e4⟩ := r.rem hk
  rw [e1]
  simp only [Option.bind_some]
  have gs : MS g o ns blk len X.1.2.2.2.1.2 X.1 := e3.2.elim (fun m hm => hm.2.2.2.2.2)
  obtain ⟨g2, x1, x2, x3⟩ := m_flp (s' := s.toNat) (k := k.toNat) (by omega) (by omega) gs hk.1.1
  rw [show wr (wr (128 * s) + k) = ((128 * s.toNat + k.toNat : Nat) : Int) by rw [pw (x := 128 * s) (by omega) (by omega), pw (by omega) (by omega)]; omega, x1]
  simp only [Option.bind_some]
  have hD2 := x3.que.2.2.2.2.2.2.2.2.1
  have hv : (spFlp s.toNat k.toNat X.1).1.1 s.toNat k.toNat = 255 - X.1.1.1 s.toNat k.toNat := by
    show up2 _ _ _ _ _ _ = _
    unfold up2
    rw [if_pos ⟨rfl, rfl⟩]
  have ho := m_at (h := g2) (o := o) (s := s.toNat) (k := k.toNat) (by omega) (by omega)
  rw [show (s.toNat : Int) = s by omega, show (k.toNat : Int) = k by omega, hD2.2.2.2.1 s.toNat k.toNat (by omega) (by omega), hv] at ho
  rw [ho]
  have x3' : MS g2 o ns blk len (spFlp s.toNat k.toNat X.1).2.2.2.1.2 (spFlp s.toNat k.toNat X.1) := x3
  have hu := e3.upd x2 x3'
  exact ⟨g2, rfl, e2.tr hu.1, hu.2⟩
theorem RM.giveUp {h : jH} (hk : spXk ns blk len b X) (r : RM h o ns blk len p X) : ∃ h', M_giveUp h o = some ((spDGive ns len X).1, h') ∧ RMf o h h' ∧ RM h' o ns blk len p (spDGive ns len X).2 := by
  obtain ⟨m, q1, q2, q3, q4, q5, q6⟩ := r.2
  have hq := q6.que
  unfold M_giveUp spDGive
  rw [if_pos (by decide), show ((10 : Int)).toNat = 10 from rfl, hq.2.2.2.1]
  by_cases a : X.1.2.2.2.2.2.2.2.2.2.1 = true
  rotate_left
  · rw [if_pos (by rw [if_neg a]), if_neg a, show M_refuses h o 4 = _ from m_refuses (k := 4) (by decide)]
    exact ⟨_, rfl, r.refuse (by decide)⟩
  rw [if_neg (by rw [if_pos a]; decide), if_pos a]
  obtain ⟨g, e1, e2, e3, e4⟩ := r.rem hk
  rw [e1]
  simp only [Option.bind_some]
  have gs : MS g o ns blk len X.1.2.2.2.1.2 X.1 := e3.2.elim (fun m hm => hm.2.2.2.2.2)
  obtain ⟨g2, x1, x2, x3⟩ := m_giv gs hk.1.1 hk.1.2 a
  have hkp : (spGiv ns len X.1).1.2.2.2.1.2 = X.1.2.2.2.1.2 := by unfold spGiv; dsimp only; split <;> rfl
  rw [← hkp] at x3
  have hu := e3.upd x2 x3
  rw [if_pos (by decide), show ((7 : Int)).toNat = 7 from rfl]
  refine ⟨g2, ?_, e2.tr hu.1, hu.2⟩
  rw [← x1]
  by_cases z : g (o + 33) 7 = 0
  · rw [if_pos z, if_pos z]
  · rw [if_neg z, if_neg z]
theorem RM.waits {h : jH} {who num : Int} (hk : spXk ns blk len b X) (r : RM h o ns blk len p X) : ∃ h', M_waits h o who num = some ((spDWaits who num X).1, h') ∧ RMf o h h' ∧ RM h' o ns blk len p (spDWaits who num X).2 := by
  have hi := hk.1.1.que
  obtain ⟨m, q1, q2, q3, q4, q5, q6⟩ := r.2
  have hq := q6.que
  have hno : ¬ (0 ≤ who ∧ who < 8 ∧ X.1.2.2.1.2.2 ≤ num ∧ num < X.1.2.2.1.2.2 + (X.1.2.2.1.1.length : Int) ∧ spAw X.1.2.2.2.1.1 who = -1) → ∃ h', M_waits_p57 h o = some ((spDWaits who num X).1, h') ∧ RMf o h h' ∧ RM h' o ns blk len p (spDWaits who num X).2 := by
    intro hno
    unfold spDWaits M_waits_p57
    rw [if_neg hno, show M_isRefused h o 2 = _ from m_isRefused (k := 2) (by decide)]
    simp only [Option.bind_some]
    rw [if_pos (Or.inl trivial)]
    exact ⟨_, rfl, r.refuse (by decide)⟩
  unfold M_waits
  rw [if_neg r.told, m_isIn]
  simp only [Option.bind_some]
  by_cases a1 : 0 ≤ who ∧ who ≤ 7
  rotate_left
  · rw [if_neg a1, if_pos rfl]; exact hno (by omega)
  have haw := hq.2.2.2.2.2.2.2.1 who.toNat (by omega)
  rw [show (who.toNat : Int) = who by omega] at haw
  rw [if_pos a1, if_neg (by decide), pw (x := 184 + who) (by omega) (by omega), if_pos (by omega), show (184 + who).toNat = 184 + who.toNat by omega, haw]
  by_cases a2 : spAw X.1.2.2.2.1.1 who = -1
  rotate_left
  · rw [if_neg a2]; exact hno (fun h => a2 h.2.2.2.2)
  rw [if_pos a2, if_pos (by decide), if_pos (by decide), show ((2 : Int)).toNat = 2 from rfl, show ((1 : Int)).toNat = 1 from rfl, hq.2.1, hq.1, pw (by omega) (by omega), m_isIn]
  simp only [Option.bind_some]
  by_cases a3 : X.1.2.2.1.2.2 ≤ num ∧ num ≤ X.1.2.2.1.2.2 + (X.1.2.2.1.1.length : Int) - 1
  rotate_left
  · rw [if_neg a3, if_pos rfl]; exact hno (by omega)
  rw [if_pos a3, if_neg (by decide)]
  unfold spDWaits
  rw [if_pos ⟨a1.1, by omega, a3.1, by omega, a2⟩]
  obtain ⟨g, e1, e2, e3, e4⟩ := r.rem hk
  rw [e1]
  simp only [Option.bind_some]
  have gs : MS g o ns blk len X.1.2.2.2.1.2 X.1 := e3.2.elim (fun m hm => hm.2.2.2.2.2)
  have hwl := spWai_len (who := who) hk.1.1 ⟨a1.1, by omega⟩ a2
  have x3 := m_wai (who := who.toNat) (num := num) gs hk.1.1 (by omega) (by rw [show (who.toNat : Int) = who by omega]; exact a2)
  rw [show (who.toNat : Int) = who by omega] at x3
  have e12 : g (o + 33) 12 = (X.1.2.2.2.1.1.length : Int) := gs.que.2.2.2.2.2.2.1
  have n12 : ∀ w : Int, (jup g (o + 33) (184 + who.toNat) w) (o + 33) 12 = (X.1.2.2.2.1.1.length : Int) := fun w => by rw [ju_ne (by omega)]; exact e12
  simp only [show ((12 : Int)).toNat = 12 from rfl]
  rw [n12, pw (x := 176 + (X.1.2.2.2.1.1.length : Int)) (by omega) (by omega), show (176 + (X.1.2.2.2.1.1.length : Int)).toNat = 176 + X.1.2.2.2.1.1.length by omega, ju_ne (show (12 : Nat) ≠ 176 + X.1.2.2.2.1.1.length by omega), n12, pw (x := (X.1.2.2.2.1.1.length : Int) + 1) (by omega) (by omega)]
  rw [if_pos (by omega), if_pos (by decide), if_pos (by omega), if_pos (by decide), if_pos (by decide)]
  obtain ⟨g2, hg2⟩ : ∃ g2 : jH, g2 = (jup (jup (jup g (o + 33) (184 + who.toNat) num) (o + 33) (176 + X.1.2.2.2.1.1.length) who) (o + 33) 12 ((X.1.2.2.2.1.1.length : Int) + 1)) := ⟨_, rfl⟩
  rw [← hg2] at x3 ⊢
  have x3' : MS g2 o ns blk len (spWai who num X.1).2.2.2.1.2 (spWai who num X.1) := x3
  have hu := e3.upd (fun z hz => by rw [hg2, jup_ne hz, jup_ne hz, jup_ne hz]) x3'
  exact ⟨g2, rfl, e2.tr hu.1, hu.2⟩
end MACT
