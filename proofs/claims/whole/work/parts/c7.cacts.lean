/-! the acts, and the class's -/
def spDAppend (blk len : Nat) (k v sz : Int) (X : spX) : Int × spX := if spCanA blk len k v sz X.1 = true then (X.1.2.2.1.2.2 + (X.1.2.2.1.1.length : Int), spTo (spApp k v sz X.1) (spRem X)) else (-1, spRfu 2 X)
def spDCrash (ns blk len : Nat) (k : Int) (X : spX) : Int × spX := if 0 ≤ k ∧ k ≤ (X.1.2.1.1.length : Int) then ((spCra ns blk len k.toNat X.1).2.2.1.2.2, spTo (spCra ns blk len k.toNat X.1) (spRem X)) else (-1, spRfu 4 X)
def spDSnap (X : spX) : Int × spX := if X.1.2.2.2.2.2.2.2.2.2.1 = false ∧ X.1.2.2.2.2.1.2.2.1 ≠ X.1.2.2.1.2.2 then (X.1.2.2.1.2.2, spTo (spSnp X.1) (spRem X)) else (-1, spRfu 4 X)
def spDFlip (ns len : Nat) (s k : Int) (X : spX) : Int × spX := if 0 ≤ s ∧ s < (ns : Int) ∧ 0 ≤ k ∧ k < (len : Int) then (255 - X.1.1.1 s.toNat k.toNat, spTo (spFlp s.toNat k.toNat X.1) (spRem X)) else (-1, spRfu 4 X)
def spDWaits (who num : Int) (X : spX) : Int × spX := if 0 ≤ who ∧ who < 8 ∧ X.1.2.2.1.2.2 ≤ num ∧ num < X.1.2.2.1.2.2 + (X.1.2.2.1.1.length : Int) ∧ spAw X.1.2.2.2.1.1 who = -1 then (1, spTo (spWai who num X.1) (spRem X)) else (0, spRfu 2 X)
def spDGive (ns len : Nat) (X : spX) : Int × spX := if X.1.2.2.2.2.2.2.2.2.2.1 = true then ((spGiv ns len X.1).2, spTo (spGiv ns len X.1).1 (spRem X)) else (-1, spRfu 4 X)
def spDUndo (X : spX) : Int × spX := match X.2.1 with
  | [] => (0, spRfu 5 X)
  | x :: past => (1, (x, past, X.2.2))
section CACT
variable {T : jT} {o0 pl ns blk len B : Nat} {p : spPl} {X : spX} {b : Int}
theorem spXk.dim (hk : spXk ns blk len b X) : spDim ns blk len := by
  obtain ⟨s, past, rf⟩ := X
  obtain ⟨⟨D, C⟩, ⟨F, lf⟩, ⟨q, fl, first⟩, ⟨wt, kp⟩, ⟨tab, stab, snap, tops⟩, ⟨sg, at', ser, gr, hl, tk⟩⟩ := s
  exact hk.1.1.1.1
theorem CS.que {h : jH} {o n : Nat} {s : spSt} (hs : CS h o ns blk len n s) : h (o + 7) 4 = s.2.2.1.2.2 ∧ h (o + 7) 6 = (s.2.2.1.1.length : Int) ∧ h o 14 = (if s.2.2.2.2.2.2.2.2.2.1 = true then 1 else 0) ∧ h o 7 = s.2.2.2.2.1.2.2.1 ∧ h (o + 4) 2 = (s.2.1.1.length : Int) ∧ CW h (o + 12) s.2.2.2.1.1 ∧ CD h (o + 1) ns blk len s.1.1 s.1.2 ∧ h o 9 = s.2.2.2.2.2.2.2.2.2.2 := by
  obtain ⟨⟨D, C⟩, ⟨F, lf⟩, ⟨q, fl, first⟩, ⟨wt, kp⟩, ⟨tab, stab, snap, tops⟩, ⟨sg, at', ser, gr, hl, tk⟩⟩ := s
  obtain ⟨c1, ⟨c2, c2'⟩, c3, ⟨c4, c4'⟩, ⟨t1, t2, t3, t4⟩, p1, p2, p3, p4, p5, p6⟩ := hs
  exact ⟨c3.1, c3.2.2.1, p5, t3, c2.1, c4, c1, p6⟩
theorem spInv.que {s : spSt} (hI : spInv ns blk len b s) : 0 ≤ s.2.2.1.2.2 ∧ s.2.2.1.2.2 + (s.2.2.1.1.length : Int) ≤ b ∧ b ≤ 700000 ∧ s.2.2.1.2.1 ≤ s.2.2.1.1.length ∧ s.2.2.1.1.length ≤ s.2.2.1.2.1 + 16 ∧ s.2.2.1.2.1 ≤ 16 ∧ spByD ns len s.1.1 ∧ s.2.1.1.length ≤ 512 ∧ 0 ≤ s.2.2.2.2.2.2.2.2.2.2 ∧ s.2.2.2.2.2.2.2.2.2.2 ≤ 999 := by
  have hF := spInv_F hI
  obtain ⟨⟨D, C⟩, ⟨F, lf⟩, ⟨q, fl, first⟩, ⟨wt, kp⟩, ⟨tab, stab, snap, tops⟩, ⟨sg, at', ser, gr, hl, tk⟩⟩ := s
  obtain ⟨i1, i2, ⟨j1, j2, j3, j4, j5, j6, j7, j8⟩, i4, i5, i6, i7⟩ := hI
  exact ⟨by show 0 ≤ first; omega, j7, j8, j2, j4, j3, i1.2.1, hF, i6.2.2.2.2.1, i6.2.2.2.2.2⟩
theorem RC.append {h : jH} {k v sz : Int} (hk : spXk ns blk len b X) (r : RC T h o0 pl ns blk len p B X) : ∃ h', G_append T h o0 k v sz = some ((spDAppend blk len k v sz X).1, h') ∧ RCf o0 pl h h' ∧ RC T h' o0 pl ns blk len p B (spDAppend blk len k v sz X).2 := by
  have hd := hk.dim
  unfold G_append G_append_p20
  rw [r.told hd]
  simp only [Option.bind_some]
  rw [if_neg (by decide)]
  have r0 := r
  obtain ⟨⟨r1, r2, r3, r4, r5, r6, r7⟩, c, n, q1, q2, q3, q4, q5, q6, q7⟩ := r
  rw [c_takes q5 hk.1.1]
  simp only [Option.bind_some]
  unfold spDAppend
  by_cases a : spCanA blk len k v sz X.1 = true
  rotate_left
  · rw [if_neg a, if_neg a, if_pos rfl]
    obtain ⟨g, e1, e2, e3⟩ := r0.refuse (k := 2) (by decide)
    rw [show G_refuse h o0 2 = _ from e1]
    exact ⟨g, rfl, e2, e3⟩
  rw [if_pos a, if_pos a, if_neg (by decide)]
  obtain ⟨g, e1, e2, e3, e4⟩ := r0.rem hk
  rw [e1]
  simp only [Option.bind_some]
  have gs : CS g (o0 + 35) ns blk len n X.1 := q5.eq (fun z z1 z2 => e4 z (by omega) (by omega))
  have hw : spWtg X.1 < 16 := by
    unfold spCanA at a
    simp only [Bool.and_eq_true, decide_eq_true_eq] at a
    exact a.1.1.1.1.1.1.1.2
  obtain ⟨g2, x1, x2, x3⟩ := c_addQ (k := k) (v := v) (sz := sz) gs hk.1.1 hw
  rw [show Qu_add g (o0 + 42) k v sz (g (o0 + 35) 9) = _ from x1]
  simp only [Option.bind_some]
  unfold Qu_behindLast
  simp only [Option.bind_some]
  have hq := x3.que
  have hi := hk.1.1.que
  have hln : (spApp k v sz X.1).2.2.1.1.length = X.1.2.2.1.1.length + 1 := by
    show (X.1.2.2.1.1 ++ [_]).length = _
    rw [List.length_append]; rfl
  have hwt : (spApp k v sz X.1).2.2.2.1.1.length = X.1.2.2.2.1.1.length := rfl
  refine ⟨g2, ?_, e2.tr ⟨fun z _ _ _ z4 => x2 z (by omega), fun f _ _ => by rw [x2 o0 (by omega)]⟩, e3.set (Nat.le_refl _) (fun z z1 z2 => x2 z (by omega)) (CPl.eq e3.1.2.2.2.2.2.1 (fun z z1 z2 => x2 z (by omega))) x3 (by rw [hwt]; exact q6) (by rw [x2 _ (by omega), e4 _ (by omega) (by omega)]; exact q7)⟩
  have e42 : g2 (o0 + 42) 4 = X.1.2.2.1.2.2 := hq.1
  have e46 : g2 (o0 + 42) 6 = ((X.1.2.2.1.1.length + 1 : Nat) : Int) := by rw [← hln]; exact hq.2.1
  rw [e42, e46, pw (x := X.1.2.2.1.2.2 + ((X.1.2.2.1.1.length + 1 : Nat) : Int)) (by omega) (by omega), pw (by omega) (by omega)]
  congr 2
  omega
theorem RC.crash {h : jH} {k : Int} (hk : spXk ns blk len b X) (hb : 66200 ≤ b) (r : RC T h o0 pl ns blk len p B X) : ∃ h', G_crash T h o0 k = some ((spDCrash ns blk len k X).1, h') ∧ RCf o0 pl h h' ∧ RC T h' o0 pl ns blk len p B (spDCrash ns blk len k X).2 := by
  have hd := hk.dim
  unfold G_crash G_crash_p25
  rw [r.told hd]
  simp only [Option.bind_some]
  rw [if_neg (by decide)]
  have r0 := r
  obtain ⟨⟨r1, r2, r3, r4, r5, r6, r7⟩, c, n, q1, q2, q3, q4, q5, q6, q7⟩ := r
  have hq := q5.que
  have e39 : h (o0 + 39) 2 = (X.1.2.1.1.length : Int) := hq.2.2.2.2.1
  rw [e39]
  have hno : ¬ (0 ≤ k ∧ k ≤ (X.1.2.1.1.length : Int)) → ∃ h', Option.bind (G_refuse h o0 4) (fun b8 => some (b8.1, b8.2)) = some ((spDCrash ns blk len k X).1, h') ∧ RCf o0 pl h h' ∧ RC T h' o0 pl ns blk len p B (spDCrash ns blk len k X).2 := by
    intro hno
    unfold spDCrash
    rw [if_neg hno]
    obtain ⟨g, e1, e2, e3⟩ := r0.refuse (k := 4) (by decide)
    rw [show G_refuse h o0 4 = _ from e1]
    exact ⟨g, rfl, e2, e3⟩
  by_cases a1 : k < 0
  · rw [if_pos a1]; exact hno (by omega)
  rw [if_neg a1]
  by_cases a2 : (X.1.2.1.1.length : Int) < k
  · rw [if_pos a2]; exact hno (by omega)
  rw [if_neg a2]
  unfold spDCrash
  rw [if_pos ⟨by omega, by omega⟩]
  obtain ⟨g, e1, e2, e3, e4⟩ := r0.rem hk
  rw [e1]
  simp only [Option.bind_some]
  have gs : CS g (o0 + 35) ns blk len n X.1 := q5.eq (fun z z1 z2 => e4 z (by omega) (by omega))
  obtain ⟨g2, x1, x2, x3, x4⟩ := c_crash (rc := o0 + 79) (k := k.toNat) (by omega) gs hk.1.1 (by omega)
  rw [show (k.toNat : Int) = k by omega] at x1
  rw [x1]
  simp only [Option.bind_some]
  unfold Qu_behindLast
  simp only [Option.bind_some]
  have hI2 := spInv_cra (k := k.toNat) hb hk.1.1
  have hi := hI2.que
  have hq2 := x4.que
  have hw0 : (spCra ns blk len k.toNat X.1).2.2.2.1.1.length = 0 := rfl
  have hl0 : (spCra ns blk len k.toNat X.1).2.2.1.1.length = 0 := rfl
  refine ⟨g2, ?_, e2.tr ⟨fun z _ _ _ z4 => x2 z (by omega) (by omega), fun f _ _ => by rw [x2 o0 (by omega) (by omega)]⟩, e3.set (Nat.le_refl _) (fun z z1 z2 => x2 z (by omega) (by omega)) (CPl.eq e3.1.2.2.2.2.2.1 (fun z z1 z2 => x2 z (by omega) (by omega))) x4 (by rw [hw0]; omega) (by rw [x3, e4 _ (by omega) (by omega)]; exact q7)⟩
  have e42 : g2 (o0 + 42) 4 = (spCra ns blk len k.toNat X.1).2.2.1.2.2 := hq2.1
  have e46 : g2 (o0 + 42) 6 = ((0 : Nat) : Int) := by rw [← hl0]; exact hq2.2.1
  rw [e42, e46, pw (by omega) (by omega)]
  congr 2
  omega
theorem RC.snap {h : jH} (hk : spXk ns blk len b X) (r : RC T h o0 pl ns blk len p B X) : ∃ h', G_snap T h o0 = some ((spDSnap X).1, h') ∧ RCf o0 pl h h' ∧ RC T h' o0 pl ns blk len p B (spDSnap X).2 := by
  have hd := hk.dim
  unfold G_snap G_snap_p37
  rw [r.told hd]
  simp only [Option.bind_some]
  rw [if_neg (by decide)]
  have r0 := r
  obtain ⟨⟨r1, r2, r3, r4, r5, r6, r7⟩, c, n, q1, q2, q3, q4, q5, q6, q7⟩ := r
  have hq := q5.que
  have e42 : h (o0 + 42) 4 = X.1.2.2.1.2.2 := hq.1
  rw [hq.2.2.1, hq.2.2.2.1, e42]
  have hno : ¬ (X.1.2.2.2.2.2.2.2.2.2.1 = false ∧ X.1.2.2.2.2.1.2.2.1 ≠ X.1.2.2.1.2.2) → ∃ h', Option.bind (G_refuse h o0 4) (fun b8 => some (b8.1, b8.2)) = some ((spDSnap X).1, h') ∧ RCf o0 pl h h' ∧ RC T h' o0 pl ns blk len p B (spDSnap X).2 := by
    intro hno
    unfold spDSnap
    rw [if_neg hno]
    obtain ⟨g, e1, e2, e3⟩ := r0.refuse (k := 4) (by decide)
    rw [show G_refuse h o0 4 = _ from e1]
    exact ⟨g, rfl, e2, e3⟩
  by_cases a1 : X.1.2.2.2.2.2.2.2.2.2.1 = true
  · rw [if_neg (by rw [if_pos a1]; decide)]; exact hno (fun h => by rw [a1] at h; cases h.1)
  have a1' : X.1.2.2.2.2.2.2.2.2.2.1 = false := by cases hq : X.1.2.2.2.2.2.2.2.2.2.1 with
    | true => exact absurd hq a1
    | false => rfl
  rw [if_pos (by rw [if_neg a1])]
  by_cases a2 : X.1.2.2.2.2.1.2.2.1 = X.1.2.2.1.2.2
  · rw [if_pos a2]; exact hno (fun h => h.2 a2)
  rw [if_neg a2]
  unfold spDSnap
  rw [if_pos ⟨a1', a2⟩]
  obtain ⟨g, e1, e2, e3, e4⟩ := r0.rem hk
  rw [e1]
  simp only [Option.bind_some]
  have gs : CS g (o0 + 35) ns blk len n X.1 := q5.eq (fun z z1 z2 => e4 z (by omega) (by omega))
  obtain ⟨g2, x1, x2, x3, x4, x5⟩ := c_snp gs
  rw [x1]
  simp only [Option.bind_some]
  rw [x5]
  have hwt : (spSnp X.1).2.2.2.1.1.length = X.1.2.2.2.1.1.length := rfl
  exact ⟨g2, rfl, e2.tr ⟨fun z _ _ _ z4 => x2 z (by omega) (by omega), fun f _ _ => by rw [x2 o0 (by omega) (by omega)]⟩, e3.set (Nat.le_refl _) (fun z z1 z2 => x2 z (by omega) (by omega)) (CPl.eq e3.1.2.2.2.2.2.1 (fun z z1 z2 => x2 z (by omega) (by omega))) x4 (by rw [hwt]; exact q6) (by rw [x3, e4 _ (by omega) (by omega)]; exact q7)⟩
theorem RC.flip {h : jH} {s k : Int} (hk : spXk ns blk len b X) (r : RC T h o0 pl ns blk len p B X) : ∃ h', G_flip T h o0 s k = some ((spDFlip ns len s k X).1, h') ∧ RCf o0 pl h h' ∧ RC T h' o0 pl ns blk len p B (spDFlip ns len s k X).2 := by
  have hd := hk.dim
  have hl := hd.len
  have hn4 := hd.2.1
  unfold G_flip
  have r0 := r
  obtain ⟨⟨r1, r2, r3, r4, r5, r6, r7⟩, c, n, q1, q2, q3, q4, q5, q6, q7⟩ := r
  have hq := q5.que
  have hD : CD h (o0 + 36) ns blk len X.1.1.1 X.1.1.2 := hq.2.2.2.2.2.2.1
  have hH : Di_holds h (o0 + 36) s k = some (if 0 ≤ s ∧ s < (ns : Int) ∧ 0 ≤ k ∧ k < (len : Int) then 1 else 0) := by
    unfold Di_holds Di_holds_p28
    rw [hD.1, hD.2.1]
    by_cases a1 : s < 0
    · rw [if_pos a1, if_neg (by omega)]
    rw [if_neg a1]
    by_cases a2 : s < (ns : Int)
    rotate_left
    · rw [if_neg a2, if_neg (by omega)]
    rw [if_pos a2]
    by_cases a3 : k < 0
    · rw [if_pos a3, if_neg (by omega)]
    rw [if_neg a3]
    by_cases a4 : k < (len : Int)
    · rw [if_pos a4, if_pos (by omega)]
    · rw [if_neg a4, if_neg (by omega)]
  rw [hH]
  simp only [Option.bind_some]
  unfold spDFlip
  by_cases a : 0 ≤ s ∧ s < (ns : Int) ∧ 0 ≤ k ∧ k < (len : Int)
  rotate_left
  · rw [if_neg a, if_neg a, if_pos rfl]
    obtain ⟨g, e1, e2, e3⟩ := r0.refuse (k := 4) (by decide)
    rw [show G_refuse h o0 4 = _ from e1]
    exact ⟨g, rfl, e2, e3⟩
  rw [if_pos a, if_pos a, if_neg (by decide)]
  obtain ⟨g, e1, e2, e3, e4⟩ := r0.rem hk
  rw [e1]
  simp only [Option.bind_some]
  have gs : CS g (o0 + 35) ns blk len n X.1 := q5.eq (fun z z1 z2 => e4 z (by omega) (by omega))
  have g3 : g (o0 + 36) 3 = (len : Int) := by rw [e4 _ (by omega) (by omega)]; exact hD.2.1
  have hadr := hd.adr (s := s.toNat) (k := k.toNat) (by omega) (by omega)
  have hmul : s * (len : Int) = ((s.toNat * len : Nat) : Int) := by
    rw [Int.natCast_mul, show (s.toNat : Int) = s by omega]
  have ea : wr (wr (s * g (o0 + 36) 3) + k) = ((s.toNat * len + k.toNat : Nat) : Int) := by
    rw [g3, hmul, pw (x := ((s.toNat * len : Nat) : Int)) (by omega) (by omega), pw (by omega) (by omega)]
    omega
  rw [ea]
  obtain ⟨g2, x1, x2, x3⟩ := c_flp (s' := s.toNat) (k := k.toNat) (by omega) (by omega) gs hk.1.1
  rw [show Di_turn g (o0 + 36) ((s.toNat * len + k.toNat : Nat) : Int) = _ from x1]
  simp only [Option.bind_some]
  have hD2 : CD g2 (o0 + 36) ns blk len (spFlp s.toNat k.toNat X.1).1.1 (spFlp s.toNat k.toNat X.1).1.2 := x3.que.2.2.2.2.2.2.1
  have ho := c_oct (s := s.toNat) (k := k.toNat) hd hD2 (by omega) (by omega)
  rw [show (s.toNat : Int) = s by omega, show (k.toNat : Int) = k by omega] at ho
  rw [ho]
  have hv : (spFlp s.toNat k.toNat X.1).1.1 s.toNat k.toNat = 255 - X.1.1.1 s.toNat k.toNat := by
    show up2 _ _ _ _ _ _ = _
    unfold up2
    rw [if_pos ⟨rfl, rfl⟩]
  have hwt : (spFlp s.toNat k.toNat X.1).2.2.2.1.1.length = X.1.2.2.2.1.1.length := rfl
  rw [hv]
  exact ⟨g2, rfl, e2.tr ⟨fun z _ _ _ z4 => x2 z (by omega) (by omega), fun f _ _ => by rw [x2 o0 (by omega) (by omega)]⟩, e3.set (Nat.le_refl _) (fun z z1 z2 => x2 z (by omega) (by omega)) (CPl.eq e3.1.2.2.2.2.2.1 (fun z z1 z2 => x2 z (by omega) (by omega))) x3 (by rw [hwt]; exact q6) (by rw [x2 _ (by omega) (by omega), e4 _ (by omega) (by omega)]; exact q7)⟩
theorem RC.deny {h : jH} {k : Nat} (hk : k < 7) (r : RC T h o0 pl ns blk len p B X) : ∃ h', G_deny h o0 (k : Int) = some (0, h') ∧ RCf o0 pl h h' ∧ RC T h' o0 pl ns blk len p B (spRfu k X) := by
  obtain ⟨g, e1, e2, e3⟩ := r.refuse hk
  unfold G_deny
  rw [e1]
  exact ⟨g, rfl, e2, e3⟩
theorem RC.waits {h : jH} {who num : Int} (hk : spXk ns blk len b X) (r : RC T h o0 pl ns blk len p B X) : ∃ h', G_waits T h o0 who num = some ((spDWaits who num X).1, h') ∧ RCf o0 pl h h' ∧ RC T h' o0 pl ns blk len p (B + 1) (spDWaits who num X).2 := by
  have hd := hk.dim
  have r0 := r
  obtain ⟨⟨r1, r2, r3, r4, r5, r6, r7⟩, c, n, q1, q2, q3, q4, q5, q6, q7⟩ := r
  have hq := q5.que
  have hi := hk.1.1.que
  have e42 : h (o0 + 42) 4 = X.1.2.2.1.2.2 := hq.1
  have e46 : h (o0 + 42) 6 = (X.1.2.2.1.1.length : Int) := hq.2.1
  have hno : ¬ (0 ≤ who ∧ who < 8 ∧ X.1.2.2.1.2.2 ≤ num ∧ num < X.1.2.2.1.2.2 + (X.1.2.2.1.1.length : Int) ∧ spAw X.1.2.2.2.1.1 who = -1) → ∃ h', G_waits_p63 T h o0 = some ((spDWaits who num X).1, h') ∧ RCf o0 pl h h' ∧ RC T h' o0 pl ns blk len p (B + 1) (spDWaits who num X).2 := by
    intro hno
    unfold spDWaits G_waits_p63
    rw [if_neg hno]
    obtain ⟨g, e1, e2, e3⟩ := r0.deny (k := 2) (by decide)
    rw [show G_deny h o0 2 = _ from e1]
    simp only [Option.bind_some]
    rw [if_pos (Or.inl trivial)]
    refine ⟨g, rfl, e2, ?_⟩
    obtain ⟨y1, c', n', y2, y3, y4, y5, y6, y7, y8⟩ := e3
    exact ⟨y1, c', n', y2, y3, y4, y5.mono (by omega), y6, by omega, y8⟩
  unfold G_waits G_waits_p32
  rw [e42]
  by_cases a1 : num < X.1.2.2.1.2.2
  · rw [if_pos a1]
    unfold G_waits_p33
    rw [if_pos rfl]
    exact hno (by omega)
  rw [if_neg a1]
  unfold Qu_behindLast
  rw [e42, e46, pw (by omega) (by omega)]
  simp only [Option.bind_some]
  by_cases a2 : num < X.1.2.2.1.2.2 + (X.1.2.2.1.1.length : Int)
  rotate_left
  · rw [if_neg a2]
    unfold G_waits_p33
    rw [if_pos rfl]
    exact hno (by omega)
  rw [if_pos a2]
  unfold G_waits_p33
  rw [if_neg (by decide)]
  by_cases a3 : who < 0
  · rw [if_pos a3]; exact hno (by omega)
  rw [if_neg a3]
  by_cases a4 : who < 8
  rotate_left
  · rw [if_neg a4]; exact hno (by omega)
  rw [if_pos a4, show Wa_awaitedBy h (o0 + 47) who = _ from c_aw hq.2.2.2.2.2.1]
  simp only [Option.bind_some]
  by_cases a5 : spAw X.1.2.2.2.1.1 who = -1
  rotate_left
  · rw [if_neg a5]; exact hno (fun h => a5 h.2.2.2.2)
  rw [if_pos a5]
  unfold spDWaits
  rw [if_pos ⟨by omega, a4, by omega, a2, a5⟩]
  obtain ⟨g, e1, e2, e3, e4⟩ := r0.rem hk
  rw [e1]
  simp only [Option.bind_some]
  have gs : CS g (o0 + 35) ns blk len n X.1 := q5.eq (fun z z1 z2 => e4 z (by omega) (by omega))
  have hwl := spWai_len (who := who) hk.1.1 ⟨by omega, a4⟩ a5
  obtain ⟨g2, x1, x2, x3⟩ := c_wai (who := who) (num := num) gs hwl.1
  rw [show Wa_add g (o0 + 47) who num = _ from x1]
  simp only [Option.bind_some]
  have hwt : (spWai who num X.1).2.2.2.1.1.length = X.1.2.2.2.1.1.length + 1 := by
    show (X.1.2.2.2.1.1 ++ [_]).length = _
    rw [List.length_append]; rfl
  exact ⟨g2, rfl, e2.tr ⟨fun z _ _ _ z4 => x2 z (by omega), fun f _ _ => by rw [x2 o0 (by omega)]⟩, e3.set (Nat.le_succ _) (fun z z1 z2 => x2 z (by omega)) (CPl.eq e3.1.2.2.2.2.2.1 (fun z z1 z2 => x2 z (by omega))) x3 (by rw [hwt]; omega) (by rw [x2 _ (by omega), e4 _ (by omega) (by omega)]; exact q7)⟩
theorem RC.giveUp {h : jH} (hk : spXk ns blk len b X) (r : RC T h o0 pl ns blk len p B X) : ∃ h', G_giveUp T h o0 = some ((spDGive ns len X).1, h') ∧ RCf o0 pl h h' ∧ RC T h' o0 pl ns blk len p B (spDGive ns len X).2 := by
  have r0 := r
  obtain ⟨⟨r1, r2, r3, r4, r5, r6, r7⟩, c, n, q1, q2, q3, q4, q5, q6, q7⟩ := r
  have hq := q5.que
  unfold G_giveUp spDGive
  rw [hq.2.2.1]
  by_cases a : X.1.2.2.2.2.2.2.2.2.2.1 = true
  rotate_left
  · rw [if_pos (by rw [if_neg a]), if_neg a]
    obtain ⟨g, e1, e2, e3⟩ := r0.refuse (k := 4) (by decide)
    rw [show G_refuse h o0 4 = _ from e1]
    exact ⟨g, rfl, e2, e3⟩
  rw [if_neg (by rw [if_pos a]; decide), if_pos a]
  obtain ⟨g, e1, e2, e3, e4⟩ := r0.rem hk
  rw [e1]
  simp only [Option.bind_some]
  have gs : CS g (o0 + 35) ns blk len n X.1 := q5.eq (fun z z1 z2 => e4 z (by omega) (by omega))
  obtain ⟨g2, x1, x2, x3, x4⟩ := c_giv gs hk.1.1
  rw [x1]
  simp only [Option.bind_some]
  have hwt : (spGiv ns len X.1).1.2.2.2.1.1.length = X.1.2.2.2.1.1.length := by unfold spGiv; dsimp only; split <;> rfl
  exact ⟨g2, rfl, e2.tr ⟨fun z _ _ _ z4 => x2 z (by omega) (by omega) (by omega), fun f _ _ => by rw [x2 o0 (by omega) (by omega) (by omega)]⟩, e3.set (Nat.le_refl _) (fun z z1 z2 => x2 z (by omega) (by omega) (by omega)) (CPl.eq e3.1.2.2.2.2.2.1 (fun z z1 z2 => x2 z (by omega) (by omega) (by omega))) x4 (by rw [hwt]; exact q6) (by rw [x3, e4 _ (by omega) (by omega)]; exact q7)⟩
theorem RC.undo {h : jH} (hk : spXk ns blk len b X) (r : RC T h o0 pl ns blk len p B X) : ∃ h', G_undo T h o0 = some ((spDUndo X).1, h') ∧ RCf o0 pl h h' ∧ RC T h' o0 pl ns blk len p B (spDUndo X).2 := by
  have r0 := r
  obtain ⟨⟨r1, r2, r3, r4, r5, r6, r7⟩, c, n, q1, q2, q3, q4, q5, q6, q7⟩ := r
  obtain ⟨s, past, rf⟩ := X
  cases past with
  | nil =>
    unfold G_undo
    have q3' : h o0 13 = 0 := q3
    rw [q3', if_neg (by decide)]
    obtain ⟨g, e1, e2, e3⟩ := r0.deny (k := 5) (by decide)
    rw [show G_deny h o0 5 = _ from e1]
    simp only [Option.bind_some]
    rw [if_pos (Or.inl trivial)]
    exact ⟨g, rfl, e2, e3⟩
  | cons x past =>
    obtain ⟨g, n2, e1, e2, e3, e4, e5, e6, e7, e8, e9⟩ := c_undo r1 r2 q1 q2 q3 q4 (hk.2 x List.mem_cons_self).1
    refine ⟨g, e1, ⟨fun z z1 _ _ z4 => e2 z z1 (by omega), e3⟩, ⟨r1, r2, r3, by rw [e3 8 (by decide) (by decide)]; exact r4, by rw [e2 _ (by omega) (by omega)]; exact r5, CPl.eq r6 (fun z z1 z2 => e2 z (by omega) (by omega)), fun i hi => by rw [e2 _ (by omega) (by omega)]; exact r7 i hi⟩, (c + 19) % 20, n2, e4, Nat.mod_lt _ (by decide), e5, e6, e7, e8, e9⟩
end CACT
