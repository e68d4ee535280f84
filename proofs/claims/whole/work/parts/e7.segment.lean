/-! a segment told, a frame told: on both sides -/
def spDSegment (ns blk len : Nat) (s v : Int) (X : spX) : Int :=
  if 0 ≤ s ∧ s < (ns : Int) then
    (if v = 0 then (if spHead (X.1.1.1 s.toNat) = true then spSer (X.1.1.1 s.toNat) else -1)
    else if v = 1 then (if spHead (X.1.1.1 s.toNat) = true then spFst (X.1.1.1 s.toNat) else -1)
    else if v = 2 then (if s.toNat ≠ X.1.2.2.2.2.2.1 ∧ X.1.2.2.2.2.1.2.2.2 s.toNat < X.1.2.2.2.2.1.2.2.1 then 1 else 0)
    else if v = 3 then (if spHead (X.1.1.1 s.toNat) = true then ((spWk blk len (X.1.1.1 s.toNat)).1.length : Int) else 0)
    else -1)
  else -1
def spDFrame (ns blk len : Nat) (s v w : Int) (X : spX) : Int :=
  if 0 ≤ s ∧ s < (ns : Int) ∧ spHead (X.1.1.1 s.toNat) = true ∧ 0 ≤ v ∧ v < ((spWk blk len (X.1.1.1 s.toNat)).1.length : Int) then
    (if w = 0 then ((spWk blk len (X.1.1.1 s.toNat)).1.getD v.toNat 0 : Int)
    else if w = 1 then X.1.1.1 s.toNat ((spWk blk len (X.1.1.1 s.toNat)).1.getD v.toNat 0 + 1)
    else if w = 2 then X.1.1.1 s.toNat ((spWk blk len (X.1.1.1 s.toNat)).1.getD v.toNat 0 + 2)
    else -1)
  else -1
/-- the places of the frames lie in the segment -/
theorem spWalk_pos {blk len : Nat} {b : Nat → Int} (hb : 4 < blk) (hl : len % blk = 0) : ∀ (f k : Nat) (ins : Bool) (pay : Nat) (hd : Int) (e : Nat), k ≤ len → ∀ j ∈ (spWalk blk len b f k ins pay hd e).1, j + 4 < len := by
  intro f
  induction f with
  | zero => intro k ins pay hd e _ j hj; cases hj
  | succ f ih =>
    intro k ins pay hd e hk j hj
    unfold spWalk at hj
    split at hj
    · cases hj
    · split at hj
      · cases hj
      · rename_i h1 h2
        have h3 : spGo blk len b (spStart blk k) ins pay hd = true := by
          cases h : spGo blk len b (spStart blk k) ins pay hd
          · exact absurd h h2
          · rfl
        have h4 := spFrame_in (by omega) hl (spGo_frame h3).1
        split at hj
        · rcases List.mem_cons.mp (show j ∈ spStart blk k :: (spWalk blk len b f _ false 0 0 _).1 from hj) with h | h
          · rw [h]; omega
          · exact ih _ _ _ _ _ (by omega) j h
        · rcases List.mem_cons.mp (show j ∈ spStart blk k :: (spWalk blk len b f _ true _ _ e).1 from hj) with h | h
          · rw [h]; omega
          · exact ih _ _ _ _ _ (by omega) j h
theorem spWalk_many {blk len : Nat} {b : Nat → Int} (hd0 : 4 < blk) (hl : len % blk = 0) (h128 : len ≤ 128) (h5 : 5 ≤ len) : (spWk blk len b).1.length ≤ 128 := by
  have := (spWk_len (b := b) hd0 hl 128 5 false 0 0 5 h5).1
  unfold spWk
  omega
section SEG
variable {T : jT} {o0 pl ns blk len B : Nat} {p : spPl} {X : spX} {b : Int}
theorem c_holdsNo {h : jH} {od : Nat} {s k : Int} {D C : Nat → Nat → Int} (hc : CD h od ns blk len D C) (hs : ¬ (0 ≤ s ∧ s < (ns : Int))) : Di_holds h od s k = some 0 := by
  unfold Di_holds Di_holds_p28
  rw [hc.1]
  by_cases a : s < 0
  · rw [if_pos a]
  · rw [if_neg a, if_neg (by omega)]
theorem c_fcNo {h : jH} {od r : Nat} {s : Int} {D C : Nat → Nat → Int} (hc : CD h od ns blk len D C) (hs : ¬ (0 ≤ s ∧ s < (ns : Int))) : FR_frameCount h r od s = some (0, h) := by
  unfold FR_frameCount Di_headStands Di_headStands_p50
  rw [c_holdsNo hc hs]
  simp only [Option.bind_some]
  rw [if_pos True.intro]
  rfl
theorem c_frameL {D C : Nat → Nat → Int} {od o0 s r : Nat} {w : Int} (hod : od = o0 + 36) (hd0 : spDim ns blk len) (hy : spByD ns len D) (hs : s < ns) (hr : r ≠ od ∧ r ≠ od + 1 ∧ r ≠ od + 2) : ∀ (t f : Nat) (h : jH) (k pay : Nat) (ins : Bool) (hd : Int) (e i : Nat), CD h od ns blk len D C → CR h r s k (spSer (D s)) ins pay hd → k ≤ len → len ≤ k + f → pay ≤ k → i + t < 128 → t < (spWalk blk len (D s) f k ins pay hd e).1.length →
    ∃ h', G_frame_L48 h o0 ((i + t : Nat) : Int) w r (i : Int) = G_frame_p81 h' w r ∧ (∀ q, q ≠ r → h' q = h q) ∧ h' r 0 = ((spWalk blk len (D s) f k ins pay hd e).1.getD t 0 : Int) ∧ h' r 1 = D s ((spWalk blk len (D s) f k ins pay hd e).1.getD t 0 + 1) ∧ h' r 2 = D s ((spWalk blk len (D s) f k ins pay hd e).1.getD t 0 + 2) := by
  have hl := hd0.len
  have b0 : 0 < blk := by have := hd0.2.2.1; omega
  unfold G_frame_L48
  intro t
  induction t with
  | zero =>
    intro f h k pay ins hd e i hc hR hk hf hp hi ht
    cases f with
    | zero => exact absurd ht (by unfold spWalk; simp)
    | succ f =>
      obtain ⟨h', y, e1, e2, -, -, ⟨rfl, e3, -⟩ | ⟨rfl, e3, e4, e0, ek, en, e5, -⟩⟩ := c_adv hd0 hc hy hs hr hk hp hR
      · exfalso
        have : (spWalk blk len (D s) (f + 1) k ins pay hd e).1 = [] := by
          unfold spWalk
          rcases e3 with e3 | e3
          · rw [if_pos e3]
          · rw [if_pos e3]
            split <;> rfl
        rw [this] at ht
        exact absurd ht (by simp)
      · have hw : (spWalk blk len (D s) (f + 1) k ins pay hd e).1.getD 0 0 = spStart blk k := by
          unfold spWalk
          rw [if_neg (by omega), if_neg (by rw [e4]; decide)]
          cases hL : spLast (D s) (spStart blk k) with
          | true => rfl
          | false => rfl
        rw [hw]
        refine ⟨h', (jloop_l (s' := (((i + 1 : Nat) : Int), h')) ?_).trans (jloop_x ?_), e2, e0, ek, en⟩
        · show G_frame_B48 h o0 ((i + 0 : Nat) : Int) w r (i : Int) = _
          unfold G_frame_B48
          rw [if_neg (by omega), if_pos (by omega), ← hod, e1]
          show some (Sum.inl (wr ((i : Int) + 1), h')) = _
          rw [pw (by omega) (by omega)]
          rfl
        · show G_frame_B48 h' o0 ((i + 0 : Nat) : Int) w r ((i + 1 : Nat) : Int) = _
          unfold G_frame_B48
          rw [if_pos (by omega)]
  | succ t ih =>
    intro f h k pay ins hd e i hc hR hk hf hp hi ht
    cases f with
    | zero => exact absurd ht (by unfold spWalk; simp)
    | succ f =>
      have hst := spStart_le b0 hl.2.2.2 hk
      obtain ⟨h', y, e1, e2, -, -, ⟨rfl, e3, -⟩ | ⟨rfl, e3, e4, e0, ek, en, e5, -⟩⟩ := c_adv hd0 hc hy hs hr hk hp hR
      · exfalso
        have : (spWalk blk len (D s) (f + 1) k ins pay hd e).1 = [] := by
          unfold spWalk
          rcases e3 with e3 | e3
          · rw [if_pos e3]
          · rw [if_pos e3]
            split <;> rfl
        rw [this] at ht
        exact absurd ht (by simp)
      · have e6 := spFrame_in b0 hl.2.2.2 (spGo_frame e4).1
        have hw : (spWalk blk len (D s) (f + 1) k ins pay hd e).1 = spStart blk k :: (spWalk blk len (D s) f (spStart blk k + 4 + spN (D s) (spStart blk k)) (!(spLast (D s) (spStart blk k))) (if spLast (D s) (spStart blk k) = true then 0 else pay + spN (D s) (spStart blk k)) (if spLast (D s) (spStart blk k) = true then 0 else spH (D s) (spStart blk k) pay hd) (if spLast (D s) (spStart blk k) = true then spStart blk k + 4 + spN (D s) (spStart blk k) else e)).1 := by
          conv => lhs; unfold spWalk
          rw [if_neg (by omega), if_neg (by rw [e4]; decide)]
          cases hL : spLast (D s) (spStart blk k) with
          | true => simp [spCons]
          | false => simp [spCons]
        rw [hw] at ht ⊢
        rw [List.getD_cons_succ]
        have hc' : CD h' od ns blk len D C := hc.fr (e2 _ (fun e => hr.1 e.symm)) (e2 _ (fun e => hr.2.1 e.symm)) (e2 _ (fun e => hr.2.2 e.symm))
        have hpp : (if spLast (D s) (spStart blk k) = true then 0 else pay + spN (D s) (spStart blk k)) ≤ spStart blk k + 4 + spN (D s) (spStart blk k) := by split <;> omega
        obtain ⟨h'', e7, e8, e9⟩ := ih f h' _ _ _ _ (if spLast (D s) (spStart blk k) = true then spStart blk k + 4 + spN (D s) (spStart blk k) else e) (i + 1) hc' e5 (by omega) (by omega) hpp (by omega) (by rw [List.length_cons] at ht; omega)
        refine ⟨h'', (jloop_l (s' := (((i + 1 : Nat) : Int), h')) ?_).trans (Eq.trans (by rw [show i + 1 + t = i + (t + 1) by omega]) e7), fun q hq => (e8 q hq).trans (e2 q hq), e9⟩
        show G_frame_B48 h o0 ((i + (t + 1) : Nat) : Int) w r (i : Int) = _
        unfold G_frame_B48
        rw [if_neg (by omega), if_pos (by omega), ← hod, e1]
        show some (Sum.inl (wr ((i : Int) + 1), h')) = _
        rw [pw (by omega) (by omega)]
        rfl
theorem RC.segment {h : jH} {s v : Int} (hk : spXk ns blk len b X) (r : RC T h o0 pl ns blk len p B X) : ∃ h', G_segment h o0 s v = some (spDSegment ns blk len s v X, h') ∧ RCf o0 pl h h' ∧ RC T h' o0 pl ns blk len p B X := by
  have hd := hk.dim
  have hy := hk.1.1.que.2.2.2.2.2.2.1
  have hn4 := hd.2.1
  have r0 := r
  obtain ⟨⟨r1, r2, r3, r4, r5, r6, r7⟩, c, n, q1, q2, q3, q4, q5, q6, q7⟩ := r
  have hD : CD h (o0 + 36) ns blk len X.1.1.1 X.1.1.2 := q5.que.2.2.2.2.2.2.1
  have hp := q5.pla
  have hsn := q5.que.2.2.2.1
  have htp : ∀ i, i < 4 → h (o0 + 55) i = X.1.2.2.2.2.1.2.2.2 i := by
    generalize X.1 = s at q5 ⊢
    obtain ⟨⟨D, C⟩, ⟨F, lf⟩, ⟨q, fl, first⟩, ⟨wt, kp⟩, ⟨tab, stab, snap, tops⟩, ⟨sg, at', ser, gr, hl, tk⟩⟩ := s
    obtain ⟨c1, c2, c3, c4, ⟨t1, t2, t3, t4⟩, p1⟩ := q5
    exact t4
  have stay : ∀ w : Int, w = spDSegment ns blk len s v X → ∃ h', (some (w, h) : Option (Int × jH)) = some (spDSegment ns blk len s v X, h') ∧ RCf o0 pl h h' ∧ RC T h' o0 pl ns blk len p B X := fun w hw => ⟨h, by rw [hw], RCf.rf, r0⟩
  unfold G_segment
  rw [hD.1]
  by_cases a0 : 0 ≤ s ∧ s < (ns : Int)
  rotate_left
  · by_cases a1 : s < 0
    · rw [if_pos a1]; exact stay _ (by unfold spDSegment; rw [if_neg a0])
    · rw [if_neg a1, if_neg (by omega)]; exact stay _ (by unfold spDSegment; rw [if_neg a0])
  rw [if_neg (by omega), if_pos a0.2]
  have hsN : s.toNat < ns := by omega
  have es : (s.toNat : Int) = s := by omega
  by_cases a1 : v < 0
  · rw [if_pos a1]; exact stay _ (by unfold spDSegment; rw [if_pos a0, if_neg (by omega), if_neg (by omega), if_neg (by omega), if_neg (by omega)])
  rw [if_neg a1]
  by_cases a2 : 3 < v
  · rw [if_pos a2]; exact stay _ (by unfold spDSegment; rw [if_pos a0, if_neg (by omega), if_neg (by omega), if_neg (by omega), if_neg (by omega)])
  rw [if_neg a2]
  by_cases a3 : v = 2
  · subst a3
    rw [if_pos rfl, hp.1]
    unfold G_segment_p60
    by_cases c1 : s = (X.1.2.2.2.2.2.1 : Int)
    · rw [if_pos c1]
      refine stay _ ?_
      unfold spDSegment
      rw [if_pos a0, if_neg (by decide), if_neg (by decide), if_pos rfl, if_neg (by omega)]
    · rw [if_neg c1]
      unfold St_isFree St_isFree_p30
      rw [if_neg (by omega), if_pos (show s < ((4 : Nat) : Int) by omega), if_pos (by omega), htp s.toNat (by omega), hsn]
      by_cases c2 : X.1.2.2.2.2.1.2.2.2 s.toNat < X.1.2.2.2.2.1.2.2.1
      · rw [if_pos c2]
        simp only [Option.bind_some]
        rw [if_neg (by decide)]
        refine stay _ ?_
        unfold spDSegment
        rw [if_pos a0, if_neg (by decide), if_neg (by decide), if_pos rfl, if_pos ⟨by omega, c2⟩]
      · rw [if_neg c2]
        simp only [Option.bind_some]
        rw [if_pos True.intro]
        refine stay _ ?_
        unfold spDSegment
        rw [if_pos a0, if_neg (by decide), if_neg (by decide), if_pos rfl, if_neg (fun e => c2 e.2)]
  rw [if_neg a3]
  by_cases a4 : v = 3
  · subst a4
    rw [if_pos rfl]
    obtain ⟨g, e1, e2⟩ := c_fc (r := o0 + 80) hd hD hy hsN (by omega)
    rw [es] at e1
    rw [e1]
    refine ⟨g, ?_, ⟨fun z _ _ _ z4 => e2 z (by omega), fun f _ _ => by rw [e2 o0 (by omega)]⟩, r0.same (fun z z1 _ => e2 z (by omega)) (CPl.eq r6 (fun z z1 z2 => e2 z (by omega)))⟩
    unfold spDSegment
    rw [if_pos a0, if_neg (show ¬ (3 : Int) = 0 by decide), if_neg (show ¬ (3 : Int) = 1 by decide), if_neg (show ¬ (3 : Int) = 2 by decide), if_pos (show (3 : Int) = 3 from rfl)]
    rfl
  rw [if_neg a4]
  have e1 := c_head hd hD hy hsN
  have e2 := c_ser hd hD hy hsN
  have e3 := c_fst hd hD hy hsN
  rw [es] at e1 e2 e3
  rw [e1]
  simp only [Option.bind_some]
  by_cases b1 : spHead (X.1.1.1 s.toNat) = true
  rotate_left
  · rw [if_neg b1, if_pos rfl]
    refine stay _ ?_
    unfold spDSegment
    rw [if_pos a0, if_neg b1]
    by_cases a5 : v = 0
    · rw [if_pos a5]
    · rw [if_neg a5, if_pos (by omega), if_neg b1]
  rw [if_pos b1, if_neg (by decide)]
  by_cases a5 : v = 0
  · rw [if_pos a5, e2]
    refine stay _ ?_
    unfold spDSegment
    rw [if_pos a0, if_pos b1, if_pos a5]
  · rw [if_neg a5, e3]
    refine stay _ ?_
    unfold spDSegment
    rw [if_pos a0, if_neg a5, if_pos (by omega), if_pos b1]
theorem RC.frame {h : jH} {s v w : Int} (hk : spXk ns blk len b X) (r : RC T h o0 pl ns blk len p B X) : ∃ h', G_frame h o0 s v w = some (spDFrame ns blk len s v w X, h') ∧ RCf o0 pl h h' ∧ RC T h' o0 pl ns blk len p B X := by
  have hd := hk.dim
  have hl := hd.len
  have hy := hk.1.1.que.2.2.2.2.2.2.1
  have r0 := r
  obtain ⟨⟨r1, r2, r3, r4, r5, r6, r7⟩, c, n, q1, q2, q3, q4, q5, q6, q7⟩ := r
  have hD : CD h (o0 + 36) ns blk len X.1.1.1 X.1.1.2 := q5.que.2.2.2.2.2.2.1
  have no : ∀ g : jH, (∀ q, q ≠ o0 + 80 → g q = h q) → (¬ (0 ≤ s ∧ s < (ns : Int) ∧ spHead (X.1.1.1 s.toNat) = true ∧ 0 ≤ v ∧ v < ((spWk blk len (X.1.1.1 s.toNat)).1.length : Int))) → ∃ h', (some ((-1 : Int), g) : Option (Int × jH)) = some (spDFrame ns blk len s v w X, h') ∧ RCf o0 pl h h' ∧ RC T h' o0 pl ns blk len p B X := fun g e2 hn => ⟨g, by unfold spDFrame; rw [if_neg hn], ⟨fun z _ _ _ z4 => e2 z (by omega), fun f _ _ => by rw [e2 o0 (by omega)]⟩, r0.same (fun z z1 _ => e2 z (by omega)) (CPl.eq r6 (fun z z1 z2 => e2 z (by omega)))⟩
  unfold G_frame
  by_cases a1 : v < 0
  · rw [if_pos a1]; exact no h (fun _ _ => rfl) (by omega)
  rw [if_neg a1]
  by_cases a0 : 0 ≤ s ∧ s < (ns : Int)
  rotate_left
  · rw [c_fcNo hD a0]
    simp only [Option.bind_some]
    rw [if_neg (by omega)]
    exact no h (fun _ _ => rfl) (fun e => a0 ⟨e.1, e.2.1⟩)
  have hsN : s.toNat < ns := by omega
  have es : (s.toNat : Int) = s := by omega
  obtain ⟨g, e1, e2⟩ := c_fc (r := o0 + 80) hd hD hy hsN (by omega)
  rw [es] at e1
  rw [e1]
  simp only [Option.bind_some]
  by_cases b1 : spHead (X.1.1.1 s.toNat) = true
  rotate_left
  · rw [if_neg b1, if_neg (by omega)]
    exact no g e2 (fun e => b1 e.2.2.1)
  rw [if_pos b1]
  by_cases b2 : v < ((spWk blk len (X.1.1.1 s.toNat)).1.length : Int)
  rotate_left
  · rw [if_neg b2]
    exact no g e2 (fun e => b2 e.2.2.2.2)
  rw [if_pos b2]
  have hDg : CD g (o0 + 36) ns blk len X.1.1.1 X.1.1.2 := hD.fr (e2 _ (by omega)) (e2 _ (by omega)) (e2 _ (by omega))
  obtain ⟨g1, x1, x2, x3⟩ := c_open (r := o0 + 80) hd hDg hy hsN (by omega)
  rw [es] at x1
  rw [x1]
  simp only [Option.bind_some]
  have hDg1 : CD g1 (o0 + 36) ns blk len X.1.1.1 X.1.1.2 := hDg.fr (x2 _ (by omega)) (x2 _ (by omega)) (x2 _ (by omega))
  have hm := spWalk_many (b := X.1.1.1 s.toNat) (by have := hd.2.2.1; omega) hl.2.2.2 hl.2.1 (by omega)
  obtain ⟨g2, y1, y2, y3, y4, y5⟩ := c_frameL (w := w) (o0 := o0) (r := o0 + 80) rfl hd hy hsN (by omega) v.toNat 128 g1 5 0 false 0 5 0 hDg1 x3 (by omega) (by omega) (by omega) (by omega) (by unfold spWk at b2; omega)
  rw [Nat.zero_add, show (v.toNat : Int) = v by omega] at y1
  rw [show G_frame_L48 g1 o0 v w (o0 + 80) 0 = _ from y1]
  have ez : ∀ q, q ≠ o0 + 80 → g2 q = h q := fun q hq => by rw [y2 q hq, x2 q hq, e2 q hq]
  refine ⟨g2, ?_, ⟨fun z _ _ _ z4 => ez z (by omega), fun f _ _ => by rw [ez o0 (by omega)]⟩, r0.same (fun z z1 _ => ez z (by omega)) (CPl.eq r6 (fun z z1 z2 => ez z (by omega)))⟩
  have hcond : 0 ≤ s ∧ s < (ns : Int) ∧ spHead (X.1.1.1 s.toNat) = true ∧ 0 ≤ v ∧ v < ((spWk blk len (X.1.1.1 s.toNat)).1.length : Int) := ⟨a0.1, a0.2, b1, by omega, b2⟩
  have hv : spDFrame ns blk len s v w X = (if w = 0 then ((spWalk blk len (X.1.1.1 s.toNat) 128 5 false 0 0 5).1.getD v.toNat 0 : Int) else if w = 1 then X.1.1.1 s.toNat ((spWalk blk len (X.1.1.1 s.toNat) 128 5 false 0 0 5).1.getD v.toNat 0 + 1) else if w = 2 then X.1.1.1 s.toNat ((spWalk blk len (X.1.1.1 s.toNat) 128 5 false 0 0 5).1.getD v.toNat 0 + 2) else -1) := by
    unfold spDFrame
    rw [if_pos hcond]
    rfl
  rw [hv]
  unfold G_frame_p81
  rw [y3, y4, y5]
  by_cases w0 : w = 0
  · rw [if_pos w0, if_pos w0]
  rw [if_neg w0, if_neg w0]
  by_cases w1 : w = 1
  · rw [if_pos w1, if_pos w1]
  rw [if_neg w1, if_neg w1]
  by_cases w2 : w = 2
  · rw [if_pos w2, if_pos w2]
  rw [if_neg w2, if_neg w2]
theorem m_freeNow {h : jH} {o : Nat} {kpm : spKp} {s : spSt} {sg : Nat} (hd : spDim ns blk len) (hI : spInv ns blk len b s) (hs : MS h o ns blk len kpm s) (hsg : sg < ns) : M_isFree h o (sg : Int) = some (if sg ≠ s.2.2.2.2.2.1 ∧ s.2.2.2.2.1.2.2.2 sg < s.2.2.2.2.1.2.2.1 then 1 else 0) := by
  have hn4 := hd.2.1
  have hF := spInv_F hI
  obtain ⟨⟨D, C⟩, ⟨F, lf⟩, ⟨q, fl, first⟩, ⟨wt, kp⟩, ⟨tab, stab, snap, tops⟩, ⟨sg', at', ser, gr, hl, tk⟩⟩ := s
  obtain ⟨i1, i2, i3, i4, i5, i6, i7⟩ := hI
  obtain ⟨c1, ⟨c2, c2'⟩, c3, ⟨c4, c4', c4''⟩, c5, ⟨t1, t2, t3, t4⟩, p1, p2, p3, p4, p5, p6, p7⟩ := hs
  have hsn : snap ≤ first := by omega
  have hl := hd.len
  obtain ⟨y, e1, e2⟩ := m_onWay (s := sg) c2 hF (fun e he => by have := i2.1 e he; omega)
  unfold M_isFree M_isFree_p55
  rw [if_pos (by decide), show ((5 : Int)).toNat = 5 from rfl, show ((13 : Int)).toNat = 13 from rfl, show ((9 : Int)).toNat = 9 from rfl, p1, p7, t3, e1]
  simp only [Option.bind_some]
  by_cases a : sg = sg'
  · rw [if_pos (by omega), if_neg (fun e => e.1 a)]
  rw [if_neg (by omega), if_pos (by decide), pw (x := (sg : Int) + 1) (by omega) (by omega), if_neg (by omega)]
  rcases e2 with ⟨rfl, e, he, h2⟩ | ⟨rfl, h2⟩
  · rw [if_neg (by decide)]
    have := (i2.1 e he).2.2.2.2
    rw [h2] at this
    rw [if_neg (fun e => by omega)]
  · rw [if_pos rfl, pw (x := 192 + (sg : Int)) (by omega) (by omega), if_pos (by omega), if_pos (by decide), show (192 + (sg : Int)).toNat = 192 + sg by omega, t4 sg (by omega)]
    by_cases c : tops sg < snap
    · rw [if_pos c, if_pos ⟨a, c⟩]
    · rw [if_neg c, if_neg (fun e => c e.2)]
theorem RM.segment {h : jH} {o : Nat} {s v : Int} (hk : spXk ns blk len b X) (r : RM h o ns blk len p X) : ∃ h', M_segment h o s v = some (spDSegment ns blk len s v X, h') ∧ RMf o h h' ∧ RM h' o ns blk len p X := by
  have hd := hk.dim
  have hy := hk.1.1.que.2.2.2.2.2.2.1
  have hseg := (r.isSeg (s := s) hd).1
  obtain ⟨m, q1, q2, q3, q4, q5, q6⟩ := r.2
  have hD := q6.que.2.2.2.2.2.2.2.2.1
  have stay : ∀ w : Int, w = spDSegment ns blk len s v X → ∃ h', (some (w, h) : Option (Int × jH)) = some (spDSegment ns blk len s v X, h') ∧ RMf o h h' ∧ RM h' o ns blk len p X := fun w hw => ⟨h, by rw [hw], RMf.rf, r⟩
  unfold M_segment
  rw [hseg]
  simp only [Option.bind_some]
  by_cases a0 : 0 ≤ s ∧ s < (ns : Int)
  rotate_left
  · rw [if_neg (show ¬ (0 ≤ s ∧ s ≤ (ns : Int) - 1) by omega), if_pos rfl]; exact stay _ (by unfold spDSegment; rw [if_neg a0])
  rw [if_pos (show 0 ≤ s ∧ s ≤ (ns : Int) - 1 by omega), if_neg (by decide)]
  have hsN : s.toNat < ns := by omega
  have es : (s.toNat : Int) = s := by omega
  have e1 := m_head hd hD hy hsN
  have e2 := m_ser hd hD hy hsN
  have e3 := m_fst hd hD hy hsN
  have e4 := m_freeNow hd hk.1.1 q6 hsN
  rw [es] at e1 e2 e3 e4
  rw [e1, e2, e3, e4]
  simp only [Option.bind_some]
  by_cases a1 : v = 0
  · rw [if_pos a1]
    by_cases b1 : spHead (X.1.1.1 s.toNat) = true
    · rw [if_pos b1, if_neg (by decide)]
      exact stay _ (by unfold spDSegment; rw [if_pos a0, if_pos b1, if_pos a1])
    · rw [if_neg b1, if_pos rfl]
      exact stay _ (by unfold spDSegment; rw [if_pos a0, if_neg b1, if_pos a1])
  rw [if_neg a1]
  by_cases a2 : v = 1
  · rw [if_pos a2]
    by_cases b1 : spHead (X.1.1.1 s.toNat) = true
    · rw [if_pos b1, if_neg (by decide)]
      exact stay _ (by unfold spDSegment; rw [if_pos a0, if_neg a1, if_pos a2, if_pos b1])
    · rw [if_neg b1, if_pos rfl]
      exact stay _ (by unfold spDSegment; rw [if_pos a0, if_neg a1, if_pos a2, if_neg b1])
  rw [if_neg a2]
  by_cases a3 : v = 2
  · rw [if_pos a3]
    by_cases b1 : s.toNat ≠ X.1.2.2.2.2.2.1 ∧ X.1.2.2.2.2.1.2.2.2 s.toNat < X.1.2.2.2.2.1.2.2.1
    · rw [if_pos b1, if_neg (by decide)]
      exact stay _ (by unfold spDSegment; rw [if_pos a0, if_neg a1, if_neg a2, if_pos a3, if_pos b1])
    · rw [if_neg b1, if_pos rfl]
      exact stay _ (by unfold spDSegment; rw [if_pos a0, if_neg a1, if_neg a2, if_pos a3, if_neg b1])
  rw [if_neg a3]
  by_cases a4 : v = 3
  rotate_left
  · rw [if_neg a4]
    exact stay _ (by unfold spDSegment; rw [if_pos a0, if_neg a1, if_neg a2, if_neg a3, if_neg a4])
  rw [if_pos a4]
  obtain ⟨g, x1, x2, x3, x4⟩ := m_framesOf hd hD hy hsN
  rw [es] at x1
  rw [x1]
  refine ⟨g, ?_, ⟨fun z z1 _ _ _ _ _ z7 _ _ => x2 z z1 z7, fun f _ _ _ _ _ _ _ _ _ f10 _ _ _ => x3 f f10⟩, r.same (fun z hz => x2 z (by omega) (by omega)) (fun f hf => x3 f (by omega)) (by rw [x3 52 (by omega)]; exact r.1.2.1) (by rw [x3 56 (by omega)]; exact r.1.2.2.1) (by rw [x3 53 (by omega)]; exact r.1.2.2.2.1) (q6.eq (x2 _ (by omega) (by omega)) (x2 _ (by omega) (by omega)))⟩
  unfold spDSegment
  rw [if_pos a0, if_neg a1, if_neg a2, if_neg a3, if_pos a4]
  rfl
theorem RM.frame {h : jH} {o : Nat} {s v w : Int} (hk : spXk ns blk len b X) (r : RM h o ns blk len p X) : ∃ h', M_frame h o s v w = some (spDFrame ns blk len s v w X, h') ∧ RMf o h h' ∧ RM h' o ns blk len p X := by
  have hd := hk.dim
  have hl := hd.len
  have hy := hk.1.1.que.2.2.2.2.2.2.1
  have hseg := (r.isSeg (s := s) hd).1
  obtain ⟨m, q1, q2, q3, q4, q5, q6⟩ := r.2
  have hD := q6.que.2.2.2.2.2.2.2.2.1
  unfold M_frame
  rw [hseg]
  simp only [Option.bind_some]
  by_cases a0 : 0 ≤ s ∧ s < (ns : Int)
  rotate_left
  · rw [if_neg (show ¬ (0 ≤ s ∧ s ≤ (ns : Int) - 1) by omega), if_pos rfl]
    exact ⟨h, by unfold spDFrame; rw [if_neg (fun e => a0 ⟨e.1, e.2.1⟩)], RMf.rf, r⟩
  rw [if_pos (show 0 ≤ s ∧ s ≤ (ns : Int) - 1 by omega), if_neg (by decide)]
  have hsN : s.toNat < ns := by omega
  have es : (s.toNat : Int) = s := by omega
  obtain ⟨g, x1, x2, x3, x4⟩ := m_framesOf hd hD hy hsN
  rw [es] at x1
  rw [x1]
  simp only [Option.bind_some]
  have hrel : RMf o h g ∧ RM g o ns blk len p X := ⟨⟨fun z z1 _ _ _ _ _ z7 _ _ => x2 z z1 z7, fun f _ _ _ _ _ _ _ _ _ f10 _ _ _ => x3 f f10⟩, r.same (fun z hz => x2 z (by omega) (by omega)) (fun f hf => x3 f (by omega)) (by rw [x3 52 (by omega)]; exact r.1.2.1) (by rw [x3 56 (by omega)]; exact r.1.2.2.1) (by rw [x3 53 (by omega)]; exact r.1.2.2.2.1) (q6.eq (x2 _ (by omega) (by omega)) (x2 _ (by omega) (by omega)))⟩
  have hm := spWalk_many (b := X.1.1.1 s.toNat) (by have := hd.2.2.1; omega) hl.2.2.2 hl.2.1 (by omega)
  rw [pw (x := (if spHead (X.1.1.1 s.toNat) = true then ((spWk blk len (X.1.1.1 s.toNat)).1.length : Int) else 0) - 1) (by split <;> omega) (by split <;> omega), m_isIn]
  simp only [Option.bind_some]
  by_cases a1 : 0 ≤ v ∧ v ≤ (if spHead (X.1.1.1 s.toNat) = true then ((spWk blk len (X.1.1.1 s.toNat)).1.length : Int) else 0) - 1
  rotate_left
  · rw [if_neg a1, if_pos rfl]
    refine ⟨g, ?_, hrel⟩
    unfold spDFrame
    rw [if_neg (fun e => a1 ⟨e.2.2.2.1, by rw [if_pos e.2.2.1]; omega⟩)]
  rw [if_pos a1, if_neg (by decide), m_isIn]
  simp only [Option.bind_some]
  have b1 : spHead (X.1.1.1 s.toNat) = true := by
    by_cases c : spHead (X.1.1.1 s.toNat) = true
    · exact c
    · rw [if_neg c] at a1; omega
  rw [if_pos b1] at a1
  have hcond : 0 ≤ s ∧ s < (ns : Int) ∧ spHead (X.1.1.1 s.toNat) = true ∧ 0 ≤ v ∧ v < ((spWk blk len (X.1.1.1 s.toNat)).1.length : Int) := ⟨a0.1, a0.2, b1, a1.1, by omega⟩
  by_cases a2 : 0 ≤ w ∧ w ≤ 2
  rotate_left
  · rw [if_neg a2, if_pos rfl]
    refine ⟨g, ?_, hrel⟩
    unfold spDFrame
    rw [if_pos hcond, if_neg (by omega), if_neg (by omega), if_neg (by omega)]
  rw [if_pos a2, if_neg (by decide), if_pos (by omega), x4 b1 v.toNat (by omega)]
  refine ⟨g, ?_, hrel⟩
  unfold spDFrame
  rw [if_pos hcond]
  have hpos : (spWk blk len (X.1.1.1 s.toNat)).1.getD v.toNat 0 + 4 < len := by
    have hlt : v.toNat < (spWk blk len (X.1.1.1 s.toNat)).1.length := by omega
    rw [List.getD_eq_getElem?_getD, List.getElem?_eq_getElem hlt, Option.getD_some]
    exact spWalk_pos (by have := hd.2.2.1; omega) hl.2.2.2 128 5 false 0 0 5 (by omega) _ (List.getElem_mem hlt)
  generalize (spWk blk len (X.1.1.1 s.toNat)).1.getD v.toNat 0 = j at hpos ⊢
  have hDg : MD g o ns blk len X.1.1.1 X.1.1.2 := hD.fr hd (x2 _ (by omega) (by omega)) (fun i _ _ => by rw [x2 _ (by omega) (by omega)])
  by_cases w0 : w = 0
  · rw [if_pos w0, if_pos w0]
  rw [if_neg w0, if_neg w0, pw (x := (j : Int) + w) (by omega) (by omega)]
  have ho := m_oct (s := s.toNat) (k := j + w.toNat) hd hDg hsN (by omega)
  rw [es, show ((j + w.toNat : Nat) : Int) = (j : Int) + w by omega] at ho
  rw [ho]
  simp only [Option.bind_some]
  by_cases w1 : w = 1
  · rw [if_pos w1, w1]; rfl
  · have w2 : w = 2 := by omega
    rw [if_neg w1, if_pos w2, w2]; rfl
end SEG
