/-! SPEC 3: recovery -/
def spRecs (snap : Int) : List (Int × Int) → Int → (Nat → Int) → Nat → Int
  | [], _, tab => tab
  | r :: rs, n, tab => spRecs snap rs (n + 1) (if snap ≤ n then pu tab r.1.toNat r.2 else tab)
def spTopR (s : Nat) : List (Int × Int) → Int → (Nat → Int) → Nat → Int
  | [], _, tops => tops
  | _ :: rs, n, tops => spTopR s rs (n + 1) (pu tops s n)
def spPick (p : Nat → Bool) (v : Nat → Int) : Nat → Int
  | 0 => -1
  | n + 1 => if p n = true ∧ (spPick p v n = -1 ∨ v (spPick p v n).toNat < v n) then (n : Int) else spPick p v n
def spAny (p : Nat → Bool) : Nat → Bool
  | 0 => false
  | n + 1 => spAny p n || p n
def spBegin (D : Nat → Nat → Int) (ns : Nat) (snap : Int) : Int := spPick (fun i => spHead (D i) && decide (spFst (D i) ≤ snap)) (fun i => spSer (D i)) ns
def spFollow (D : Nat → Nat → Int) (ns : Nat) (ser nx : Int) : Int := spPick (fun i => spHead (D i) && decide (ser < spSer (D i)) && decide (spFst (D i) = nx)) (fun i => spSer (D i)) ns
abbrev spR3 : Type := Int × (Nat → Int) × (Nat → Int)
def spRd (D : Nat → Nat → Int) (blk len : Nat) (snap : Int) (s : Nat) (r : spR3) : spR3 :=
  (r.1 + ((spWk blk len (D s)).2.1.length : Int), spRecs snap (spWk blk len (D s)).2.1 r.1 r.2.1, spTopR s (spWk blk len (D s)).2.1 r.1 r.2.2)
def spChain (D : Nat → Nat → Int) (ns blk len : Nat) (snap : Int) : Nat → Nat → spR3 → spR3 × Nat
  | 0, s, r => (spRd D blk len snap s r, s)
  | f + 1, s, r => if spFollow D ns (spSer (D s)) (spRd D blk len snap s r).1 = -1 then (spRd D blk len snap s r, s) else spChain D ns blk len snap f (spFollow D ns (spSer (D s)) (spRd D blk len snap s r).1).toNat (spRd D blk len snap s r)
def spDam (D : Nat → Nat → Int) (ns blk len s : Nat) : Bool :=
  spAny (fun i => spHead (D i) && decide (spSer (D s) < spSer (D i))) ns || spAny (fun k => decide ((spWk blk len (D s)).2.2.2 < k) && spFrame blk len (D s) k && decide (1 ≤ D s (k + 1)) && decide (D s (k + 1) ≤ 4)) len
/-- next, table, tops; segment, byte, serial, damaged -/
def spRecov (D : Nat → Nat → Int) (ns blk len : Nat) (snap : Int) (stab : Nat → Int) : spR3 × Nat × Int × Int × Bool :=
  if spBegin D ns snap = -1 then ((snap, stab, fun _ => -1), 0, 5, 0, true)
  else if (spChain D ns blk len snap 3 (spBegin D ns snap).toNat (spFst (D (spBegin D ns snap).toNat), stab, fun _ => -1)).1.1 < snap then ((snap, (spChain D ns blk len snap 3 (spBegin D ns snap).toNat (spFst (D (spBegin D ns snap).toNat), stab, fun _ => -1)).1.2.1, fun _ => -1), 0, 5, 0, true)
  else ((spChain D ns blk len snap 3 (spBegin D ns snap).toNat (spFst (D (spBegin D ns snap).toNat), stab, fun _ => -1)).1, (spChain D ns blk len snap 3 (spBegin D ns snap).toNat (spFst (D (spBegin D ns snap).toNat), stab, fun _ => -1)).2, ((spWk blk len (D (spChain D ns blk len snap 3 (spBegin D ns snap).toNat (spFst (D (spBegin D ns snap).toNat), stab, fun _ => -1)).2)).2.2.1 : Int), spSer (D (spChain D ns blk len snap 3 (spBegin D ns snap).toNat (spFst (D (spBegin D ns snap).toNat), stab, fun _ => -1)).2), spDam D ns blk len (spChain D ns blk len snap 3 (spBegin D ns snap).toNat (spFst (D (spBegin D ns snap).toNat), stab, fun _ => -1)).2)
theorem spPick_in {p : Nat → Bool} {v : Nat → Int} : ∀ n, -1 ≤ spPick p v n ∧ spPick p v n < (n : Int) ∧ (spPick p v n ≠ -1 → p (spPick p v n).toNat = true) := by
  intro n
  induction n with
  | zero => unfold spPick; refine ⟨by omega, by omega, fun h => absurd rfl h⟩
  | succ n ih =>
    unfold spPick
    split
    · rename_i h
      exact ⟨by omega, by omega, fun _ => by rw [Int.toNat_natCast]; exact h.1⟩
    · exact ⟨ih.1, by omega, ih.2.2⟩
theorem spSer_in {b : Nat → Int} {len : Nat} (h : spBy b len) (hl : 4 ≤ len) : 0 ≤ spSer b ∧ spSer b < 65536 ∧ 0 ≤ spFst b ∧ spFst b < 65536 := by
  have a0 := h 0 (by omega)
  have a1 := h 1 (by omega)
  have a2 := h 2 (by omega)
  have a3 := h 3 (by omega)
  unfold spSer spFst
  omega
section CRE
variable {h : jH} {od rc ns blk len s : Nat} {D C : Nat → Nat → Int}
/-- the disk lies outside the recovery's own objects -/
def nin (rc od : Nat) : Prop := (od + 2 < rc ∨ rc + 3 < od)
theorem CD.fr4 {h' : jH} (hn : nin rc od) (hf : ∀ q, (q < rc ∨ rc + 3 < q) → h' q = h q) (hc : CD h od ns blk len D C) : CD h' od ns blk len D C := by
  unfold nin at hn
  exact hc.fr (hf _ (by omega)) (hf _ (by omega)) (hf _ (by omega))
theorem c_begL (hd0 : spDim ns blk len) (hc : CD h od ns blk len D C) (hy : spByD ns len D) {snap : Int} : ∀ m i, i + m = ns → Re_beginning_L5 h od snap (spPick (fun i => spHead (D i) && decide (spFst (D i) ≤ snap)) (fun i => spSer (D i)) i) (i : Int) = some (spBegin D ns snap) := by
  have hl := hd0.len
  have hn := hd0.2.1
  unfold Re_beginning_L5
  intro m
  induction m with
  | zero =>
    intro i hi
    refine jloop_r ?_
    obtain rfl : i = ns := by omega
    show Re_beginning_B5 h od snap _ _ = _
    unfold Re_beginning_B5
    rw [hc.1, if_neg (by omega)]
    rfl
  | succ m ih =>
    intro i hi
    have hi2 : i < ns := by omega
    rw [← ih (i + 1) (by omega)]
    refine jloop_l ?_
    show Re_beginning_B5 h od snap _ _ = _
    have hp := spPick_in (p := fun i => spHead (D i) && decide (spFst (D i) ≤ snap)) (v := fun i => spSer (D i)) i
    unfold Re_beginning_B5 Re_beginning_p52
    rw [hc.1, if_pos (by omega), c_head hd0 hc hy hi2, c_fst hd0 hc hy hi2, c_ser hd0 hc hy hi2, pw (by omega) (by omega)]
    rw [show (i : Int) + 1 = ((i + 1 : Nat) : Int) by omega]
    conv => rhs; unfold spPick
    generalize hq : spPick (fun i => spHead (D i) && decide (spFst (D i) ≤ snap)) (fun i => spSer (D i)) i = q at hp
    by_cases a1 : spHead (D i) = true
    rotate_left
    · simp [a1]
    · by_cases a2 : spFst (D i) ≤ snap
      · by_cases a3 : q = -1
        · simp [a1, a2, a3, show ¬ snap < spFst (D i) by omega]
        · obtain ⟨t, ht⟩ : ∃ t : Nat, q = t := ⟨q.toNat, by omega⟩
          subst ht
          rw [c_ser hd0 hc hy (show t < ns by omega)]
          by_cases a4 : spSer (D t) < spSer (D i)
          · simp [a1, a2, a3, a4, show ¬ snap < spFst (D i) by omega]
          · simp [a1, a2, a3, a4, show ¬ snap < spFst (D i) by omega]
      · simp [a1, a2, show snap < spFst (D i) by omega]
theorem c_folL (hd0 : spDim ns blk len) (hc : CD h od ns blk len D C) (hy : spByD ns len D) {ser nx : Int} (h6 : h rc 6 = ser) (h3 : h rc 3 = nx) : ∀ m i, i + m = ns → Re_following_L4 h rc od (spPick (fun i => spHead (D i) && decide (ser < spSer (D i)) && decide (spFst (D i) = nx)) (fun i => spSer (D i)) i) (i : Int) = some (spFollow D ns ser nx) := by
  have hl := hd0.len
  have hn := hd0.2.1
  unfold Re_following_L4
  intro m
  induction m with
  | zero =>
    intro i hi
    refine jloop_r ?_
    obtain rfl : i = ns := by omega
    show Re_following_B4 h rc od _ _ = _
    unfold Re_following_B4
    rw [hc.1, if_neg (by omega)]
    rfl
  | succ m ih =>
    intro i hi
    have hi2 : i < ns := by omega
    rw [← ih (i + 1) (by omega)]
    refine jloop_l ?_
    show Re_following_B4 h rc od _ _ = _
    have hp := spPick_in (p := fun i => spHead (D i) && decide (ser < spSer (D i)) && decide (spFst (D i) = nx)) (v := fun i => spSer (D i)) i
    unfold Re_following_B4 Re_following_p62
    rw [hc.1, if_pos (by omega), c_head hd0 hc hy hi2, c_fst hd0 hc hy hi2, c_ser hd0 hc hy hi2, pw (by omega) (by omega), h6, h3]
    rw [show (i : Int) + 1 = ((i + 1 : Nat) : Int) by omega]
    conv => rhs; unfold spPick
    generalize hq : spPick (fun i => spHead (D i) && decide (ser < spSer (D i)) && decide (spFst (D i) = nx)) (fun i => spSer (D i)) i = q at hp
    by_cases a1 : spHead (D i) = true
    rotate_left
    · simp [a1]
    · by_cases a2 : ser < spSer (D i)
      · by_cases a5 : spFst (D i) = nx
        · by_cases a3 : q = -1
          · simp [a1, a2, a3, a5]
          · obtain ⟨t, ht⟩ : ∃ t : Nat, q = t := ⟨q.toNat, by omega⟩
            subst ht
            rw [c_ser hd0 hc hy (show t < ns by omega)]
            by_cases a4 : spSer (D t) < spSer (D i)
            · simp [a1, a2, a3, a4, a5]
            · simp [a1, a2, a3, a4, a5]
        · simp [a1, a2, a5]
      · simp [a1, a2]
/-- how many right frames, the reader having begun -/
theorem c_fcL (hd0 : spDim ns blk len) (hy : spByD ns len D) (hs : s < ns) {r : Nat} (hr : r ≠ od ∧ r ≠ od + 1 ∧ r ≠ od + 2) : ∀ (f : Nat) (h : jH) (k pay : Nat) (ins : Bool) (hd : Int) (e i : Nat), CD h od ns blk len D C → CR h r s k (spSer (D s)) ins pay hd → k ≤ len → len ≤ k + f → pay ≤ k → i + 5 ≤ k →
    ∃ h', FR_frameCount_L18 h r od (i : Int) = some (((i + (spWalk blk len (D s) f k ins pay hd e).1.length : Nat) : Int), h') ∧ (∀ q, q ≠ r → h' q = h q) := by
  have hl := hd0.len
  have b0 : 0 < blk := by have := hd0.2.2.1; omega
  have b1 := hd0.2.2.1
  unfold FR_frameCount_L18
  intro f
  induction f with
  | zero =>
    intro h k pay ins hd e i hc hR hk hf hp hi
    obtain ⟨h', y, e1, e2, -, -, ⟨rfl, -, -⟩ | ⟨-, e3, -⟩⟩ := c_adv hd0 hc hy hs hr hk hp hR
    · refine ⟨h', jloop_r ?_, e2⟩
      show FR_frameCount_B18 h r od (i : Int) = _
      unfold FR_frameCount_B18
      rw [if_pos (by omega), e1]
      rfl
    · have := spStart_le b0 hl.2.2.2 hk
      omega
  | succ f ih =>
    intro h k pay ins hd e i hc hR hk hf hp hi
    have hst := spStart_le b0 hl.2.2.2 hk
    obtain ⟨h', y, e1, e2, -, -, ⟨rfl, e3, -⟩ | ⟨rfl, e3, e4, -, -, -, e5, -⟩⟩ := c_adv hd0 hc hy hs hr hk hp hR
    · refine ⟨h', jloop_r ?_, e2⟩
      show FR_frameCount_B18 h r od (i : Int) = _
      unfold FR_frameCount_B18
      rw [if_pos (by omega), e1]
      have : (spWalk blk len (D s) (f + 1) k ins pay hd e).1 = [] := by
        unfold spWalk
        rcases e3 with e3 | e3
        · rw [if_pos e3]
        · rw [if_pos e3]
          split <;> rfl
      rw [this]
      rfl
    · have e6 := spFrame_in b0 hl.2.2.2 (spGo_frame e4).1
      have hc' : CD h' od ns blk len D C := hc.fr (e2 _ (fun e => hr.1 e.symm)) (e2 _ (fun e => hr.2.1 e.symm)) (e2 _ (fun e => hr.2.2 e.symm))
      have hpp : (if spLast (D s) (spStart blk k) = true then 0 else pay + spN (D s) (spStart blk k)) ≤ spStart blk k + 4 + spN (D s) (spStart blk k) := by split <;> omega
      obtain ⟨h'', e7, e8⟩ := ih h' _ _ _ _ (if spLast (D s) (spStart blk k) = true then spStart blk k + 4 + spN (D s) (spStart blk k) else e) (i + 1) hc' e5 (by omega) (by omega) hpp (by omega)
      refine ⟨h'', ?_, fun q hq => (e8 q hq).trans (e2 q hq)⟩
      have hw : (spWalk blk len (D s) (f + 1) k ins pay hd e).1.length = (spWalk blk len (D s) f (spStart blk k + 4 + spN (D s) (spStart blk k)) (!(spLast (D s) (spStart blk k))) (if spLast (D s) (spStart blk k) = true then 0 else pay + spN (D s) (spStart blk k)) (if spLast (D s) (spStart blk k) = true then 0 else spH (D s) (spStart blk k) pay hd) (if spLast (D s) (spStart blk k) = true then spStart blk k + 4 + spN (D s) (spStart blk k) else e)).1.length + 1 := by
        conv => lhs; unfold spWalk
        rw [if_neg (by omega), if_neg (by rw [e4]; decide)]
        cases hL : spLast (D s) (spStart blk k) with
        | true => simp [spCons]
        | false => simp [spCons]
      rw [hw]
      refine (jloop_l (s' := (((i + 1 : Nat) : Int), h')) ?_).trans ?_
      · show FR_frameCount_B18 h r od (i : Int) = _
        unfold FR_frameCount_B18
        rw [if_pos (by omega), e1]
        show some (Sum.inl (wr ((i : Int) + 1), h')) = _
        rw [pw (by omega) (by omega)]
        rfl
      · refine e7.trans ?_
        congr 2
        omega
theorem c_open (hd0 : spDim ns blk len) (hc : CD h od ns blk len D C) (hy : spByD ns len D) (hs : s < ns) {r : Nat} (hr : r ≠ od ∧ r ≠ od + 1 ∧ r ≠ od + 2) : ∃ h', FR_open h r od (s : Int) = some h' ∧ (∀ q, q ≠ r → h' q = h q) ∧ CR h' r s 5 (spSer (D s)) false 0 0 := by
  have hc1 : CD (jup h r 6 (s : Int)) od ns blk len D C := hc.fr (jup_ne (fun e => hr.1 e.symm)) (jup_ne (fun e => hr.2.1 e.symm)) (jup_ne (fun e => hr.2.2 e.symm))
  unfold FR_open
  rw [c_ser hd0 hc1 hy hs]
  refine ⟨_, rfl, fun q hq => ?_, ?_⟩
  · rw [jup_ne hq, jup_ne hq, jup_ne hq, jup_ne hq]
  · unfold CR
    simp [ju_if]
    exact ⟨Int.le_refl _, fun _ => rfl, fun e => absurd e (by decide), fun e => absurd e (by decide), fun e => absurd e (by decide)⟩
theorem c_fc (hd0 : spDim ns blk len) (hc : CD h od ns blk len D C) (hy : spByD ns len D) (hs : s < ns) {r : Nat} (hr : r ≠ od ∧ r ≠ od + 1 ∧ r ≠ od + 2) : ∃ h', FR_frameCount h r od (s : Int) = some (if spHead (D s) = true then ((spWk blk len (D s)).1.length : Int) else 0, h') ∧ (∀ q, q ≠ r → h' q = h q) := by
  have hl := hd0.len
  unfold FR_frameCount
  rw [c_head hd0 hc hy hs]
  by_cases a : spHead (D s) = true
  · obtain ⟨h1, e1, e2, e3⟩ := c_open hd0 hc hy hs hr
    have hc' : CD h1 od ns blk len D C := hc.fr (e2 _ (fun e => hr.1 e.symm)) (e2 _ (fun e => hr.2.1 e.symm)) (e2 _ (fun e => hr.2.2 e.symm))
    obtain ⟨h2, e4, e5⟩ := c_fcL hd0 hy hs hr 128 h1 5 0 false 0 5 0 hc' e3 (by omega) (by omega) (by omega) (by omega)
    refine ⟨h2, ?_, fun q hq => (e5 q hq).trans (e2 q hq)⟩
    simp only [if_pos a, Option.bind_some, if_neg (show ¬ (1 : Int) = 0 by decide)]
    rw [e1]
    refine e4.trans ?_
    unfold spWk
    congr 2
    omega
  · refine ⟨h, ?_, fun _ _ => rfl⟩
    simp only [if_neg a, Option.bind_some, if_true]
end CRE
