/-! SPEC 1: what bytes tell -/
def spChk (b : Nat → Int) : Nat → Nat → Int → Int
  | 0, _, c => c
  | n + 1, i, c => spChk b n (i + 1) ((3 * c + b i) % 251)
def spSer (b : Nat → Int) : Int := 256 * b 0 + b 1
def spFst (b : Nat → Int) : Int := 256 * b 2 + b 3
def spHead (b : Nat → Int) : Bool := decide (spChk b 4 0 7 = b 4) && decide (spSer b ≠ 0)
def spBy (b : Nat → Int) (len : Nat) : Prop := ∀ k, k < len → 0 ≤ b k ∧ b k < 256
/-- the end of the block of a byte -/
def spEnd (blk k : Nat) : Nat := k - k % blk + blk
def spFrame (blk len : Nat) (b : Nat → Int) (k : Nat) : Bool :=
  decide (k < len) && decide (k + 4 < spEnd blk k) && decide (1 ≤ b (k + 2)) && decide ((k : Int) + 4 + b (k + 2) ≤ (spEnd blk k : Int)) && decide (b (k + 3) = spSer b % 256) && decide (spChk b (3 + (b (k + 2)).toNat) (k + 1) 7 = b k)
/-- how many segments, how long a block, how long a segment -/
def spDim (ns blk len : Nat) : Prop := 2 ≤ ns ∧ ns ≤ 4 ∧ 16 ≤ blk ∧ blk ≤ 32 ∧ ∃ m, 2 ≤ m ∧ m ≤ 4 ∧ len = m * blk
theorem spDim.len {ns blk len : Nat} (h : spDim ns blk len) : 32 ≤ len ∧ len ≤ 128 ∧ blk ≤ len ∧ len % blk = 0 := by
  obtain ⟨_, _, h1, h2, m, h3, h4, rfl⟩ := h
  have e1 : 2 * blk ≤ m * blk := Nat.mul_le_mul_right _ h3
  have e2 : m * blk ≤ 4 * blk := Nat.mul_le_mul_right _ h4
  refine ⟨by omega, by omega, by omega, Nat.mul_mod_left _ _⟩
theorem spDim.adr {ns blk len s k : Nat} (h : spDim ns blk len) (hs : s < ns) (hk : k < len) : s * len + k < ns * len ∧ ns * len ≤ 512 := by
  have h2 := h.len
  have e1 : (s + 1) * len ≤ ns * len := Nat.mul_le_mul_right _ hs
  have e2 : ns * len ≤ 4 * len := Nat.mul_le_mul_right _ h.2.1
  rw [Nat.succ_mul] at e1
  omega
theorem sp_adr_inj {len s k s' k' : Nat} (hk : k < len) (hk' : k' < len) (e : s * len + k = s' * len + k') : s = s' ∧ k = k' := by
  have a1 : (s * len + k) / len = s := by rw [Nat.mul_comm, Nat.mul_add_div (by omega), Nat.div_eq_of_lt hk]; omega
  have a2 : (s' * len + k') / len = s' := by rw [Nat.mul_comm, Nat.mul_add_div (by omega), Nat.div_eq_of_lt hk']; omega
  have : s = s' := by rw [← a1, ← a2, e]
  subst this
  exact ⟨rfl, by omega⟩
theorem spEnd_gt {blk k : Nat} (hb : 0 < blk) : k < spEnd blk k ∧ spEnd blk k ≤ k + blk := by
  have h1 := Nat.mod_lt k hb
  have h2 := Nat.mod_le k blk
  unfold spEnd
  omega
theorem spEnd_mul {blk k : Nat} (hb : 0 < blk) : spEnd blk k = (k / blk + 1) * blk := by
  have h1 := Nat.div_add_mod k blk
  unfold spEnd
  rw [Nat.add_mul, Nat.mul_comm]
  omega
theorem spEnd_mod {blk k : Nat} (hb : 0 < blk) : spEnd blk k % blk = 0 := by rw [spEnd_mul hb]; exact Nat.mul_mod_left _ _
theorem spEnd_le {blk len k : Nat} (hb : 0 < blk) (hl : len % blk = 0) (hk : k < len) : spEnd blk k ≤ len := by
  rw [spEnd_mul hb]
  have h1 : len = len / blk * blk := by have := Nat.div_add_mod len blk; rw [Nat.mul_comm]; omega
  have h2 : k / blk < len / blk := by
    rw [Nat.div_lt_iff_lt_mul hb]
    omega
  rw [h1]
  exact Nat.mul_le_mul_right _ h2
theorem spEnd_len {blk len : Nat} (hl : len % blk = 0) : spEnd blk len = len + blk := by unfold spEnd; omega
/-! the class's disk -/
def CD (h : jH) (o ns blk len : Nat) (D C : Nat → Nat → Int) : Prop :=
  h o 2 = (ns : Int) ∧ h o 3 = (len : Int) ∧ h o 4 = (blk : Int) ∧ (∀ s k, s < ns → k < len → h (o + 1) (s * len + k) = D s k) ∧ (∀ s k, s < ns → k < len → h (o + 2) (s * len + k) = C s k) ∧ ∀ a, ns * len ≤ a → a < 512 → h (o + 2) a = 0
def spByD (ns len : Nat) (D : Nat → Nat → Int) : Prop := ∀ s, s < ns → spBy (D s) len
theorem spChk_in {b : Nat → Int} : ∀ (n i : Nat) (c : Int), 0 ≤ c → c < 251 → 0 ≤ spChk b n i c ∧ spChk b n i c < 251 := by
  intro n
  induction n with
  | zero => intro i c h1 h2; exact ⟨h1, h2⟩
  | succ n ih => intro i c h1 h2; exact ih _ _ (by omega) (by omega)
theorem g_chk {h : jH} {r n : Nat} {b : Nat → Int} : ∀ (m i k : Nat) (c : Int), 0 ≤ c → c < 251 → i + m ≤ n → n ≤ 100000 → (∀ j, j < m → h r (i + j) = b (k + j) ∧ 0 ≤ b (k + j) ∧ b (k + j) < 256) → G_checkOf h c r n (i : Int) ((i + m : Nat) : Int) = some (spChk b m k c) := by
  unfold G_checkOf G_checkOf_L6
  intro m
  induction m with
  | zero =>
    intro i k c h0 h1 h2 h3 h4
    refine jloop_r ?_
    show G_checkOf_B6 h r n ((i + 0 : Nat) : Int) c (i : Int) = _
    unfold G_checkOf_B6
    rw [if_neg (by omega)]
    rfl
  | succ m ih =>
    intro i k c h0 h1 h2 h3 h4
    have h5 := h4 0 (by omega)
    rw [Nat.add_zero, Nat.add_zero] at h5
    have h6 := ih (i + 1) (k + 1) ((3 * c + b k) % 251) (by omega) (by omega) (by omega) h3 (fun j hj => by
      have := h4 (j + 1) (by omega)
      rw [show i + 1 + j = i + (j + 1) by omega, show k + 1 + j = k + (j + 1) by omega]
      exact this)
    refine (jloop_l (s' := ((3 * c + b k) % 251, ((i + 1 : Nat) : Int))) ?_).trans ?_
    · show G_checkOf_B6 h r n ((i + (m + 1) : Nat) : Int) c (i : Int) = _
      unfold G_checkOf_B6 G_checkOf_p32
      rw [if_pos (by omega), if_neg (by omega), if_pos (by omega), if_pos (by omega)]
      rw [show ((i : Int)).toNat = i from rfl, h5.1, pw (x := 3 * c) (by omega) (by omega), pw (by omega) (by omega), pw (by omega) (by omega), Int.tmod_eq_emod_of_nonneg (by omega)]
      rfl
    · rw [show i + (m + 1) = i + 1 + m by omega]
      exact h6
section CDS
variable {h : jH} {o ns blk len s k : Nat} {D C : Nat → Nat → Int}
theorem c_oct (hd : spDim ns blk len) (hc : CD h o ns blk len D C) (hs : s < ns) (hk : k < len) : Di_octetAt h o (s : Int) (k : Int) = some (D s k) := by
  obtain ⟨c1, c2, c3, c4, -, -⟩ := hc
  have h1 := hd.adr hs hk
  have h2 := hd.len
  have e1 : ((s : Int) * (len : Int)) = ((s * len : Nat) : Int) := by simp
  unfold Di_octetAt
  rw [c1, c2, if_neg (by omega), if_pos (by omega), if_neg (by omega), if_pos (by omega), e1, pw (x := ((s * len : Nat) : Int)) (by omega) (by omega), pw (by omega) (by omega), if_neg (by omega), if_pos (by omega), if_pos (by omega)]
  rw [show (((s * len : Nat) : Int) + (k : Int)).toNat = s * len + k by omega, c4 s k hs hk]
theorem c_octK (hc : CD h o ns blk len D C) (hk : len ≤ k) : Di_octetAt h o (s : Int) (k : Int) = some (-1) := by
  obtain ⟨c1, c2, c3, c4, -, -⟩ := hc
  unfold Di_octetAt
  rw [c1, c2, if_neg (by omega), if_neg (show ¬ (k : Int) < (len : Int) by omega), if_neg (show ¬ (k : Int) < 0 by omega)]
  split <;> rfl
theorem c_ser (hd : spDim ns blk len) (hc : CD h o ns blk len D C) (hy : spByD ns len D) (hs : s < ns) : Di_serialOf h o (s : Int) = some (spSer (D s)) := by
  have h2 := hd.len
  have y0 := hy s hs 0 (by omega)
  have y1 := hy s hs 1 (by omega)
  unfold Di_serialOf
  rw [show (0 : Int) = ((0 : Nat) : Int) from rfl, show (1 : Int) = ((1 : Nat) : Int) from rfl, c_oct hd hc hs (by omega), c_oct hd hc hs (by omega)]
  show some (jor (jshl (D s 0) 8) (D s 1)) = _
  rw [pj_shl8 (by omega) (by omega), pj_or8 (by omega) (by omega) (by omega) (by omega)]
  rfl
theorem c_fst (hd : spDim ns blk len) (hc : CD h o ns blk len D C) (hy : spByD ns len D) (hs : s < ns) : Di_firstOf h o (s : Int) = some (spFst (D s)) := by
  have h2 := hd.len
  have y0 := hy s hs 2 (by omega)
  have y1 := hy s hs 3 (by omega)
  unfold Di_firstOf
  rw [show (2 : Int) = ((2 : Nat) : Int) from rfl, show (3 : Int) = ((3 : Nat) : Int) from rfl, c_oct hd hc hs (by omega), c_oct hd hc hs (by omega)]
  show some (jor (jshl (D s 2) 8) (D s 3)) = _
  rw [pj_shl8 (by omega) (by omega), pj_or8 (by omega) (by omega) (by omega) (by omega)]
  rfl
theorem c_holds (hc : CD h o ns blk len D C) (hs : s < ns) : Di_holds h o (s : Int) (k : Int) = some (if k < len then 1 else 0) := by
  obtain ⟨c1, c2, c3, c4, -, -⟩ := hc
  unfold Di_holds Di_holds_p28
  rw [c1, c2, if_neg (by omega), if_pos (by omega), if_neg (by omega)]
  by_cases hk : k < len
  · rw [if_pos (by omega), if_pos hk]
  · rw [if_neg (by omega), if_neg hk]
theorem c_chk (hd : spDim ns blk len) (hc : CD h o ns blk len D C) (hy : spByD ns len D) (hs : s < ns) {n : Nat} (hk : k + n ≤ len) : G_checkOf h 7 (o + 1) 512 ((s * len + k : Nat) : Int) ((s * len + k + n : Nat) : Int) = some (spChk (D s) n k 7) := by
  have h2 := hd.len
  by_cases hn : n = 0
  · subst hn
    unfold G_checkOf G_checkOf_L6
    refine jloop_r ?_
    unfold G_checkOf_B6
    dsimp only
    rw [if_neg (by omega)]
    rfl
  · have h1 := hd.adr (s := s) (k := k + n - 1) hs (by omega)
    refine g_chk (b := D s) n (s * len + k) k 7 (by omega) (by omega) (by omega) (by omega) (fun j hj => ?_)
    refine ⟨?_, hy s hs (k + j) (by omega)⟩
    rw [Nat.add_assoc]
    exact hc.2.2.2.1 s (k + j) hs (by omega)
theorem c_head (hd : spDim ns blk len) (hc : CD h o ns blk len D C) (hy : spByD ns len D) (hs : s < ns) : Di_headStands h o (s : Int) = some (if spHead (D s) = true then 1 else 0) := by
  have h2 := hd.len
  have h1 := hd.adr (s := s) (k := 4) hs (by omega)
  unfold Di_headStands Di_headStands_p50
  rw [show (0 : Int) = ((0 : Nat) : Int) from rfl, c_holds hc hs, if_pos (by omega)]
  show Option.bind (Di_serialOf h o (s : Int)) _ = _
  rw [c_ser hd hc hy hs]
  show (if spSer (D s) = 0 then some 0 else Option.bind (Di_octetAt h o (s : Int) 4) _) = _
  rw [show (4 : Int) = ((4 : Nat) : Int) from rfl, c_oct hd hc hs (by omega)]
  have e1 : ((s : Int) * h o 3) = ((s * len + 0 : Nat) : Int) := by rw [hc.2.1]; simp
  have e2 : wr ((s : Int) * h o 3) = ((s * len + 0 : Nat) : Int) := by rw [e1, pw (by omega) (by omega)]
  have e3 : wr (wr ((s : Int) * h o 3) + ((4 : Nat) : Int)) = ((s * len + 0 + 4 : Nat) : Int) := by rw [e2, pw (by omega) (by omega)]; omega
  show (if spSer (D s) = 0 then some 0 else Option.bind (G_checkOf h 7 (o + 1) 512 (wr ((s : Int) * h o 3)) (wr (wr ((s : Int) * h o 3) + ((4 : Nat) : Int)))) (fun b6 => if D s 4 = b6 then some 1 else some 0)) = _
  rw [e3, e2, c_chk hd hc hy hs (by omega)]
  show (if spSer (D s) = 0 then some 0 else (if D s 4 = spChk (D s) 4 0 7 then some 1 else some 0)) = _
  unfold spHead
  by_cases a : spSer (D s) = 0
  · simp [a]
  · by_cases b : spChk (D s) 4 0 7 = D s 4
    · simp [a, b]
    · have b' : ¬ D s 4 = spChk (D s) 4 0 7 := fun e => b e.symm
      simp [a, b, b']
theorem c_bend (hd : spDim ns blk len) (hc : CD h o ns blk len D C) (hk : k ≤ 128) : Di_blockEnd h o (k : Int) = some (spEnd blk k : Int) := by
  obtain ⟨c1, c2, c3, c4, -, -⟩ := hc
  have b0 : 0 < blk := by have := hd.2.2.1; omega
  have b1 := hd.2.2.2.1
  have h1 := spEnd_gt (blk := blk) (k := k) b0
  have h2 := spEnd_mul (blk := blk) (k := k) b0
  have h3 : k / blk ≤ k := Nat.div_le_self _ _
  unfold Di_blockEnd
  rw [c3, if_pos (by omega), if_pos (by omega), Int.tdiv_eq_ediv_of_nonneg (by omega)]
  have e1 : (k : Int) / (blk : Int) = ((k / blk : Nat) : Int) := rfl
  rw [e1]
  generalize k / blk = q at h2 h3
  rw [pw (x := (q : Int)) (by omega) (by omega), pw (x := (q : Int) + 1) (by omega) (by omega)]
  have e2 : ((q : Int) + 1) * (blk : Int) = ((spEnd blk k : Nat) : Int) := by rw [h2]; simp
  rw [e2, pw (by omega) (by omega)]
/-- where a frame begins -/
def spStart (blk k : Nat) : Nat := if spEnd blk k - k ≤ 4 then spEnd blk k else k
theorem c_fstart (hd : spDim ns blk len) (hc : CD h o ns blk len D C) (hk : k ≤ 128) : Di_frameStart h o (k : Int) = some (spStart blk k : Int) := by
  have b0 : 0 < blk := by have := hd.2.2.1; omega
  have b1 := hd.2.2.2.1
  have h1 := spEnd_gt (blk := blk) (k := k) b0
  unfold Di_frameStart
  rw [c_bend hd hc hk]
  show (if 4 < wr ((spEnd blk k : Int) - (k : Int)) then some (k : Int) else some (spEnd blk k : Int)) = _
  rw [pw (by omega) (by omega)]
  unfold spStart
  by_cases a : spEnd blk k - k ≤ 4
  · rw [if_neg (by omega), if_pos a]
  · rw [if_pos (by omega), if_neg a]
theorem c_frame (hd : spDim ns blk len) (hc : CD h o ns blk len D C) (hy : spByD ns len D) (hs : s < ns) (hk : k ≤ len) : Di_frameStands h o (s : Int) (k : Int) (spSer (D s)) = some (if spFrame blk len (D s) k = true ∧ 1 ≤ D s (k + 1) ∧ D s (k + 1) ≤ 4 then 1 else 0) := by
  have h2 := hd.len
  have b0 : 0 < blk := by have := hd.2.2.1; omega
  have b1 := hd.2.2.2.1
  have h1 := spEnd_gt (blk := blk) (k := k) b0
  unfold Di_frameStands Di_frameStands_p139
  rw [c_bend hd hc (by omega)]
  show (if wr ((k : Int) + 4) < (spEnd blk k : Int) then Option.bind (Di_holds h o (s : Int) (wr ((spEnd blk k : Int) - 1))) _ else some 0) = _
  rw [pw (x := (k : Int) + 4) (by omega) (by omega), pw (x := (spEnd blk k : Int) - 1) (by omega) (by omega)]
  by_cases a1 : k + 4 < spEnd blk k
  rotate_left
  · rw [if_neg (by omega), if_neg (by unfold spFrame; simp [a1])]
  rw [if_pos (by omega), show ((spEnd blk k : Int) - 1) = ((spEnd blk k - 1 : Nat) : Int) by omega, c_holds hc hs]
  by_cases a2 : k < len
  rotate_left
  · have : k = len := by omega
    subst this
    rw [spEnd_len h2.2.2.2, if_neg (show ¬ k + blk - 1 < k by omega), if_neg (by unfold spFrame; simp)]
    rfl
  have h3 := spEnd_le b0 h2.2.2.2 a2
  rw [if_pos (by omega)]
  show Option.bind (Di_octetAt h o (s : Int) (wr ((k : Int) + 1))) _ = _
  rw [pw (x := (k : Int) + 1) (by omega) (by omega), pw (x := (k : Int) + 2) (by omega) (by omega), pw (x := (k : Int) + 3) (by omega) (by omega)]
  rw [show (k : Int) + 1 = ((k + 1 : Nat) : Int) by omega, show (k : Int) + 2 = ((k + 2 : Nat) : Int) by omega, show (k : Int) + 3 = ((k + 3 : Nat) : Int) by omega]
  rw [c_oct hd hc hs (show k + 1 < len by omega), c_oct hd hc hs (show k + 2 < len by omega), c_oct hd hc hs (show k + 3 < len by omega), c_oct hd hc hs a2]
  have y2 := hy s hs (k + 2) (by omega)
  obtain ⟨n, hn⟩ : ∃ n : Nat, D s (k + 2) = n := ⟨(D s (k + 2)).toNat, by omega⟩
  show (if D s (k + 1) < 1 then some 0 else if 4 < D s (k + 1) then some 0 else if D s (k + 2) < 1 then some 0 else if (spEnd blk k : Int) < wr ((k : Int) + 4 + D s (k + 2)) then some 0 else (if D s (k + 3) = jand (spSer (D s)) 255 then Option.bind (G_checkOf h 7 (o + 1) 512 (wr (wr (wr ((s : Int) * h o 3) + (k : Int)) + 1)) (wr (wr (wr (wr ((s : Int) * h o 3) + (k : Int)) + 4) + D s (k + 2)))) (fun b14 => if D s k = b14 then some 1 else some 0) else some 0)) = _
  rw [pj_255, pw (x := (k : Int) + 4 + D s (k + 2)) (by omega) (by omega)]
  unfold spFrame
  by_cases k1 : D s (k + 1) < 1
  · rw [if_pos k1, if_neg (by omega)]
  by_cases k2 : 4 < D s (k + 1)
  · rw [if_neg k1, if_pos k2, if_neg (by omega)]
  by_cases k3 : D s (k + 2) < 1
  · rw [if_neg k1, if_neg k2, if_pos k3, if_neg (by simp; omega)]
  by_cases k4 : (spEnd blk k : Int) < (k : Int) + 4 + D s (k + 2)
  · rw [if_neg k1, if_neg k2, if_neg k3, if_pos k4, if_neg (by simp; omega)]
  by_cases k5 : D s (k + 3) = spSer (D s) % 256
  rotate_left
  · rw [if_neg k1, if_neg k2, if_neg k3, if_neg k4, if_neg k5, if_neg (by simp [k5])]
  rw [if_neg k1, if_neg k2, if_neg k3, if_neg k4, if_pos k5]
  have ha := hd.adr hs a2
  have e1 : ((s : Int) * h o 3) = ((s * len : Nat) : Int) := by rw [hc.2.1]; simp
  rw [e1, pw (x := ((s * len : Nat) : Int)) (by omega) (by omega), pw (x := ((s * len : Nat) : Int) + (k : Int)) (by omega) (by omega)]
  rw [pw (x := ((s * len : Nat) : Int) + (k : Int) + 1) (by omega) (by omega), pw (x := ((s * len : Nat) : Int) + (k : Int) + 4) (by omega) (by omega), pw (by omega) (by omega)]
  rw [show ((s * len : Nat) : Int) + (k : Int) + 1 = ((s * len + (k + 1) : Nat) : Int) by omega, show ((s * len : Nat) : Int) + (k : Int) + 4 + D s (k + 2) = ((s * len + (k + 1) + (3 + n) : Nat) : Int) by omega]
  rw [c_chk hd hc hy hs (show k + 1 + (3 + n) ≤ len by omega)]
  show (if D s k = spChk (D s) (3 + n) (k + 1) 7 then some 1 else some 0) = _
  have e5 : (D s (k + 2)).toNat = n := by omega
  rw [e5]
  by_cases k6 : D s k = spChk (D s) (3 + n) (k + 1) 7
  · rw [if_pos k6, if_pos]
    simp [a1, a2, k5, k6.symm]
    omega
  · rw [if_neg k6, if_neg]
    intro hq
    simp at hq
    exact k6 (hq.1.2).symm
end CDS
