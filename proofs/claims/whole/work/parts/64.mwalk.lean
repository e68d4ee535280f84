/-! the reference's walk -/
theorem MD.fr {h h' : jH} {o ns blk len : Nat} {D C : Nat → Nat → Int} (hc : MD h o ns blk len D C) (hd : spDim ns blk len) (h0 : h' (o + 28) = h (o + 28)) (h1 : ∀ i, 196 ≤ i → i < 1220 → h' (o + 33) i = h (o + 33) i) : MD h' o ns blk len D C := by
  obtain ⟨c1, c2, c3, c4, c5, c6⟩ := hc
  have h2 := hd.len
  have h3 := hd.2.1
  refine ⟨by rw [h0]; exact c1, by rw [h0]; exact c2, by rw [h0]; exact c3, fun s k hs hk => ?_, fun s k hs hk => ?_, fun s k hs hk hq => ?_⟩
  · rw [h1 _ (by omega) (by omega)]; exact c4 s k hs hk
  · rw [h1 _ (by omega) (by omega)]; exact c5 s k hs hk
  · rw [h1 _ (by omega) (by omega)]; exact c6 s k hs hk hq
theorem spStart_room {blk k : Nat} (hb : 4 < blk) : 4 < spEnd blk (spStart blk k) - spStart blk k := by
  unfold spStart
  have h0 := spEnd_gt (blk := blk) (k := k) (by omega)
  split
  · have h1 := spEnd_mod (blk := blk) (k := k) (by omega)
    have h2 : spEnd blk (spEnd blk k) = spEnd blk k + blk := by
      generalize spEnd blk k = t at h1
      unfold spEnd
      omega
                                                                      
    omega
  · omega
section MWK
variable {o ns blk len s : Nat} {D C : Nat → Nat → Int}
theorem m_can {kind : Int} {ins : Bool} {v : Int} (hv : v = if ins = true then 1 else 0) : M_canBe o kind v = some (if spCan kind ins = true then 1 else 0) := by
  unfold M_canBe M_canBe_p32 M_canBe_p14 spCan
  subst hv
  cases ins
  · by_cases a : kind = 1
    · simp [a]
    · by_cases b : kind = 2
      · simp [b]
      · simp [a, b]
  · by_cases a : kind = 3
    · simp [a]
    · by_cases b : kind = 4
      · simp [b]
      · simp [a, b]
theorem m_borneL {h : jH} (hd0 : spDim ns blk len) (hc : MD h o ns blk len D C) (hy : spByD ns len D) (hs : s < ns) {j n pay : Nat} {kind : Int} (hj : j + 4 + n ≤ len) (hp : pay ≤ 128) : ∀ (m i : Nat) (hd : Int), i + m = n → 0 ≤ hd → (pay + i = 0 → hd = 0) → (pay + i = 1 → hd < 256) → (pay + i = 2 → hd < 65536) → (3 ≤ pay + i → hd < 16777216) →
    M_isBorne_L34 h o (s : Int) (j : Int) (n : Int) kind ((pay + i : Nat) : Int) hd (i : Int) = (if kind = 1 ∨ kind = 4 then M_isBorne_p87 h o ((pay + n : Nat) : Int) (spHd (D s) (min m (3 - (pay + i))) (j + 4 + i) hd) else M_isBorne_p117 h o ((pay + n : Nat) : Int) (spHd (D s) (min m (3 - (pay + i))) (j + 4 + i) hd)) := by
  have hl := hd0.len
  unfold M_isBorne_L34
  intro m
  induction m with
  | zero =>
    intro i hd hi h0 k0 k1 k2 k3
    refine jloop_x ?_
    show M_isBorne_B34 h o (s : Int) (j : Int) (n : Int) kind ((pay + i : Nat) : Int) hd (i : Int) = _
    unfold M_isBorne_B34
    rw [if_neg (by omega)]
    obtain rfl : i = n := by omega
    rw [Nat.zero_min]
    unfold spHd
    congr 1
    by_cases a : kind = 1
    · rw [if_pos a, if_pos (Or.inl a)]
    · by_cases b : kind = 4
      · rw [if_neg a, if_pos b, if_pos (Or.inr b)]
      · rw [if_neg a, if_neg b, if_neg (by omega)]
  | succ m ih =>
    intro i hd hi h0 k0 k1 k2 k3
    have y := hy s hs (j + 4 + i) (by omega)
    by_cases a : pay + i < 3
    · have e := ih (i + 1) (256 * hd + D s (j + 4 + i)) (by omega) (by omega) (by omega) (by omega) (by omega) (by omega)
      refine (jloop_l (s' := (((pay + (i + 1) : Nat) : Int), 256 * hd + D s (j + 4 + i), ((i + 1 : Nat) : Int))) ?_).trans (e.trans ?_)
      · show M_isBorne_B34 h o (s : Int) (j : Int) (n : Int) kind ((pay + i : Nat) : Int) hd (i : Int) = _
        unfold M_isBorne_B34
        rw [if_pos (by omega), if_pos (by omega), pw (x := (j : Int) + 4) (by omega) (by omega), pw (x := (j : Int) + 4 + (i : Int)) (by omega) (by omega), show (j : Int) + 4 + (i : Int) = ((j + 4 + i : Nat) : Int) by omega, m_oct hd0 hc hs (by omega)]
        simp only [Option.bind_some]
        rw [pw (x := 256 * hd) (by omega) (by omega), pw (by omega) (by omega), pw (by omega) (by omega), pw (by omega) (by omega)]
        rfl
      · obtain ⟨t, ht⟩ : ∃ t, min (m + 1) (3 - (pay + i)) = t + 1 := ⟨min (m + 1) (3 - (pay + i)) - 1, by omega⟩
        rw [ht]
        have e2 : min m (3 - (pay + (i + 1))) = t := by omega
        rw [e2]
        rfl
    · have e := ih (i + 1) hd (by omega) h0 (by omega) (by omega) (by omega) (fun _ => k3 (by omega))
      refine (jloop_l (s' := (((pay + (i + 1) : Nat) : Int), hd, ((i + 1 : Nat) : Int))) ?_).trans (e.trans ?_)
      · show M_isBorne_B34 h o (s : Int) (j : Int) (n : Int) kind ((pay + i : Nat) : Int) hd (i : Int) = _
        unfold M_isBorne_B34
        rw [if_pos (by omega), if_neg (by omega), pw (by omega) (by omega), pw (by omega) (by omega)]
        rfl
      · rw [show 3 - (pay + (i + 1)) = 0 by omega, show 3 - (pay + i) = 0 by omega, Nat.min_zero, Nat.min_zero]
        unfold spHd
        rfl
/-- what of a record is read so far, in the reference -/
def spKM (pay : Nat) (hd : Int) : Prop := 0 ≤ hd ∧ (pay = 0 → hd = 0) ∧ (pay = 1 → hd < 256) ∧ (pay = 2 → hd < 65536) ∧ (3 ≤ pay → hd < 16777216)
theorem spKM_hd {b : Nat → Int} {len : Nat} (hy : spBy b len) : ∀ (n i pay : Nat) (hd : Int), spKM pay hd → n ≤ 3 - pay → i + n ≤ len → spKM (pay + n) (spHd b n i hd) := by
  intro n
  induction n with
  | zero => intro i pay hd h _ _; exact h
  | succ n ih =>
    intro i pay hd h hn hi
    have y := hy i (by omega)
    have := ih (i + 1) (pay + 1) (256 * hd + b i) (by unfold spKM at h ⊢; omega) (by omega) (by omega)
    rw [show pay + (n + 1) = pay + 1 + n by omega]
    exact this
theorem spKM_H {b : Nat → Int} {len j pay : Nat} {hd : Int} (hy : spBy b len) (h : spKM pay hd) (hj : j + 4 + spN b j ≤ len) : spKM (pay + spN b j) (spH b j pay hd) := by
  have := spKM_hd hy (min (spN b j) (3 - pay)) (j + 4) pay hd h (by omega) (by omega)
  unfold spH
  unfold spKM at this h ⊢
  refine ⟨this.1, ?_, ?_, ?_, ?_⟩
  · intro e; exact this.2.1 (by omega)
  · intro e; exact this.2.2.1 (by omega)
  · intro e; exact this.2.2.2.1 (by omega)
  · intro e
    by_cases a : 3 ≤ pay
    · have z : min (spN b j) (3 - pay) = 0 := by omega
      rw [z] at this ⊢
      exact h.2.2.2.2 a
    · exact this.2.2.2.2 (by omega)
theorem m_borne {h : jH} (hd0 : spDim ns blk len) (hc : MD h o ns blk len D C) (hy : spByD ns len D) (hs : s < ns) {j pay : Nat} {hd : Int} (hf : spFrame blk len (D s) j = true) (hp : pay ≤ 128) (h3 : h o 63 = (pay : Int)) (h4 : h o 64 = hd) (hk : spKM pay hd) :
    M_isBorne h o (s : Int) (j : Int) = some (if (!(spLast (D s) j) || spOk (pay + spN (D s) j) (spH (D s) j pay hd)) = true then (1, jup (jup h o 63 ((pay + spN (D s) j : Nat) : Int)) o 64 (spH (D s) j pay hd)) else (0, h)) := by
  have hl := hd0.len
  have b0 : 0 < blk := by have := hd0.2.2.1; omega
  have e9 := spFrame_in b0 hl.2.2.2 hf
  unfold M_isBorne
  rw [pw (by omega) (by omega), pw (by omega) (by omega), show (j : Int) + 2 = ((j + 2 : Nat) : Int) by omega, show (j : Int) + 1 = ((j + 1 : Nat) : Int) by omega, m_oct hd0 hc hs (by omega), m_oct hd0 hc hs (by omega)]
  simp only [Option.bind_some]
  rw [h3, h4, e9.2.2.2.2.1]
  have e := m_borneL (h := h) (pay := pay) (n := spN (D s) j) (kind := D s (j + 1)) hd0 hc hy hs e9.2.2.1 hp (spN (D s) j) 0 hd (by omega) hk.1 hk.2.1 hk.2.2.1 hk.2.2.2.1 hk.2.2.2.2
  rw [show (0 : Int) = ((0 : Nat) : Int) from rfl, show ((pay : Nat) : Int) = ((pay + 0 : Nat) : Int) from rfl, e]
  have hk2 := spKM_H (hy s hs) hk e9.2.2.1
  show (if D s (j + 1) = 1 ∨ D s (j + 1) = 4 then M_isBorne_p87 h o ((pay + spN (D s) j : Nat) : Int) (spH (D s) j pay hd) else M_isBorne_p117 h o ((pay + spN (D s) j : Nat) : Int) (spH (D s) j pay hd)) = _
  generalize spH (D s) j pay hd = H at hk2 ⊢
  by_cases a : D s (j + 1) = 1 ∨ D s (j + 1) = 4
  · have hL : spLast (D s) j = true := by unfold spLast; simpa using a
    rw [if_pos a, hL]
    unfold M_isBorne_p87 M_isBorne_p117 spOk
    rw [pj_65535]
    by_cases k1 : pay + spN (D s) j < 3
    · rw [if_pos (by omega), if_neg (by simp; omega)]; rfl
    · have := hk2.2.2.2.2 (by omega)
      have := hk2.1
      rw [if_neg (by omega), pj_shr16 (by omega) (by omega)]
      by_cases k2 : H / 65536 < 16
      · by_cases k4 : H % 65536 < 1000
        · rw [if_pos k2, if_neg (by omega), if_pos (by simp; omega)]
        · rw [if_pos k2, if_pos (by omega), if_neg (by simp; omega)]; rfl
      · rw [if_neg k2, if_neg (by simp; omega)]; rfl
  · have hL : spLast (D s) j = false := by unfold spLast; simp; omega
    rw [if_neg a, hL]
    rfl
/-- a record is read: its number goes up; where one recovers, its value and where it lies are told -/
theorem m_rec {h : jH} (hs : s < 4) {n : Int} {key : Nat} {val snap : Int} (h9 : h (o + 33) 9 = snap) (hk : key < 16) (h4 : h o 64 / 65536 = (key : Int)) (h4v : h o 64 % 65536 = val) (h4b : 0 ≤ h o 64 ∧ h o 64 < 16777216) :
    ∃ h', M_recordRead h o (s : Int) = some h' ∧ (∀ q, q ≠ o → q ≠ o + 33 → h' q = h q) ∧ (∀ f, f ≠ 62 → h' o f = h o f) ∧ (h o 65 = 0 → h' (o + 33) = h (o + 33)) ∧ (h o 65 = 1 → h o 62 = n → 0 ≤ n → n ≤ 1000000 → h' o 62 = n + 1 ∧ ∀ i, h' (o + 33) i = pu (if snap ≤ n then pu (h (o + 33)) (144 + key) val else h (o + 33)) (192 + s) n i) := by
  unfold M_recordRead M_recordRead_p59
  by_cases a : h o 65 = 0
  · rw [if_pos a]
    refine ⟨_, rfl, fun q hq _ => jup_ne hq, fun f hf => ju_ne hf, fun _ => jup_ne (by omega), fun e => by omega⟩
  · rw [if_neg a, if_pos (by decide)]
    have k45 : ∀ g : jH, (∀ q, q ≠ o + 33 → g q = h q) → ∃ h', M_recordRead_p45 g o (s : Int) = some h' ∧ (∀ q, q ≠ o → q ≠ o + 33 → h' q = h q) ∧ (∀ f, f ≠ 62 → h' o f = h o f) ∧ h' o 62 = wr (h o 62 + 1) ∧ ∀ i, h' (o + 33) i = pu (g (o + 33)) (192 + s) (h o 62) i := by
      intro g hg
      unfold M_recordRead_p45 M_recordRead_p59
      rw [pw (by omega) (by omega), if_pos (by omega), show (192 + (s : Int)).toNat = 192 + s by omega]
      refine ⟨_, rfl, fun q hq hq2 => ?_, fun f hf => ?_, ?_, fun i => ?_⟩
      · rw [jup_ne hq, jup_ne hq2, hg q hq2]
      · rw [ju_ne hf, jup_ne (by omega), hg o (by omega)]
      · rw [ju_eq, jup_ne (by omega), hg o (by omega)]
      · rw [jup_ne (by omega), ju_if, hg o (by omega)]
        rfl
    show ∃ h', (if h o 62 < h (o + 33) 9 then M_recordRead_p45 h o (s : Int) else _) = some h' ∧ _
    rw [h9]
    by_cases b : h o 62 < snap
    · rw [if_pos b]
      obtain ⟨h', e1, e2, e3, e4, e5⟩ := k45 h (fun _ _ => rfl)
      refine ⟨h', e1, e2, e3, fun e => absurd e a, fun _ hn h0 h1 => ⟨by rw [e4, hn, pw (by omega) (by omega)], fun i => ?_⟩⟩
      rw [e5 i, if_neg (by omega), hn]
    · rw [if_neg b, pj_shr16 (by omega) (by omega), pj_65535, h4, h4v, pw (by omega) (by omega), if_pos (by omega), show (144 + (key : Int)).toNat = 144 + key by omega]
      obtain ⟨h', e1, e2, e3, e4, e5⟩ := k45 (jup h (o + 33) (144 + key) val) (fun q hq => jup_ne hq)
      refine ⟨h', e1, e2, e3, fun e => absurd e a, fun _ hn h0 h1 => ⟨by rw [e4, hn, pw (by omega) (by omega)], fun i => ?_⟩⟩
      rw [e5 i, if_pos (by omega), hn]
      unfold pu
      simp only [ju_if]
end MWK
