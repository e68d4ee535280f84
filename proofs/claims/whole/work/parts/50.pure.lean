/-! PURE 1: numbers, the heap, loops -/
theorem pw {x : Int} (h1 : -2147483648 ≤ x) (h2 : x < 2147483648) : wr x = x := wr_id ⟨h1, h2⟩
theorem pv {x : Int} (h1 : -9223372036854775808 ≤ x) (h2 : x < 9223372036854775808) : wl x = x := wl_id ⟨h1, h2⟩
theorem pw_b (x : Int) : wr x = Int.bmod x 4294967296 := by unfold wr; rw [Int32.toInt_ofInt]
theorem pw_ww (a : Int) : wr (wr a) = wr a := by rw [pw_b, pw_b, Int.bmod_bmod]
theorem pw_al (a b : Int) : wr (wr a + b) = wr (a + b) := by rw [pw_b, pw_b, pw_b, Int.bmod_add_bmod]
theorem pw_ar (a b : Int) : wr (a + wr b) = wr (a + b) := by rw [pw_b, pw_b, pw_b, Int.add_bmod_bmod]
theorem pw_sl (a b : Int) : wr (wr a - b) = wr (a - b) := by rw [pw_b, pw_b, pw_b, Int.bmod_sub_bmod]
theorem pw_sr (a b : Int) : wr (a - wr b) = wr (a - b) := by rw [pw_b, pw_b, pw_b, Int.sub_bmod_bmod]
theorem pw_ml (a b : Int) : wr (wr a * b) = wr (a * b) := by rw [pw_b, pw_b, pw_b, Int.bmod_mul_bmod]
theorem pw_mr (a b : Int) : wr (a * wr b) = wr (a * b) := by rw [pw_b, pw_b, pw_b, Int.mul_bmod_bmod]
theorem pj_bv (a : Int) : (Int32.ofInt a).toBitVec = BitVec.ofInt 32 a := rfl
theorem pj_255 (a : Int) : jand a 255 = a % 256 := by
  have e : ∀ x : Nat, x &&& 255 = x % 256 := fun x => Nat.and_two_pow_sub_one_eq_mod x 8
  show BitVec.toInt (BitVec.ofInt 32 a &&& BitVec.ofInt 32 255) = _
  rw [BitVec.toInt_eq_toNat_bmod, BitVec.toNat_and, BitVec.toNat_ofInt, BitVec.toNat_ofInt]
  rw [show ((255 : Int) % ((2 ^ 32 : Nat) : Int)).toNat = 255 from rfl, e, show (2 ^ 32 : Nat) = 4294967296 from rfl, Int.bmod_def]
  split <;> omega
theorem pj_65535 (a : Int) : jand a 65535 = a % 65536 := by
  have e : ∀ x : Nat, x &&& 65535 = x % 65536 := fun x => Nat.and_two_pow_sub_one_eq_mod x 16
  show BitVec.toInt (BitVec.ofInt 32 a &&& BitVec.ofInt 32 65535) = _
  rw [BitVec.toInt_eq_toNat_bmod, BitVec.toNat_and, BitVec.toNat_ofInt, BitVec.toNat_ofInt]
  rw [show ((65535 : Int) % ((2 ^ 32 : Nat) : Int)).toNat = 65535 from rfl, e, show (2 ^ 32 : Nat) = 4294967296 from rfl, Int.bmod_def]
  split <;> omega
theorem pj_31 (a : Int) : jand a 31 = a % 32 := by
  have e : ∀ x : Nat, x &&& 31 = x % 32 := fun x => Nat.and_two_pow_sub_one_eq_mod x 5
  show BitVec.toInt (BitVec.ofInt 32 a &&& BitVec.ofInt 32 31) = _
  rw [BitVec.toInt_eq_toNat_bmod, BitVec.toNat_and, BitVec.toNat_ofInt, BitVec.toNat_ofInt]
  rw [show ((31 : Int) % ((2 ^ 32 : Nat) : Int)).toNat = 31 from rfl, e, show (2 ^ 32 : Nat) = 4294967296 from rfl, Int.bmod_def]
  split <;> omega
theorem pj_63 (a : Int) : jand a 63 = a % 64 := by
  have e : ∀ x : Nat, x &&& 63 = x % 64 := fun x => Nat.and_two_pow_sub_one_eq_mod x 6
  show BitVec.toInt (BitVec.ofInt 32 a &&& BitVec.ofInt 32 63) = _
  rw [BitVec.toInt_eq_toNat_bmod, BitVec.toNat_and, BitVec.toNat_ofInt, BitVec.toNat_ofInt]
  rw [show ((63 : Int) % ((2 ^ 32 : Nat) : Int)).toNat = 63 from rfl, e, show (2 ^ 32 : Nat) = 4294967296 from rfl, Int.bmod_def]
  split <;> omega
theorem pj_m31 (a : Int) (h0 : 0 ≤ a) (h1 : a < 9223372036854775808) : jlan a 2147483647 = a % 2147483648 := by
  have e : ∀ x : Nat, x &&& 2147483647 = x % 2147483648 := fun x => Nat.and_two_pow_sub_one_eq_mod x 31
  show BitVec.toInt (BitVec.ofInt 64 a &&& BitVec.ofInt 64 2147483647) = _
  rw [BitVec.toInt_eq_toNat_bmod, BitVec.toNat_and, BitVec.toNat_ofInt, BitVec.toNat_ofInt]
  rw [show ((2147483647 : Int) % ((2 ^ 64 : Nat) : Int)).toNat = 2147483647 from rfl, e, show (2 ^ 64 : Nat) = 18446744073709551616 from rfl, Int.bmod_def]
  split <;> omega
theorem pj_shl {a : Int} {k : Nat} (hk : k < 31) (h0 : 0 ≤ a) (h1 : a * 2 ^ k < 2147483648) : jshl a (k : Int) = a * 2 ^ k := by
  obtain ⟨n, rfl⟩ : ∃ n : Nat, a = n := ⟨a.toNat, by omega⟩
  have e0 : ((n * 2 ^ k : Nat) : Int) < 2147483648 := by rw [Int.natCast_mul, Int.natCast_pow]; exact h1
  have e1 : (n * 2 ^ k : Nat) < 2147483648 := by omega
  have e2 : n ≤ n * 2 ^ k := Nat.le_mul_of_pos_right _ (Nat.two_pow_pos k)
  have key : ∀ k : Nat, k < 31 → ((Int32.ofInt (k : Int) &&& 31).toBitVec.smod 32) = BitVec.ofNat 32 k := by decide +kernel
  have e3 : (Int32.ofInt (n : Int) <<< (Int32.ofInt (k : Int) &&& 31)).toBitVec = (BitVec.ofInt 32 (n : Int)) <<< ((Int32.ofInt (k : Int) &&& 31).toBitVec.smod 32) := rfl
  show BitVec.toInt (Int32.ofInt (n : Int) <<< (Int32.ofInt (k : Int) &&& 31)).toBitVec = _
  rw [e3, key k hk, BitVec.toInt_eq_toNat_bmod]
  rw [BitVec.shiftLeft_eq', BitVec.toNat_shiftLeft, BitVec.toNat_ofInt, BitVec.toNat_ofNat]
  rw [Nat.mod_eq_of_lt (show k < 2 ^ 32 by omega), Nat.shiftLeft_eq]
  have e4 : ((n : Int) % ((2 ^ 32 : Nat) : Int)).toNat = n := by omega
  rw [e4, Nat.mod_eq_of_lt (by omega), Int.bmod_eq_of_le (by omega) (by omega)]
  simp
theorem pj_shr {a : Int} {k : Nat} (hk : k < 31) (h0 : -2147483648 ≤ a) (h1 : a < 2147483648) : jshr a (k : Int) = a / 2 ^ k := by
  have key : ∀ k : Nat, k < 31 → ((Int32.ofInt (k : Int) &&& 31).toBitVec.smod 32) = BitVec.ofNat 32 k := by decide +kernel
  have e3 : (Int32.ofInt a >>> (Int32.ofInt (k : Int) &&& 31)).toBitVec = BitVec.sshiftRight' (BitVec.ofInt 32 a) ((Int32.ofInt (k : Int) &&& 31).toBitVec.smod 32) := rfl
  show BitVec.toInt (Int32.ofInt a >>> (Int32.ofInt (k : Int) &&& 31)).toBitVec = _
  rw [e3, key k hk, BitVec.toInt_sshiftRight', BitVec.toNat_ofNat, Nat.mod_eq_of_lt (show k < 2 ^ 32 by omega), BitVec.toInt_ofInt, Int.bmod_eq_of_le (by omega) (by omega), Int.shiftRight_eq_div_pow]
  simp
theorem pj_shl8 {a : Int} (h0 : 0 ≤ a) (h1 : a < 8388608) : jshl a 8 = 256 * a := by
  have := pj_shl (a := a) (k := 8) (by decide) h0 (by omega)
  rw [show (8 : Int) = ((8 : Nat) : Int) from rfl, this]; omega
theorem pj_shr8 {a : Int} (h0 : -2147483648 ≤ a) (h1 : a < 2147483648) : jshr a 8 = a / 256 := by
  have := pj_shr (a := a) (k := 8) (by decide) h0 h1
  rw [show (8 : Int) = ((8 : Nat) : Int) from rfl, this]; rfl
theorem pj_shr16 {a : Int} (h0 : -2147483648 ≤ a) (h1 : a < 2147483648) : jshr a 16 = a / 65536 := by
  have := pj_shr (a := a) (k := 16) (by decide) h0 h1
  rw [show (16 : Int) = ((16 : Nat) : Int) from rfl, this]; rfl
theorem pj_or8 {a b : Int} (h0 : 0 ≤ a) (h1 : a < 8388608) (h2 : 0 ≤ b) (h3 : b < 256) : jor (256 * a) b = 256 * a + b := by
  obtain ⟨n, rfl⟩ : ∃ n : Nat, a = n := ⟨a.toNat, by omega⟩
  obtain ⟨m, rfl⟩ : ∃ n : Nat, b = n := ⟨b.toNat, by omega⟩
  have e := Nat.two_pow_add_eq_or_of_lt (b := m) (i := 8) (by omega) n
  show BitVec.toInt (BitVec.ofInt 32 (256 * (n : Int)) ||| BitVec.ofInt 32 (m : Int)) = _
  rw [BitVec.toInt_eq_toNat_bmod, BitVec.toNat_or, BitVec.toNat_ofInt, BitVec.toNat_ofInt]
  rw [show ((256 * (n : Int)) % ((2 ^ 32 : Nat) : Int)).toNat = 2 ^ 8 * n by omega, show ((m : Int) % ((2 ^ 32 : Nat) : Int)).toNat = m by omega, ← e, Int.bmod_eq_of_le (by omega) (by omega)]
  omega
theorem pj_hi {a : Int} (h0 : 0 ≤ a) (h1 : a < 256) : jand (256 * a) 65280 = 256 * a := by
  have key : ∀ k : Nat, k < 256 → jand (256 * (k : Int)) 65280 = 256 * k := by decide +kernel
  obtain ⟨n, rfl⟩ : ∃ n : Nat, a = n := ⟨a.toNat, by omega⟩
  exact key n (by omega)
theorem ju_eq {h : jH} {o k : Nat} {v : Int} : jup h o k v o k = v := by simp [jup]
theorem ju_ne {h : jH} {o k k' : Nat} {v : Int} (e : k' ≠ k) : jup h o k v o k' = h o k' := by simp [jup, e]
theorem ju_if {h : jH} {o k k' : Nat} {v : Int} : jup h o k v o k' = if k' = k then v else h o k' := by simp [jup]
/-- nothing but objects of A is changed -/
def fr (A : Nat → Prop) (h h' : jH) : Prop := ∀ q, ¬ A q → h' q = h q
theorem fr.rf {A : Nat → Prop} {h : jH} : fr A h h := fun _ _ => rfl
theorem fr.tr {A : Nat → Prop} {h1 h2 h3 : jH} (a : fr A h1 h2) (b : fr A h2 h3) : fr A h1 h3 := fun q hq => (b q hq).trans (a q hq)
theorem fr.mono {A B : Nat → Prop} {h1 h2 : jH} (a : fr A h1 h2) (h : ∀ q, A q → B q) : fr B h1 h2 := fun q hq => a q (fun x => hq (h q x))
theorem fr.up {A : Nat → Prop} {h1 h2 : jH} {o k : Nat} {v : Int} (a : fr A h1 h2) (h : A o) : fr A h1 (jup h2 o k v) := fun q hq => (jup_ne (fun e : q = o => hq (e ▸ h))).trans (a q hq)
theorem fr.u1 {A : Nat → Prop} {h1 : jH} {o k : Nat} {v : Int} (h : A o) : fr A h1 (jup h1 o k v) := fr.rf.up h
/-! loops -/
theorem jloop_l {S O : Type} {f : S → Option (S ⊕ O)} {s s' : S} (h : f s = some (.inl s')) : jloop f s = jloop f s' := by rw [jloop_eq f s, h]
theorem jloop_r {S O : Type} {f : S → Option (S ⊕ O)} {s : S} {o : O} (h : f s = some (.inr o)) : jloop f s = some o := by rw [jloop_eq f s, h]
/-- a loop with a measure -/
theorem jloop_m {S O : Type} {f : S → Option (S ⊕ O)} (I : S → Prop) (μ : S → Nat) {Q : O → Prop} (hs : ∀ s, I s → (∃ s', f s = some (.inl s') ∧ I s' ∧ μ s' < μ s) ∨ ∃ o, f s = some (.inr o) ∧ Q o) (s : S) (h : I s) : ∃ o, jloop f s = some o ∧ Q o := by
  obtain ⟨n, hn⟩ : ∃ n, μ s < n := ⟨μ s + 1, by omega⟩
  induction n generalizing s with
  | zero => omega
  | succ n ih =>
    rcases hs s h with ⟨s', h1, h2, h3⟩ | ⟨o, h1, h2⟩
    · obtain ⟨o, h4, h5⟩ := ih s' h2 (by omega)
      exact ⟨o, (jloop_l h1).trans h4, h5⟩
    · exact ⟨o, jloop_r h1, h2⟩
/-- a counted loop -/
theorem jloop_n {S O : Type} {f : S → Option (S ⊕ O)} (P : Nat → S → Prop) (n : Nat) {Q : O → Prop} (hs : ∀ k s, k < n → P k s → ∃ s', f s = some (.inl s') ∧ P (k + 1) s') (he : ∀ s, P n s → ∃ o, f s = some (.inr o) ∧ Q o) {k : Nat} (hk : k ≤ n) {s : S} (h : P k s) : ∃ o, jloop f s = some o ∧ Q o := by
  obtain ⟨m, hm⟩ : ∃ m, m = n - k := ⟨_, rfl⟩
  induction m generalizing k s with
  | zero =>
    obtain rfl : k = n := by omega
    obtain ⟨o, h1, h2⟩ := he s h
    exact ⟨o, jloop_r h1, h2⟩
  | succ m ih =>
    obtain ⟨s', h1, h2⟩ := hs k s (by omega) h
    obtain ⟨o, h4, h5⟩ := ih (k := k + 1) (by omega) h2 (by omega)
    exact ⟨o, (jloop_l h1).trans h4, h5⟩
/-! what every class's cells are read and written by -/
theorem g_cell {h : jH} {r n : Nat} {v : Int} : G_cell h r n v = some (if 0 ≤ v ∧ v < (n : Int) then h r v.toNat else -1) := by
  unfold G_cell G_cell_p16
  by_cases h1 : v < 0
  · rw [if_pos h1, if_neg (by omega)]
  · by_cases h2 : v < (n : Int)
    · rw [if_neg h1, if_pos h2, if_pos (by omega), if_pos (by omega)]
    · rw [if_neg h1, if_neg h2, if_neg (by omega)]
theorem g_cellN {h : jH} {r n k : Nat} (hk : k < n) : G_cell h r n (k : Int) = some (h r k) := by
  rw [g_cell, if_pos (by omega)]; rfl
theorem g_put {h : jH} {r n : Nat} {v x : Int} : G_put h r n v x = some (if 0 ≤ v ∧ v < (n : Int) then jup h r v.toNat x else h) := by
  unfold G_put
  by_cases h1 : v < 0
  · rw [if_pos h1, if_neg (by omega)]
  · by_cases h2 : v < (n : Int)
    · rw [if_neg h1, if_pos h2, if_pos (by omega), if_pos (by omega)]
    · rw [if_neg h1, if_neg h2, if_neg (by omega)]
theorem g_putN {h : jH} {r n k : Nat} {x : Int} (hk : k < n) : G_put h r n (k : Int) x = some (jup h r k x) := by
  rw [g_put, if_pos (by omega)]; rfl
theorem g_copy {h : jH} {r r' n : Nat} : G_copy h r n r' n = some (jcpy h r r' 0 0 n) := by
  unfold G_copy
  rw [Int.min_self, if_pos (by simp)]
  rfl
theorem jcpy_at {h : jH} {s d n k : Nat} (hk : k < n) : jcpy h s d 0 0 n d k = h s k := by unfold jcpy; rw [if_pos rfl, if_pos (by omega)]; congr 1; omega
theorem jcpy_hi {h : jH} {s d n k : Nat} (hk : n ≤ k) : jcpy h s d 0 0 n d k = h d k := by unfold jcpy; rw [if_pos rfl, if_neg (by omega)]
theorem fr.cp {A : Nat → Prop} {h1 h2 : jH} {s d n : Nat} (a : fr A h1 h2) (h : A d) : fr A h1 (jcpy h2 s d 0 0 n) := fun q hq => (jcpy_ne (fun e : q = d => hq (e ▸ h))).trans (a q hq)
theorem jfill_at {h : jH} {a n k : Nat} {v : Int} (hk : k < n) : jfill h a n v a k = v := by unfold jfill; rw [if_pos rfl, if_pos hk]
theorem fr.fl {A : Nat → Prop} {h1 h2 : jH} {a n : Nat} {v : Int} (b : fr A h1 h2) (h : A a) : fr A h1 (jfill h2 a n v) := fun q hq => (jfill_ne (fun e : q = a => hq (e ▸ h))).trans (b q hq)
theorem ju_if2 {h : jH} {o k q k' : Nat} {v : Int} : jup h o k v q k' = if q = o ∧ k' = k then v else h q k' := by
  unfold jup
  by_cases a : q = o
  · by_cases b : k' = k
    · simp [a, b]
    · simp [a, b]
  · simp [a]
theorem jloop_x {S O : Type} {f : S → Option (S ⊕ O)} {s : S} {X : Option O} (h : f s = Option.map Sum.inr X) : jloop f s = X := by
  rw [jloop_eq, h]
  cases X <;> rfl
theorem jloop_k {S O : Type} {f : S → Option (S ⊕ O)} (P : Nat → S → Prop) (n : Nat) (hs : ∀ k s, k < n → P k s → ∃ s', f s = some (.inl s') ∧ P (k + 1) s') {k : Nat} {s : S} (hk : k ≤ n) (h : P k s) : ∃ s', P n s' ∧ jloop f s = jloop f s' := by
  obtain ⟨m, hm⟩ : ∃ m, m = n - k := ⟨_, rfl⟩
  induction m generalizing k s with
  | zero =>
    obtain rfl : k = n := by omega
    exact ⟨s, h, rfl⟩
  | succ m ih =>
    obtain ⟨s', h1, h2⟩ := hs k s (by omega) h
    obtain ⟨s2, h3, h4⟩ := ih (k := k + 1) (by omega) h2 (by omega)
    exact ⟨s2, h3, (jloop_l h1).trans h4⟩
theorem p_in (n : Nat) (k : Nat) (h : k < n) : (0 : Int) ≤ (k : Int) ∧ ((k : Int)).toNat < n := by omega
