/-! SPEC 2: a walk along a segment's frames -/
def pu (f : Nat → Int) (i : Nat) (v : Int) : Nat → Int := fun j => if j = i then v else f j
def spCan (kind : Int) (ins : Bool) : Bool := if ins = true then decide (kind = 3) || decide (kind = 4) else decide (kind = 1) || decide (kind = 2)
def spHd (b : Nat → Int) : Nat → Nat → Int → Int
  | 0, _, hd => hd
  | n + 1, i, hd => spHd b n (i + 1) (256 * hd + b i)
def spN (b : Nat → Int) (j : Nat) : Nat := (b (j + 2)).toNat
def spH (b : Nat → Int) (j pay : Nat) (hd : Int) : Int := spHd b (min (spN b j) (3 - pay)) (j + 4) hd
def spLast (b : Nat → Int) (j : Nat) : Bool := decide (b (j + 1) = 1) || decide (b (j + 1) = 4)
def spOk (pay : Nat) (hd : Int) : Bool := decide (3 ≤ pay) && decide (hd / 65536 < 16) && decide (hd % 65536 < 1000)
def spGo (blk len : Nat) (b : Nat → Int) (j : Nat) (ins : Bool) (pay : Nat) (hd : Int) : Bool :=
  spFrame blk len b j && spCan (b (j + 1)) ins && (!(spLast b j) || spOk (pay + spN b j) (spH b j pay hd))
abbrev spW : Type := List Nat × List (Int × Int) × Nat × Nat
def spCons (j : Nat) (rs : List (Int × Int)) (r : spW) : spW := (j :: r.1, rs ++ r.2.1, r.2.2)
/-- the frames, the records, where the last record ends, where no right frame is -/
def spWalk (blk len : Nat) (b : Nat → Int) : Nat → Nat → Bool → Nat → Int → Nat → spW
  | 0, _, _, _, _, e => ([], [], e, len)
  | f + 1, k, ins, pay, hd, e =>
    if len ≤ spStart blk k then ([], [], e, len)
    else if spGo blk len b (spStart blk k) ins pay hd = false then ([], [], e, spStart blk k)
    else if spLast b (spStart blk k) = true then
      spCons (spStart blk k) [(spH b (spStart blk k) pay hd / 65536, spH b (spStart blk k) pay hd % 65536)] (spWalk blk len b f (spStart blk k + 4 + spN b (spStart blk k)) false 0 0 (spStart blk k + 4 + spN b (spStart blk k)))
    else spCons (spStart blk k) [] (spWalk blk len b f (spStart blk k + 4 + spN b (spStart blk k)) true (pay + spN b (spStart blk k)) (spH b (spStart blk k) pay hd) e)
def spWk (blk len : Nat) (b : Nat → Int) : spW := spWalk blk len b 128 5 false 0 0 5
theorem spStart_le {blk len k : Nat} (hb : 0 < blk) (hl : len % blk = 0) (hk : k ≤ len) : k ≤ spStart blk k ∧ spStart blk k ≤ len + blk ∧ (k < len → spStart blk k ≤ len) ∧ (len ≤ spStart blk k ∧ 4 < blk → spStart blk k = len) := by
  have h1 := spEnd_gt (blk := blk) (k := k) hb
  by_cases a : k < len
  · have h2 := spEnd_le hb hl a
    unfold spStart
    split <;> omega
  · have : k = len := by omega
    subst this
    have h3 := spEnd_len hl
    unfold spStart
    split <;> omega
/-- a right frame lies within its segment -/
theorem spFrame_in {blk len : Nat} {b : Nat → Int} {j : Nat} (hb : 0 < blk) (hl : len % blk = 0) (h : spFrame blk len b j = true) : j < len ∧ 1 ≤ b (j + 2) ∧ j + 4 + spN b j ≤ len ∧ 1 ≤ spN b j ∧ b (j + 2) = (spN b j : Int) ∧ j + 4 + spN b j ≤ spEnd blk j := by
  unfold spFrame at h
  simp at h
  obtain ⟨⟨⟨⟨⟨h1, h2⟩, h3⟩, h4⟩, h5⟩, h6⟩ := h
  have := spEnd_le hb hl h1
  unfold spN
  omega
theorem spGo_frame {blk len : Nat} {b : Nat → Int} {j : Nat} {ins : Bool} {pay : Nat} {hd : Int} (h : spGo blk len b j ins pay hd = true) : spFrame blk len b j = true ∧ spCan (b (j + 1)) ins = true ∧ (spLast b j = true → spOk (pay + spN b j) (spH b j pay hd) = true) := by
  unfold spGo at h
  simp at h
  refine ⟨h.1.1, h.1.2, fun e => ?_⟩
  rcases h.2 with h2 | h2
  · rw [e] at h2; cases h2
  · exact h2
/-- what of a record's first three bytes is told, and how the reader bears it -/
def spKV (pay : Nat) (hd key value : Int) : Prop := 0 ≤ hd ∧ (pay = 0 → hd = 0) ∧ (pay = 1 → hd < 256 ∧ key = hd) ∧ (pay = 2 → hd < 65536 ∧ key = hd / 256 ∧ value = 256 * (hd % 256)) ∧ (3 ≤ pay → hd < 16777216 ∧ key = hd / 65536 ∧ value = hd % 65536)
section CFR
variable {h : jH} {o r ns blk len s : Nat} {D C : Nat → Nat → Int}
theorem CD.fr {h' : jH} (hc : CD h o ns blk len D C) (h0 : h' o = h o) (h1 : h' (o + 1) = h (o + 1)) (h2 : h' (o + 2) = h (o + 2)) : CD h' o ns blk len D C := by
  unfold CD
  rw [h0, h1, h2]
  exact hc
theorem c_take {p : Nat} {hd v : Int} (hp : p < 3) (hk : spKV p hd (h r 4) (h r 5)) (h0 : 0 ≤ v) (h1 : v < 256) : ∃ h', FR_takeOctet h r (p : Int) v = some h' ∧ (∀ q k, q ≠ r ∨ (k ≠ 4 ∧ k ≠ 5) → h' q k = h q k) ∧ spKV (p + 1) (256 * hd + v) (h' r 4) (h' r 5) := by
  unfold FR_takeOctet
  obtain ⟨k0, k1, k2, k3, k4⟩ := hk
  match p, hp with
  | 0, _ =>
    refine ⟨_, rfl, fun q k hq => ?_, ?_⟩
    · rw [ju_if2]; split <;> simp_all
    · have := k1 rfl
      rw [ju_eq]
      refine ⟨by omega, by omega, fun _ => by omega, fun e => by omega, fun e => by omega⟩
  | 1, _ =>
    have e := k2 rfl
    refine ⟨_, rfl, fun q k hq => ?_, ?_⟩
    · rw [ju_if2]; split <;> simp_all
    · rw [ju_ne (by decide), ju_eq, pj_shl8 h0 (by omega)]
      refine ⟨by omega, by omega, fun e => by omega, fun _ => by omega, fun e => by omega⟩
  | 2, _ =>
    have e := k3 rfl
    refine ⟨_, rfl, fun q k hq => ?_, ?_⟩
    · rw [ju_if2]; split <;> simp_all
    · rw [ju_ne (by decide), ju_eq, e.2.2, pj_hi (by omega) (by omega), pj_or8 (by omega) (by omega) h0 h1]
      refine ⟨by omega, by omega, fun e => by omega, fun e => by omega, fun _ => by omega⟩
theorem c_adv_L (hd0 : spDim ns blk len) (hy : spByD ns len D) (hs : s < ns) (hr : r ≠ o ∧ r ≠ o + 1 ∧ r ≠ o + 2) {j pay n : Nat} (hjn : j + 4 + n ≤ len) : ∀ (m i : Nat) (h : jH) (hd : Int), CD h o ns blk len D C → h r 6 = (s : Int) → h r 3 = (j : Int) → h r 2 = (n : Int) → pay ≤ 128 → m = min n (3 - pay) - i → i ≤ min n (3 - pay) → spKV (pay + i) hd (h r 4) (h r 5) →
    ∃ h', FR_advance_L108 h r o (pay : Int) (i : Int) = FR_advance_p152 h' r (pay : Int) ∧ (∀ q k, q ≠ r ∨ (k ≠ 4 ∧ k ≠ 5) → h' q k = h q k) ∧ (spKV (pay + n) (spHd (D s) m (j + 4 + i) hd) (h' r 4) (h' r 5)) := by
  have h2 := hd0.len
  intro m
  induction m with
  | zero =>
    intro i h hd hc h6 h3 hn hp hm hi hk
    refine ⟨h, ?_, fun _ _ _ => rfl, ?_⟩
    · unfold FR_advance_L108
      cases hq : FR_advance_p152 h r (pay : Int) with
      | none =>
        rw [jloop_eq]
        have : FR_advance_B108 h r o (pay : Int) (i : Int) = none := by
          unfold FR_advance_B108
          rw [hn, pw (by omega) (by omega), hq]
          by_cases a : (i : Int) < (n : Int)
          · rw [if_pos a, if_neg (by omega)]; rfl
          · rw [if_neg a]; rfl
        dsimp only
        rw [this]
      | some y =>
        refine jloop_r ?_
        show FR_advance_B108 h r o (pay : Int) (i : Int) = _
        unfold FR_advance_B108
        rw [hn, pw (by omega) (by omega), hq]
        by_cases a : (i : Int) < (n : Int)
        · rw [if_pos a, if_neg (by omega)]; rfl
        · rw [if_neg a]; rfl
    · unfold spHd
      by_cases a : pay + n < 3
      · have : i = n := by omega
        subst this
        exact hk
      · obtain ⟨k0, k1, k2, k3, k4⟩ := hk
        have h9 : 3 ≤ pay + i := by omega
        exact ⟨k0, fun e => by omega, fun e => by omega, fun e => by omega, fun _ => k4 h9⟩
  | succ m ih =>
    intro i h hd hc h6 h3 hn hp hm hi hk
    have y := hy s hs (j + 4 + i) (by omega)
    obtain ⟨h1, e1, e2, e3⟩ := c_take (r := r) (p := pay + i) (by omega) hk y.1 y.2
    obtain ⟨h', e4, e5, e6⟩ := ih (i + 1) h1 (256 * hd + D s (j + 4 + i)) (hc.fr (funext fun k => e2 _ _ (Or.inl (fun e => hr.1 e.symm))) (funext fun k => e2 _ _ (Or.inl (fun e => hr.2.1 e.symm))) (funext fun k => e2 _ _ (Or.inl (fun e => hr.2.2 e.symm)))) (by rw [e2 r 6 (Or.inr (by decide)), h6]) (by rw [e2 r 3 (Or.inr (by decide)), h3]) (by rw [e2 r 2 (Or.inr (by decide)), hn]) hp (by omega) (by omega) e3
    refine ⟨h', ?_, fun q k hq => (e5 q k hq).trans (e2 q k hq), e6⟩
    rw [← e4]
    unfold FR_advance_L108
    refine jloop_l ?_
    show FR_advance_B108 h r o (pay : Int) (i : Int) = _
    unfold FR_advance_B108
    rw [hn, h6, h3, pw (x := (pay : Int) + (i : Int)) (by omega) (by omega), if_pos (by omega), if_pos (by omega), pw (x := (j : Int) + 4) (by omega) (by omega), pw (x := (j : Int) + 4 + (i : Int)) (by omega) (by omega), show (j : Int) + 4 + (i : Int) = ((j + 4 + i : Nat) : Int) by omega, c_oct hd0 hc hs (by omega), show (pay : Int) + (i : Int) = ((pay + i : Nat) : Int) by omega]
    show Option.bind (FR_takeOctet h r ((pay + i : Nat) : Int) (D s (j + 4 + i))) _ = _
    rw [e1]
    show some (Sum.inl (wr ((i : Int) + 1), h1)) = _
    rw [pw (by omega) (by omega)]
    rfl
/-- the reader in a segment, at a byte -/
def CR (h : jH) (r s k : Nat) (ser : Int) (ins : Bool) (pay : Nat) (hd : Int) : Prop :=
  h r 3 = (k : Int) ∧ h r 6 = (s : Int) ∧ h r 7 = ser ∧ h r 9 = (if ins = true then 1 else 0) ∧ (ins = true → h r 8 = (pay : Int)) ∧ (ins = false → pay = 0) ∧ spKV pay hd (h r 4) (h r 5)
theorem FR_isLast_eq : FR_isLast h r = some (if h r 1 = 1 ∨ h r 1 = 4 then 1 else 0) := by
  unfold FR_isLast FR_isLast_p16
  by_cases a : h r 1 = 1
  · rw [if_pos a, if_pos (Or.inl a)]
  · by_cases b : h r 1 = 4
    · rw [if_neg a, if_pos b, if_pos (Or.inr b)]
    · rw [if_neg a, if_neg b, if_neg (by omega)]
theorem c_p174 {pay n j : Nat} (h2 : h r 2 = (n : Int)) (h3 : h r 3 = (j : Int)) (hp : pay ≤ 300) (hn : n ≤ 300) (hj : j ≤ 300) : ∃ h', FR_advance_p174 h r (pay : Int) = some (1, h') ∧ (∀ q, q ≠ r → h' q = h q) ∧ h' r 0 = (j : Int) ∧ h' r 1 = h r 1 ∧ h' r 2 = (n : Int) ∧ h' r 3 = ((j + 4 + n : Nat) : Int) ∧ h' r 4 = h r 4 ∧ h' r 5 = h r 5 ∧ h' r 6 = h r 6 ∧ h' r 7 = h r 7 ∧ h' r 8 = ((pay + n : Nat) : Int) ∧ h' r 9 = (if h r 1 = 1 ∨ h r 1 = 4 then 0 else 1) := by
  unfold FR_advance_p174
  rw [FR_isLast_eq]
  simp only [ju_ne (show (1 : Nat) ≠ 8 by decide)]
  have key : ∀ v : Int, (v = 0 ∨ v = 1) → ∃ h', FR_advance_p197 (jup h r 8 (wr ((pay : Int) + h r 2))) r r v = some (1, h') ∧ (∀ q, q ≠ r → h' q = h q) ∧ h' r 0 = (j : Int) ∧ h' r 1 = h r 1 ∧ h' r 2 = (n : Int) ∧ h' r 3 = ((j + 4 + n : Nat) : Int) ∧ h' r 4 = h r 4 ∧ h' r 5 = h r 5 ∧ h' r 6 = h r 6 ∧ h' r 7 = h r 7 ∧ h' r 8 = ((pay + n : Nat) : Int) ∧ h' r 9 = v := by
    intro v hv
    unfold FR_advance_p197
    rw [if_pos hv]
    refine ⟨_, rfl, fun q hq => ?_, ?_, ?_, ?_, ?_, ?_, ?_, ?_, ?_, ?_, ?_⟩
    · rw [jup_ne hq, jup_ne hq, jup_ne hq, jup_ne hq]
    all_goals simp [ju_if, h2, h3]
    · rw [pw (x := 4 + (n : Int)) (by omega) (by omega), pw (by omega) (by omega)]; omega
    · rw [pw (by omega) (by omega)]
  by_cases a : h r 1 = 1 ∨ h r 1 = 4
  · simp only [if_pos a, Option.bind_some, if_neg (show ¬ (1 : Int) = 0 by decide)]
    exact key 0 (Or.inl rfl)
  · simp only [if_neg a, Option.bind_some, if_true]
    exact key 1 (Or.inr rfl)
/-- one frame on -/
theorem c_adv (hd0 : spDim ns blk len) (hc : CD h o ns blk len D C) (hy : spByD ns len D) (hs : s < ns) (hr : r ≠ o ∧ r ≠ o + 1 ∧ r ≠ o + 2) {k pay : Nat} {ins : Bool} {hd : Int} (hk : k ≤ len) (hp : pay ≤ k) (hR : CR h r s k (spSer (D s)) ins pay hd) :
    ∃ h' y, FR_advance h r o = some (y, h') ∧ (∀ q, q ≠ r → h' q = h q) ∧ h' r 6 = (s : Int) ∧ h' r 7 = spSer (D s) ∧
      ((y = 0 ∧ (len ≤ spStart blk k ∨ spGo blk len (D s) (spStart blk k) ins pay hd = false) ∧ h' r 3 = (spStart blk k : Int)) ∨
       (y = 1 ∧ spStart blk k < len ∧ spGo blk len (D s) (spStart blk k) ins pay hd = true ∧ h' r 0 = (spStart blk k : Int) ∧ h' r 1 = D s (spStart blk k + 1) ∧ h' r 2 = D s (spStart blk k + 2) ∧
         CR h' r s (spStart blk k + 4 + spN (D s) (spStart blk k)) (spSer (D s)) (!(spLast (D s) (spStart blk k))) (if spLast (D s) (spStart blk k) = true then 0 else pay + spN (D s) (spStart blk k)) (if spLast (D s) (spStart blk k) = true then 0 else spH (D s) (spStart blk k) pay hd) ∧
         (spLast (D s) (spStart blk k) = true → h' r 4 = spH (D s) (spStart blk k) pay hd / 65536 ∧ h' r 5 = spH (D s) (spStart blk k) pay hd % 65536))) := by
  have hl := hd0.len
  have b0 : 0 < blk := by have := hd0.2.2.1; omega
  have b1 := hd0.2.2.1
  obtain ⟨r3, r6, r7, r9, r8, r8', rk⟩ := hR
  have hst := spStart_le b0 hl.2.2.2 hk
  have hb2 := hd0.2.2.2.1
  obtain ⟨j, hj⟩ : ∃ j, j = spStart blk k := ⟨_, rfl⟩
  rw [← hj] at hst ⊢
  have hjl : j ≤ len := by omega
  unfold FR_advance
  rw [r3, c_fstart hd0 hc (by omega), ← hj]
  have hc1 : CD (jup h r 3 (j : Int)) o ns blk len D C := hc.fr (jup_ne (fun e => hr.1 e.symm)) (jup_ne (fun e => hr.2.1 e.symm)) (jup_ne (fun e => hr.2.2 e.symm))
  simp only [Option.bind_some, ju_eq, ju_ne (show (6 : Nat) ≠ 3 by decide), ju_ne (show (7 : Nat) ≠ 3 by decide), ju_ne (show (8 : Nat) ≠ 3 by decide), ju_ne (show (9 : Nat) ≠ 3 by decide), r6, r7, r9]
  rw [c_frame hd0 hc1 hy hs hjl]
  simp only [Option.bind_some]
  by_cases a1 : spFrame blk len (D s) j = true
  rotate_left
  · rw [if_pos (by rw [if_neg (fun e => a1 e.1)])]
    refine ⟨_, 0, rfl, fun q hq => jup_ne hq, ?_, ?_, Or.inl ⟨rfl, ?_, ju_eq⟩⟩
    · rw [ju_ne (by decide), r6]
    · rw [ju_ne (by decide), r7]
    · right
      unfold spGo
      simp [a1]
  obtain ⟨f1, f2, f3, f4, f5, f6⟩ := spFrame_in b0 hl.2.2.2 a1
  have y1 := hy s hs (j + 1) (by omega)
  have y2 := hy s hs (j + 2) (by omega)
  rw [pw (x := (j : Int) + 1) (by omega) (by omega), show (j : Int) + 1 = ((j + 1 : Nat) : Int) by omega, c_oct hd0 hc1 hs (by omega)]
  simp only [Option.bind_some]
  by_cases a2 : spCan (D s (j + 1)) ins = true
  rotate_left
  · have hout : ∃ h' y, (some (0, jup h r 3 (j : Int)) : Option (Int × jH)) = some (y, h') ∧ (∀ q, q ≠ r → h' q = h q) ∧ h' r 6 = (s : Int) ∧ h' r 7 = spSer (D s) ∧
      ((y = 0 ∧ (len ≤ j ∨ spGo blk len (D s) j ins pay hd = false) ∧ h' r 3 = (j : Int)) ∨
       (y = 1 ∧ j < len ∧ spGo blk len (D s) j ins pay hd = true ∧ h' r 0 = (j : Int) ∧ h' r 1 = D s (j + 1) ∧ h' r 2 = D s (j + 2) ∧
         CR h' r s (j + 4 + spN (D s) j) (spSer (D s)) (!(spLast (D s) j)) (if spLast (D s) j = true then 0 else pay + spN (D s) j) (if spLast (D s) j = true then 0 else spH (D s) j pay hd) ∧
         (spLast (D s) j = true → h' r 4 = spH (D s) j pay hd / 65536 ∧ h' r 5 = spH (D s) j pay hd % 65536))) := by
      refine ⟨_, 0, rfl, fun q hq => jup_ne hq, ?_, ?_, Or.inl ⟨rfl, ?_, ju_eq⟩⟩
      · rw [ju_ne (by decide), r6]
      · rw [ju_ne (by decide), r7]
      · right
        unfold spGo
        simp [a2]
    by_cases a3 : 1 ≤ D s (j + 1) ∧ D s (j + 1) ≤ 4
    · rw [if_neg (by rw [if_pos ⟨a1, a3⟩]; decide)]
      have e : FR_canBe (jup h r 3 (j : Int)) r (D s (j + 1)) = some 0 := by
        unfold FR_canBe FR_canBe_p10 FR_canBe_p15
        rw [ju_ne (by decide), r9]
        unfold spCan at a2
        cases ins <;> simp at a2 ⊢ <;> (repeat' split) <;> simp_all <;> omega
      rw [e]
      exact hout
    · rw [if_pos (by rw [if_neg (fun e => a3 e.2)])]
      exact hout
  have a3 : 1 ≤ D s (j + 1) ∧ D s (j + 1) ≤ 4 := by
    unfold spCan at a2
    cases ins <;> simp at a2 <;> omega
  rw [if_neg (by rw [if_pos ⟨a1, a3⟩]; decide)]
  have e : FR_canBe (jup h r 3 (j : Int)) r (D s (j + 1)) = some 1 := by
    unfold FR_canBe FR_canBe_p10 FR_canBe_p15
    rw [ju_ne (by decide), r9]
    unfold spCan at a2
    cases ins <;> simp at a2 ⊢ <;> (repeat' split) <;> simp_all <;> omega
  rw [e]
  simp only [Option.bind_some]
  rw [if_neg (by decide)]
  -- the frame's kind, length, first bytes
  have hpp : (if (if ins = true then (1 : Int) else 0) = 0 then FR_advance_p69 (jup h r 3 (j : Int)) r o 0 else FR_advance_p69 (jup h r 3 (j : Int)) r o (h r 8)) = FR_advance_p69 (jup h r 3 (j : Int)) r o (pay : Int) := by
    cases hi : ins with
    | true => simp [r8 hi]
    | false => simp [r8' hi]
  rw [hpp]
  unfold FR_advance_p69
  simp only [ju_eq, ju_ne (show (6 : Nat) ≠ 3 by decide), r6]
  rw [pw (x := (j : Int) + 1) (by omega) (by omega), show (j : Int) + 1 = ((j + 1 : Nat) : Int) by omega, c_oct hd0 hc1 hs (by omega)]
  simp only [Option.bind_some, ju_ne (show (6 : Nat) ≠ 1 by decide), ju_ne (show (3 : Nat) ≠ 1 by decide), ju_eq, ju_ne (show (6 : Nat) ≠ 3 by decide), r6]
  have hc2 : CD (jup (jup h r 3 (j : Int)) r 1 (D s (j + 1))) o ns blk len D C := hc1.fr (jup_ne (fun e => hr.1 e.symm)) (jup_ne (fun e => hr.2.1 e.symm)) (jup_ne (fun e => hr.2.2 e.symm))
  rw [pw (x := (j : Int) + 2) (by omega) (by omega), show (j : Int) + 2 = ((j + 2 : Nat) : Int) by omega, c_oct hd0 hc2 hs (by omega)]
  simp only [Option.bind_some]
  have hc3 : CD (jup (jup (jup h r 3 (j : Int)) r 1 (D s (j + 1))) r 2 (D s (j + 2))) o ns blk len D C := hc2.fr (jup_ne (fun e => hr.1 e.symm)) (jup_ne (fun e => hr.2.1 e.symm)) (jup_ne (fun e => hr.2.2 e.symm))
  obtain ⟨h4, e4, e5, e6⟩ := c_adv_L (C := C) (r := r) hd0 hy hs hr (j := j) (pay := pay) (n := spN (D s) j) f3 (min (spN (D s) j) (3 - pay)) 0 _ hd hc3 (by simp [ju_if, r6]) (by simp [ju_if]) (by simp [ju_if, f5]) (by omega) (by omega) (by omega) (by simpa [ju_if] using rk)
  rw [show (0 : Int) = ((0 : Nat) : Int) from rfl, e4]
  rw [Nat.add_zero] at e6
  have g : ∀ k, k ≠ 4 ∧ k ≠ 5 → h4 r k = (jup (jup (jup h r 3 (j : Int)) r 1 (D s (j + 1))) r 2 (D s (j + 2))) r k := fun k hk => e5 r k (Or.inr hk)
  have g1 : h4 r 1 = D s (j + 1) := by rw [g 1 (by decide)]; simp [ju_if]
  have g2 : h4 r 2 = (spN (D s) j : Int) := by rw [g 2 (by decide)]; simp [ju_if, f5]
  have g3 : h4 r 3 = (j : Int) := by rw [g 3 (by decide)]; simp [ju_if]
  have g6 : h4 r 6 = (s : Int) := by rw [g 6 (by decide)]; simp [ju_if, r6]
  have g7 : h4 r 7 = spSer (D s) := by rw [g 7 (by decide)]; simp [ju_if, r7]
  have gq : ∀ q, q ≠ r → h4 q = h q := fun q hq => funext fun k => by
    rw [e5 q k (Or.inl hq), jup_ne hq, jup_ne hq, jup_ne hq]
  change spKV (pay + spN (D s) j) (spH (D s) j pay hd) (h4 r 4) (h4 r 5) at e6
  unfold FR_advance_p152
  rw [FR_isLast_eq, g1, g2]
  obtain ⟨h5, w1, w2, w3, w4, w5, w6, w7, w8, w9, w10, w11, w12⟩ := c_p174 (r := r) (pay := pay) g2 g3 (by omega) (by omega) (by omega)
  rw [g1] at w12
  by_cases a4 : D s (j + 1) = 1 ∨ D s (j + 1) = 4
  rotate_left
  · rw [if_neg a4]
    simp only [Option.bind_some, if_true]
    have hl0 : spLast (D s) j = false := by unfold spLast; simp; omega
    rw [w1]
    refine ⟨h5, 1, rfl, fun q hq => (w2 q hq).trans (gq q hq), by rw [w9, g6], by rw [w10, g7], Or.inr ⟨rfl, f1, ?_, w3, by rw [w4, g1], by rw [w5, f5], ?_, by rw [hl0]; intro hq; cases hq⟩⟩
    · unfold spGo
      rw [a1, a2, hl0]
      rfl
    · rw [hl0]
      refine ⟨w6, by rw [w9, g6], by rw [w10, g7], by rw [w12, if_neg a4]; rfl, fun _ => w11, fun hq => (by cases hq), ?_⟩
      rw [w7, w8]
      exact e6
  · rw [if_pos a4]
    simp only [Option.bind_some, if_neg (show ¬ (1 : Int) = 0 by decide)]
    have hl1 : spLast (D s) j = true := by unfold spLast; simpa using a4
    rw [pw (by omega) (by omega)]
    have hrs : FR_recordStands h4 r ((pay : Int) + (spN (D s) j : Int)) = some (if spOk (pay + spN (D s) j) (spH (D s) j pay hd) = true then 1 else 0) := by
      unfold FR_recordStands FR_recordStands_p28 spOk
      by_cases b1 : pay + spN (D s) j < 3
      · rw [if_pos (by omega), if_neg (by simp; omega)]
      · have e7 := e6.2.2.2.2 (by omega)
        rw [if_neg (by omega), e7.2.1, e7.2.2]
        by_cases b2 : spH (D s) j pay hd / 65536 < 16
        · by_cases b3 : spH (D s) j pay hd % 65536 < 1000
          · rw [if_pos b2, if_pos b3, if_pos]; simp [b2, b3]; omega
          · rw [if_pos b2, if_neg b3, if_neg]; simp [b3]
        · rw [if_neg b2, if_neg]; simp [b2]
    rw [hrs]
    simp only [Option.bind_some]
    by_cases a5 : spOk (pay + spN (D s) j) (spH (D s) j pay hd) = true
    · rw [if_pos a5, if_neg (by decide), w1]
      have e7 : 3 ≤ pay + spN (D s) j := by unfold spOk at a5; simp at a5; omega
      have e8 := e6.2.2.2.2 e7
      refine ⟨h5, 1, rfl, fun q hq => (w2 q hq).trans (gq q hq), by rw [w9, g6], by rw [w10, g7], Or.inr ⟨rfl, f1, ?_, w3, by rw [w4, g1], by rw [w5, f5], ?_, fun _ => ⟨by rw [w7]; exact e8.2.1, by rw [w8]; exact e8.2.2⟩⟩⟩
      · unfold spGo
        rw [a1, a2, hl1, a5]
        rfl
      · rw [hl1]
        refine ⟨w6, by rw [w9, g6], by rw [w10, g7], by rw [w12, if_pos a4]; rfl, fun hq => (by cases hq), fun _ => rfl, ?_⟩
        show spKV 0 0 _ _
        exact ⟨Int.le_refl _, fun _ => rfl, fun e => absurd e (by decide), fun e => absurd e (by decide), fun e => absurd e (by decide)⟩
    · rw [if_neg a5, if_pos rfl]
      refine ⟨h4, 0, rfl, gq, g6, g7, Or.inl ⟨rfl, Or.inr ?_, g3⟩⟩
      unfold spGo
      rw [hl1]
      simp [a5]
end CFR
