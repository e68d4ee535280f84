/-! SPEC 5: formulas: codes (the reference's), and what they tell -/
def spClip (v : Int) : Int := if 1000000 < v then 1000000 else if v < -1000000 then -1000000 else v
def spFlo (a b : Int) : Int := if b = 0 then 0 else if a.tmod b ≠ 0 ∧ ¬ (a < 0 ↔ b < 0) then a.tdiv b - 1 else a.tdiv b
def spOp (c a b : Int) : Int :=
  if c = 1 then spClip (a + b) else if c = 2 then spClip (a - b) else if c = 3 then spClip (a * b) else if c = 4 then spFlo a b
  else if c = 5 then min a b else if c = 6 then max a b else if c = 7 then (if a < b then 1 else 0) else if c = 8 then (if b < a then 1 else 0)
  else if c = 9 then (if a = b then 1 else 0) else if c = 10 then a * b else (if 0 < a + b then 1 else 0)
/-- what parts and what those of a number tell -/
abbrev spEnv : Type := (Nat → Int) × (Int → Int) × (Int → Int)
def spStp (e : spEnv) (c : Int) (st : List Int) : List Int :=
  if 1000 ≤ c then (c - 1000) :: st
  else if 60 ≤ c then (match st with | x :: r => (if c = 60 then e.2.1 x else e.2.2 x) :: r | [] => [])
  else if 40 ≤ c then e.1 (c - 40).toNat :: st
  else if c = 13 then 1 :: st
  else if c = 12 then (match st with | x :: r => (1 - x) :: r | [] => [])
  else (match st with | b :: a :: r => spOp c a b :: r | _ => [])
def spRun (e : spEnv) : List Int → List Int → List Int
  | [], st => st
  | c :: l, st => spRun e l (spStp e c st)
/-- which codes may follow which: sums (false) and tests (true) that wait -/
def spTy (al : Int → Bool) (c : Int) (t : List Bool) : Option (List Bool) :=
  if 1000 ≤ c then (if c < 11000 ∧ t.length < 64 then some (false :: t) else none)
  else if 60 ≤ c then (if c ≤ 61 ∧ al c = true then (match t with | false :: r => some (false :: r) | _ => none) else none)
  else if 40 ≤ c then (if c ≤ 48 ∧ al c = true ∧ t.length < 64 then some (false :: t) else none)
  else if c = 13 then (if t.length < 64 then some (true :: t) else none)
  else if c = 12 then (match t with | true :: r => some (true :: r) | _ => none)
  else if 1 ≤ c ∧ c ≤ 6 then (match t with | false :: false :: r => some (false :: r) | _ => none)
  else if 7 ≤ c ∧ c ≤ 9 then (match t with | false :: false :: r => some (true :: r) | _ => none)
  else if c = 10 ∨ c = 11 then (match t with | true :: true :: r => some (true :: r) | _ => none)
  else none
def spTys (al : Int → Bool) : List Int → List Bool → Option (List Bool)
  | [], t => some t
  | c :: l, t => match spTy al c t with
    | none => none
    | some t' => spTys al l t'
def spVal (b : Bool) (x : Int) : Prop := if b = true then x = 0 ∨ x = 1 else -1000000 ≤ x ∧ x ≤ 1000000
def spVals : List Bool → List Int → Prop
  | [], [] => True
  | b :: t, x :: s => spVal b x ∧ spVals t s
  | _, _ => False
def spEok (e : spEnv) : Prop := (∀ k, -1000000 ≤ e.1 k ∧ e.1 k ≤ 1000000) ∧ (∀ x, -1000000 ≤ e.2.1 x ∧ e.2.1 x ≤ 1000000) ∧ ∀ x, -1000000 ≤ e.2.2 x ∧ e.2.2 x ≤ 1000000
/-- the class's code for a code of the reference -/
def spTr (c : Int) : Int :=
  if 1000 ≤ c then c - 1000 else if c = 60 then 20001 else if c = 61 then 20002 else if 40 ≤ c then c - 40 + 10000
  else if c = 13 then 1 else if c = 12 then 20000 else if c = 1 then 30005 else if c = 2 then 30006 else if c = 3 then 30007 else if c = 4 then 30008
  else if c = 5 then 30009 else if c = 6 then 30010 else if c = 7 then 30002 else if c = 8 then 30003 else if c = 9 then 30004 else if c = 10 then 30001 else 30000
theorem spClip_in (v : Int) : -1000000 ≤ spClip v ∧ spClip v ≤ 1000000 := by unfold spClip; split; omega; split <;> omega
theorem spFlo_in {a b : Int} (h1 : -1000000 ≤ a) (h2 : a ≤ 1000000) : -1000000 ≤ spFlo a b ∧ spFlo a b ≤ 1000000 := by
  unfold spFlo
  by_cases hb : b = 0
  · rw [if_pos hb]; omega
  · rw [if_neg hb]
    have e1 : (a.tdiv b).natAbs = a.natAbs / b.natAbs := Int.natAbs_tdiv a b
    have e2 : a.natAbs / b.natAbs ≤ a.natAbs := Nat.div_le_self _ _
    by_cases c : a.tmod b ≠ 0 ∧ ¬ (a < 0 ↔ b < 0)
    · rw [if_pos c]
      have e4 : a.natAbs / b.natAbs < a.natAbs := by
        by_cases d : b.natAbs = 1
        · exfalso
          apply c.1
          have : b = 1 ∨ b = -1 := by omega
          rcases this with h | h <;> subst h <;> simp
        · exact Nat.div_lt_self (by
            have : a ≠ 0 := by intro h; subst h; exact c.1 (by simp)
            omega) (by omega)
      generalize a.natAbs / b.natAbs = q at e1 e2 e4
      omega
    · rw [if_neg c]
      generalize a.natAbs / b.natAbs = q at e1 e2
      omega
theorem spStp_ok {al : Int → Bool} {e : spEnv} {c : Int} {t t' : List Bool} {st : List Int} (h : spTy al c t = some t') (hv : spVals t st) (he : spEok e) : spVals t' (spStp e c st) := by
  unfold spTy at h
  unfold spStp
  by_cases c1 : 1000 ≤ c
  · rw [if_pos c1] at h ⊢
    split at h
    · rename_i c2
      rw [← Option.some.inj h]
      exact ⟨by unfold spVal; simp; omega, hv⟩
    · cases h
  rw [if_neg c1] at h ⊢
  by_cases c2 : 60 ≤ c
  · rw [if_pos c2] at h ⊢
    split at h
    · split at h
      · rw [← Option.some.inj h]
        cases st with
        | nil => exact hv.elim
        | cons x r =>
          refine ⟨?_, hv.2⟩
          unfold spVal
          rw [if_neg (by decide)]
          split
          · exact he.2.1 x
          · exact he.2.2 x
      · cases h
    · cases h
  rw [if_neg c2] at h ⊢
  by_cases c3 : 40 ≤ c
  · rw [if_pos c3] at h ⊢
    split at h
    · rw [← Option.some.inj h]
      refine ⟨?_, hv⟩
      unfold spVal
      rw [if_neg (by decide)]
      exact he.1 _
    · cases h
  rw [if_neg c3] at h ⊢
  by_cases c4 : c = 13
  · rw [if_pos c4] at h ⊢
    split at h
    · rw [← Option.some.inj h]
      exact ⟨Or.inr rfl, hv⟩
    · cases h
  rw [if_neg c4] at h ⊢
  by_cases c5 : c = 12
  · rw [if_pos c5] at h ⊢
    split at h
    · rw [← Option.some.inj h]
      cases st with
      | nil => exact hv.elim
      | cons x r =>
        refine ⟨?_, hv.2⟩
        have := hv.1
        unfold spVal at this ⊢
        rw [if_pos rfl] at this ⊢
        omega
    · cases h
  rw [if_neg c5] at h ⊢
  have two : ∀ {b1 b2 : Bool} {r : List Bool}, spVals (b1 :: b2 :: r) st → ∃ b a s, st = b :: a :: s ∧ spVal b1 b ∧ spVal b2 a ∧ spVals r s := by
    intro b1 b2 r hv
    match st, hv with
    | [], hv => exact hv.elim
    | [x], hv => exact hv.2.elim
    | b :: a :: s, hv => exact ⟨b, a, s, rfl, hv.1, hv.2.1, hv.2.2⟩
  by_cases c6 : 1 ≤ c ∧ c ≤ 6
  · rw [if_pos c6] at h
    split at h
    · rw [← Option.some.inj h]
      obtain ⟨b, a, s, rfl, v1, v2, v3⟩ := two hv
      refine ⟨?_, v3⟩
      unfold spVal at v1 v2 ⊢
      rw [if_neg (by decide)] at v1 v2 ⊢
      unfold spOp
      have := spClip_in (a + b)
      have := spClip_in (a - b)
      have := spClip_in (a * b)
      have := spFlo_in (b := b) v2.1 v2.2
      repeat' split
      all_goals omega
    · cases h
  rw [if_neg c6] at h
  by_cases c7 : 7 ≤ c ∧ c ≤ 9
  · rw [if_pos c7] at h
    split at h
    · rw [← Option.some.inj h]
      obtain ⟨b, a, s, rfl, v1, v2, v3⟩ := two hv
      refine ⟨?_, v3⟩
      unfold spVal
      rw [if_pos rfl]
      unfold spOp
      rw [if_neg (by omega), if_neg (by omega), if_neg (by omega), if_neg (by omega), if_neg (by omega), if_neg (by omega)]
      repeat' split
      all_goals omega
    · cases h
  rw [if_neg c7] at h
  by_cases c8 : c = 10 ∨ c = 11
  · rw [if_pos c8] at h
    split at h
    · rw [← Option.some.inj h]
      obtain ⟨b, a, s, rfl, v1, v2, v3⟩ := two hv
      refine ⟨?_, v3⟩
      unfold spVal at v1 v2 ⊢
      rw [if_pos rfl] at v1 v2 ⊢
      unfold spOp
      rw [if_neg (by omega), if_neg (by omega), if_neg (by omega), if_neg (by omega), if_neg (by omega), if_neg (by omega), if_neg (by omega), if_neg (by omega), if_neg (by omega)]
      rcases v1 with h | h <;> rcases v2 with h' | h' <;> subst h <;> subst h' <;> rcases c8 with h | h <;> subst h <;> decide
    · cases h
  · rw [if_neg c8] at h; cases h
/-- a stack of cells, its top last -/
def CSt (f : Nat → Int) : List Int → Prop
  | [] => True
  | x :: r => f r.length = x ∧ CSt f r
theorem CSt.up {f g : Nat → Int} : ∀ {s : List Int}, CSt f s → (∀ i, i < s.length → g i = f i) → CSt g s := by
  intro s
  induction s with
  | nil => intro _ _; trivial
  | cons x r ih =>
    intro h hg
    exact ⟨by rw [hg _ (by simp)]; exact h.1, ih h.2 (fun i hi => hg i (by rw [List.length_cons]; omega))⟩
theorem spVals_len : ∀ {t : List Bool} {s : List Int}, spVals t s → t.length = s.length := by
  intro t
  induction t with
  | nil => intro s h; cases s with
    | nil => rfl
    | cons x r => exact h.elim
  | cons b t ih => intro s h; cases s with
    | nil => exact h.elim
    | cons x r => rw [List.length_cons, List.length_cons, ih h.2]
theorem jxor_neg {a b : Int} (ha : jI32 a) (hb : jI32 b) : jxor a b < 0 ↔ ¬ (a < 0 ↔ b < 0) := by
  unfold jxor
  have e : (Int32.ofInt a ^^^ Int32.ofInt b).toInt = BitVec.toInt (BitVec.ofInt 32 a ^^^ BitVec.ofInt 32 b) := rfl
  have m : ∀ x : BitVec 32, x.toInt < 0 ↔ x.msb = true := fun x => by rw [BitVec.msb_eq_toInt]; simp
  have ta : (BitVec.ofInt 32 a).toInt = a := by rw [BitVec.toInt_ofInt, Int.bmod_eq_of_le (by unfold jI32 at ha; omega) (by unfold jI32 at ha; omega)]
  have tb : (BitVec.ofInt 32 b).toInt = b := by rw [BitVec.toInt_ofInt, Int.bmod_eq_of_le (by unfold jI32 at hb; omega) (by unfold jI32 at hb; omega)]
  rw [e, m, BitVec.msb_xor]
  have ma := m (BitVec.ofInt 32 a)
  have mb := m (BitVec.ofInt 32 b)
  rw [ta] at ma
  rw [tb] at mb
  rw [ma, mb]
  cases (BitVec.ofInt 32 a).msb <;> cases (BitVec.ofInt 32 b).msb <;> simp
theorem g_floor {a b : Int} (ha : -1000000 ≤ a ∧ a ≤ 1000000) (hb : -1000000 ≤ b ∧ b ≤ 1000000) (h0 : b ≠ 0) : JMath_floorDiv a b = some (spFlo a b) := by
  have e1 : (a.tdiv b).natAbs = a.natAbs / b.natAbs := Int.natAbs_tdiv a b
  have e2 : a.natAbs / b.natAbs ≤ a.natAbs := Nat.div_le_self _ _
  have e3 := Int.mul_tdiv_add_tmod a b
  generalize a.natAbs / b.natAbs = q at e1 e2
  have hq : wr (a.tdiv b) = a.tdiv b := pw (by omega) (by omega)
  have hm : wr (a.tdiv b * b) = a.tdiv b * b := by
    rw [Int.mul_comm]
    have h5 : b * a.tdiv b = a - a.tmod b := by omega
    have h6 : (a.tmod b).natAbs = a.natAbs % b.natAbs := Int.natAbs_tmod a b
    have h7 : a.natAbs % b.natAbs ≤ a.natAbs := Nat.mod_le _ _
    generalize a.natAbs % b.natAbs = q2 at h6 h7
    rw [h5, pw (by omega) (by omega)]
  unfold JMath_floorDiv spFlo
  rw [if_pos h0, if_neg h0, hq, hm]
  by_cases c : jxor a b < 0
  · rw [if_pos c]
    have c2 := (jxor_neg (by unfold jI32; omega) (by unfold jI32; omega)).mp c
    by_cases d : a.tdiv b * b = a
    · rw [if_pos d, if_neg]
      intro h
      apply h.1
      rw [Int.mul_comm] at d
      omega
    · rw [if_neg d, if_pos, pw (by omega) (by omega)]
      refine ⟨fun h => d ?_, c2⟩
      rw [Int.mul_comm]
      omega
  · rw [if_neg c, if_neg]
    intro h
    exact c ((jxor_neg (by unfold jI32; omega) (by unfold jI32; omega)).mpr h.2)
theorem g_held {fo : Nat} {v : Int} : Fo_held fo v = some (spClip v) := by
  unfold Fo_held spClip
  rw [pw (by omega) (by omega)]
  congr 1
  split
  · omega
  · split <;> omega
theorem mul_bd {a b : Int} (ha : -1000000 ≤ a ∧ a ≤ 1000000) (hb : -1000000 ≤ b ∧ b ≤ 1000000) : -1000000000000 ≤ a * b ∧ a * b ≤ 1000000000000 := by
  have h := Int.natAbs_mul a b
  have h2 : a.natAbs * b.natAbs ≤ 1000000 * 1000000 := Nat.mul_le_mul (by omega) (by omega)
  omega
theorem g_two {fo : Nat} {c a b : Int} (hc : 1 ≤ c ∧ c ≤ 9) (ha : -1000000 ≤ a ∧ a ≤ 1000000) (hb : -1000000 ≤ b ∧ b ≤ 1000000) : Fo_ofTwo fo (spTr c) a b = some (spOp c a b) := by
  have hm := mul_bd ha hb
  have h : c = 1 ∨ c = 2 ∨ c = 3 ∨ c = 4 ∨ c = 5 ∨ c = 6 ∨ c = 7 ∨ c = 8 ∨ c = 9 := by omega
  unfold Fo_ofTwo spOp
  rcases h with h | h | h | h | h | h | h | h | h <;> subst h
  · rw [show spTr 1 = 30005 by simp [spTr]]
    simp only [Int.reduceEq, ↓reduceIte]
    rw [pv (by omega) (by omega), g_held]; rfl
  · rw [show spTr 2 = 30006 by simp [spTr]]
    simp only [Int.reduceEq, ↓reduceIte]
    rw [pv (by omega) (by omega), g_held]; rfl
  · rw [show spTr 3 = 30007 by simp [spTr]]
    simp only [Int.reduceEq, ↓reduceIte]
    rw [pv (by omega) (by omega), g_held]; rfl
  · rw [show spTr 4 = 30008 by simp [spTr]]
    simp only [Int.reduceEq, ↓reduceIte]
    by_cases h0 : b = 0
    · rw [if_pos h0]; unfold spFlo; rw [if_pos h0]
    · rw [if_neg h0, g_floor ha hb h0]; rfl
  · rw [show spTr 5 = 30009 by simp [spTr]]
    simp only [Int.reduceEq, ↓reduceIte]
  · rw [show spTr 6 = 30010 by simp [spTr]]
    simp only [Int.reduceEq, ↓reduceIte]
  · rw [show spTr 7 = 30002 by simp [spTr]]
    simp only [Int.reduceEq, ↓reduceIte]
    split <;> rfl
  · rw [show spTr 8 = 30003 by simp [spTr]]
    simp only [Int.reduceEq, ↓reduceIte]
    split <;> rfl
  · rw [show spTr 9 = 30004 by simp [spTr]]
    simp only [Int.reduceEq, ↓reduceIte]
    split <;> rfl
theorem g_two2 {fo : Nat} {c a b : Int} (hc : c = 10 ∨ c = 11) (ha : a = 0 ∨ a = 1) (hb : b = 0 ∨ b = 1) : Fo_ofTwo fo (spTr c) a b = some (spOp c a b) := by
  have e00 : jor 0 0 = 0 ∧ jor 0 1 = 1 ∧ jor 1 0 = 1 ∧ jor 1 1 = 1 ∧ jand 0 0 = 0 ∧ jand 0 1 = 0 ∧ jand 1 0 = 0 ∧ jand 1 1 = 1 := by decide +kernel
  obtain ⟨o0, o1, o2, o3, a0, a1, a2, a3⟩ := e00
  unfold Fo_ofTwo spOp
  rcases hc with h | h
  · subst h
    rw [show spTr 10 = 30001 by simp [spTr]]
    simp only [Int.reduceEq, ↓reduceIte]
    rcases ha with h1 | h1 <;> rcases hb with h2 | h2 <;> subst h1 <;> subst h2
    · rw [a0]; rfl
    · rw [a1]; rfl
    · rw [a2]; rfl
    · rw [a3]; rfl
  · subst h
    rw [show spTr 11 = 30000 by simp [spTr]]
    simp only [Int.reduceEq, ↓reduceIte]
    rcases ha with h1 | h1 <;> rcases hb with h2 | h2 <;> subst h1 <;> subst h2
    · rw [o0]; rfl
    · rw [o1]; rfl
    · rw [o2]; rfl
    · rw [o3]; rfl
