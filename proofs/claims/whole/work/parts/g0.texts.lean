/-! SPEC 9: texts: bytes, words, numbers, what is read of a formula -/
def spTx (tp : List Int) (k : Nat) : Int := match tp[k]? with
  | some v => v
  | none => -1
def spBl (c : Int) : Bool := decide (c = 10) || decide (c = 32)
def spPkN (tp : List Int) : Nat → Nat → Nat
  | 0, k => k
  | f + 1, k => if spBl (spTx tp k) = true then spPkN tp f (k + 1) else k
/-- behind the blanks -/
def spPk (tp : List Int) (k : Nat) : Nat := spPkN tp (tp.length - k) k
def spLt (c : Int) : Bool := decide (97 ≤ c) && decide (c ≤ 122)
def spDg (c : Int) : Bool := decide (48 ≤ c) && decide (c ≤ 57)
def spLeN (tp : List Int) : Nat → Nat → Nat
  | 0, k => k
  | f + 1, k => if spLt (spTx tp k) = true then spLeN tp f (k + 1) else k
/-- where letters end -/
def spLe (tp : List Int) (k : Nat) : Nat := spLeN tp (tp.length - k) k
/-- whether a word stands at k -/
def spWd (tp : List Int) (g : Int) (k : Nat) (w : List Int) : Bool := decide ((k : Int) ≠ g) && decide (spLe tp k = k + w.length) && decide ((tp.drop k).take w.length = w)
def spNmN (tp : List Int) : Nat → Nat → Int → Nat × Int × Bool
  | 0, k, v => (k, v, spDg (spTx tp k))
  | f + 1, k, v => if spDg (spTx tp k) = true then spNmN tp f (k + 1) (10 * v + spTx tp k - 48) else (k, v, false)
abbrev spE (α : Type) : Type := (Int × Nat) ⊕ α
/-- a number: its value, where it ends -/
def spNum (tp : List Int) (g : Int) (k : Nat) (lo hi : Int) : spE (Int × Nat) :=
  if spDg (spTx tp k) = false ∨ (k : Int) = g then .inl (1, k)
  else if (spNmN tp 4 k 0).2.2 = true then .inl (1, (spNmN tp 4 k 0).1)
  else if (spNmN tp 4 k 0).2.1 < lo ∨ hi < (spNmN tp 4 k 0).2.1 then .inl (2, k)
  else .inr ((spNmN tp 4 k 0).2.1, (spNmN tp 4 k 0).1)
/-- where it stands, where the latest word or number ended, the codes -/
abbrev spR : Type := spE (Nat × Int × List Int)
abbrev spF : Type := Nat → Int → spR
def spW0 : List Int := [116, 105, 99, 107]
def spW1 : List Int := [114, 101, 99, 111, 114, 100, 115]
def spW2 : List Int := [112, 97, 121, 108, 111, 97, 100]
def spW3 : List Int := [97, 103, 101]
def spW4 : List Int := [119, 97, 105, 116, 101, 114, 115]
def spW5 : List Int := [110, 117, 109, 98, 101, 114]
def spW6 : List Int := [115, 101, 114, 105, 97, 108]
def spW7 : List Int := [102, 105, 114, 115, 116]
def spW8 : List Int := [102, 114, 97, 109, 101, 115]
def spW9 : List Int := [111, 99, 116, 101, 116]
def spW10 : List Int := [118, 97, 108, 117, 101]
def spWmin : List Int := [109, 105, 110]
def spWmax : List Int := [109, 97, 120]
def spWnot : List Int := [110, 111, 116]
def spWall : List Int := [97, 108, 108]
def spWand : List Int := [97, 110, 100]
def spWor : List Int := [111, 114]
/-- which word of a part stands here -/
def spWq (tp : List Int) (g : Int) (k : Nat) : Int :=
  if spWd tp g k spW0 = true then 0 else if spWd tp g k spW1 = true then 1 else if spWd tp g k spW2 = true then 2 else if spWd tp g k spW3 = true then 3
  else if spWd tp g k spW4 = true then 4 else if spWd tp g k spW5 = true then 5 else if spWd tp g k spW6 = true then 6 else if spWd tp g k spW7 = true then 7
  else if spWd tp g k spW8 = true then 8 else if spWd tp g k spW9 = true then 9 else if spWd tp g k spW10 = true then 10 else -1
def spAld (md : Nat) (w : Int) : Bool := if md = 0 then decide (w < 5) else if md = 1 then decide (w < 3) else decide (w = 0) || decide (4 < w)
def spSign (tp : List Int) (c : Int) (r : spR) : spR := match r with
  | .inl e => .inl e
  | .inr (k, g, K) => if spTx tp k = c then .inr (spPk tp (k + 1), g, K) else .inl (1, k)
def spEmt (c : List Int) (r : spR) : spR := match r with
  | .inl e => .inl e
  | .inr (k, g, K) => .inr (k, g, K ++ c)
def spThen (r : spR) (f : Nat → Int → spR) : spR := match r with
  | .inl e => .inl e
  | .inr (k, g, K) => match f k g with
    | .inl e => .inl e
    | .inr (k2, g2, K2) => .inr (k2, g2, K ++ K2)
def spProdL (tp : List Int) (P : spF) : Nat → Nat → Int → spR
  | 0, k, g => .inr (k, g, [])
  | f + 1, k, g => if spTx tp k = 42 ∨ spTx tp k = 47 then spThen (spEmt [if spTx tp k = 42 then 3 else 4] (P (spPk tp (k + 1)) g)) (spProdL tp P f) else .inr (k, g, [])
def spProd (tp : List Int) (P : spF) : spF := fun k g => spThen (P k g) (spProdL tp P 1600)
def spSumL (tp : List Int) (P : spF) : Nat → Nat → Int → spR
  | 0, k, g => .inr (k, g, [])
  | f + 1, k, g => if spTx tp k = 43 ∨ spTx tp k = 45 then spThen (spEmt [if spTx tp k = 43 then 1 else 2] (spProd tp P (spPk tp (k + 1)) g)) (spSumL tp P f) else .inr (k, g, [])
def spSms (tp : List Int) (P : spF) : spF := fun k g => spThen (spProd tp P k g) (spSumL tp P 1600)
/-- a pair in brackets, behind min, max -/
def spPair (tp : List Int) (inner : Option spF) (k : Nat) (g : Int) (c : Int) : spR :=
  if spTx tp k = 40 then (match inner with
    | none => .inl (4, k)
    | some P => spEmt [c] (spSign tp 41 (spThen (spSign tp 44 (spSms tp P (spPk tp (k + 1)) g)) (spSms tp P))))
  else .inl (1, k)
def spPartS (tp : List Int) (md : Nat) (inner : Option spF) : spF := fun k g =>
  if spDg (spTx tp k) = true then (match spNum tp g k 0 9999 with
    | .inl e => .inl e
    | .inr (v, e) => .inr (spPk tp e, (e : Int), [1000 + v]))
  else if spTx tp k = 40 then (match inner with
    | none => .inl (4, k)
    | some P => spSign tp 41 (spSms tp P (spPk tp (k + 1)) g))
  else if spWd tp g k spWmin = true then spPair tp inner (spPk tp (k + 3)) ((k + 3 : Nat) : Int) 5
  else if spWd tp g k spWmax = true then spPair tp inner (spPk tp (k + 3)) ((k + 3 : Nat) : Int) 6
  else if spWq tp g k = -1 ∨ spAld md (spWq tp g k) = false then .inl (1, k)
  else if spWq tp g k < 9 then .inr (spPk tp (spLe tp k), (spLe tp k : Int), [40 + spWq tp g k])
  else (match inner with
    | none => .inl (4, k)
    | some P => spEmt [60 + (spWq tp g k - 9)] (P (spPk tp (k + 5)) ((k + 5 : Nat) : Int)))
def spPart (tp : List Int) (md : Nat) : Nat → spF
  | 0 => spPartS tp md none
  | r + 1 => spPartS tp md (some (spPart tp md r))
def spBothL (tp : List Int) (F : spF) : Nat → Nat → Int → spR
  | 0, k, g => .inr (k, g, [])
  | f + 1, k, g => if spWd tp g k spWand = true then spThen (spEmt [10] (F (spPk tp (k + 3)) ((k + 3 : Nat) : Int))) (spBothL tp F f) else .inr (k, g, [])
def spBoth (tp : List Int) (F : spF) : spF := fun k g => spThen (F k g) (spBothL tp F 1600)
def spTestL (tp : List Int) (F : spF) : Nat → Nat → Int → spR
  | 0, k, g => .inr (k, g, [])
  | f + 1, k, g => if spWd tp g k spWor = true then spThen (spEmt [11] (spBoth tp F (spPk tp (k + 2)) ((k + 2 : Nat) : Int))) (spTestL tp F f) else .inr (k, g, [])
def spTest (tp : List Int) (F : spF) : spF := fun k g => spThen (spBoth tp F k g) (spTestL tp F 1600)
/-- a sum, a sign, a sum -/
def spCmp (tp : List Int) (P : spF) : spF := fun k g => match spSms tp P k g with
  | .inl e => .inl e
  | .inr (k2, g2, K) => if spTx tp k2 = 60 ∨ spTx tp k2 = 62 ∨ spTx tp k2 = 61 then spThen (.inr (k2, g2, K)) (fun k2 g2 => spEmt [if spTx tp k2 = 60 then 7 else if spTx tp k2 = 62 then 8 else 9] (spSms tp P (spPk tp (k2 + 1)) g2)) else .inl (1, k2)
def spFactS (tp : List Int) (P : spF) (inner : Option spF) : spF := fun k g =>
  if spWd tp g k spWnot = true then (match inner with
    | none => .inl (4, k)
    | some F => spEmt [12] (F (spPk tp (k + 3)) ((k + 3 : Nat) : Int)))
  else if spTx tp k = 91 then (match inner with
    | none => .inl (4, k)
    | some F => spSign tp 93 (spTest tp F (spPk tp (k + 1)) g))
  else if spWd tp g k spWall = true then .inr (spPk tp (k + 3), ((k + 3 : Nat) : Int), [13])
  else spCmp tp P k g
def spFact (tp : List Int) (md : Nat) : Nat → spF
  | 0 => spFactS tp (spPart tp md 0) none
  | r + 1 => spFactS tp (spPart tp md (r + 1)) (some (spFact tp md r))
/-! positions -/
theorem spTx_at {tp : List Int} {k : Nat} (h : k < tp.length) : spTx tp k = tp[k] := by unfold spTx; rw [List.getElem?_eq_getElem h]
theorem spTx_no {tp : List Int} {k : Nat} (h : tp.length ≤ k) : spTx tp k = -1 := by unfold spTx; rw [List.getElem?_eq_none h]
theorem spTx_lt {tp : List Int} {k : Nat} (h : spTx tp k ≠ -1) : k < tp.length := by
  rcases Nat.lt_or_ge k tp.length with a | a
  · exact a
  · exact absurd (spTx_no a) h
theorem spPkN_in {tp : List Int} : ∀ f k, k ≤ spPkN tp f k ∧ spPkN tp f k ≤ k + f := by
  intro f
  induction f with
  | zero => intro k; exact ⟨Nat.le_refl _, Nat.le_refl _⟩
  | succ f ih =>
    intro k
    unfold spPkN
    have := ih (k + 1)
    split <;> omega
theorem spPk_in {tp : List Int} (k : Nat) : k ≤ spPk tp k ∧ (k ≤ tp.length → spPk tp k ≤ tp.length) := by
  have := spPkN_in (tp := tp) (tp.length - k) k
  unfold spPk
  omega
theorem spPkN_stop {tp : List Int} : ∀ f k, tp.length ≤ k + f → spBl (spTx tp (spPkN tp f k)) = false := by
  intro f
  induction f with
  | zero => intro k h; show spBl (spTx tp k) = false; rw [spTx_no (by omega)]; rfl
  | succ f ih =>
    intro k h
    unfold spPkN
    by_cases a : spBl (spTx tp k) = true
    · rw [if_pos a]; exact ih (k + 1) (by omega)
    · rw [if_neg a]; exact Bool.eq_false_iff.mpr a
theorem spPk_stop {tp : List Int} (k : Nat) : spBl (spTx tp (spPk tp k)) = false := spPkN_stop _ _ (by omega)
theorem spPkN_id {tp : List Int} {k : Nat} (h : spBl (spTx tp k) = false) : ∀ f, spPkN tp f k = k := by
  intro f
  cases f with
  | zero => rfl
  | succ f => unfold spPkN; rw [h, if_neg (by decide)]
theorem spPk_id {tp : List Int} {k : Nat} (h : spBl (spTx tp k) = false) : spPk tp k = k := spPkN_id h _
theorem spPk_pk {tp : List Int} (k : Nat) : spPk tp (spPk tp k) = spPk tp k := spPk_id (spPk_stop k)
theorem spPk_step {tp : List Int} {k : Nat} (h : spBl (spTx tp k) = true) : spPk tp k = spPk tp (k + 1) := by
  have hk : k < tp.length := spTx_lt (fun e => by rw [e] at h; exact absurd h (by decide))
  unfold spPk
  obtain ⟨f, hf⟩ : ∃ f, tp.length - k = f + 1 := ⟨tp.length - k - 1, by omega⟩
  rw [hf, show tp.length - (k + 1) = f by omega]
  show (if spBl (spTx tp k) = true then spPkN tp f (k + 1) else k) = _
  rw [if_pos h]
theorem spLeN_in {tp : List Int} : ∀ f k, k ≤ spLeN tp f k ∧ spLeN tp f k ≤ k + f := by
  intro f
  induction f with
  | zero => intro k; exact ⟨Nat.le_refl _, Nat.le_refl _⟩
  | succ f ih =>
    intro k
    unfold spLeN
    have := ih (k + 1)
    split <;> omega
theorem spLe_in {tp : List Int} (k : Nat) : k ≤ spLe tp k ∧ (k ≤ tp.length → spLe tp k ≤ tp.length) := by
  have := spLeN_in (tp := tp) (tp.length - k) k
  unfold spLe
  omega
theorem spWd_len {tp : List Int} {g : Int} {k : Nat} {w : List Int} (h : spWd tp g k w = true) : spLe tp k = k + w.length ∧ (k : Int) ≠ g ∧ (tp.drop k).take w.length = w := by
  unfold spWd at h
  rw [Bool.and_eq_true, Bool.and_eq_true] at h
  exact ⟨of_decide_eq_true h.1.2, of_decide_eq_true h.1.1, of_decide_eq_true h.2⟩
theorem spWd_in {tp : List Int} {g : Int} {k : Nat} {w : List Int} (h : spWd tp g k w = true) : k + w.length ≤ tp.length ∨ w = [] := by
  have h3 := (spWd_len h).2.2
  have : ((tp.drop k).take w.length).length = w.length := by rw [h3]
  rw [List.length_take, List.length_drop] at this
  cases w with
  | nil => exact Or.inr rfl
  | cons a w => rw [List.length_cons] at this; exact Or.inl (by rw [List.length_cons]; omega)
theorem spNmN_in {tp : List Int} : ∀ f k v, k ≤ (spNmN tp f k v).1 ∧ (spNmN tp f k v).1 ≤ k + f ∧ (k ≤ tp.length → (spNmN tp f k v).1 ≤ tp.length) := by
  intro f
  induction f with
  | zero => intro k v; exact ⟨Nat.le_refl _, Nat.le_refl _, fun h => h⟩
  | succ f ih =>
    intro k v
    unfold spNmN
    by_cases a : spDg (spTx tp k) = true
    · rw [if_pos a]
      have := ih (k + 1) (10 * v + spTx tp k - 48)
      have hk : k < tp.length := spTx_lt (fun e => by rw [e] at a; exact absurd a (by decide))
      exact ⟨by omega, by omega, fun _ => this.2.2 hk⟩
    · rw [if_neg a]; exact ⟨Nat.le_refl _, by omega, fun h => h⟩
theorem spNum_ok {tp : List Int} {g : Int} {k : Nat} {lo hi v : Int} {e : Nat} (h : spNum tp g k lo hi = .inr (v, e)) : k + 1 ≤ e ∧ e ≤ tp.length ∧ lo ≤ v ∧ v ≤ hi := by
  unfold spNum at h
  split at h
  · cases h
  · rename_i h1
    split at h
    · cases h
    · split at h
      · cases h
      · rename_i h3
        have hd : spDg (spTx tp k) = true := by
          cases c : spDg (spTx tp k)
          · exact absurd (Or.inl c) h1
          · rfl
        have hk : k < tp.length := spTx_lt (fun e => by rw [e] at hd; exact absurd hd (by decide))
        obtain ⟨rfl, rfl⟩ := Prod.mk.inj (Sum.inr.inj h)
        have e1 : spNmN tp 4 k 0 = spNmN tp 3 (k + 1) (10 * 0 + spTx tp k - 48) := by
          conv => lhs; unfold spNmN
          rw [if_pos hd]
        have e2 := spNmN_in (tp := tp) 3 (k + 1) (10 * 0 + spTx tp k - 48)
        rw [← e1] at e2
        exact ⟨e2.1, e2.2.2 hk, by omega, by omega⟩
/-- a reader gets on: positions grow, codes are no more than bytes -/
def spGr (tp : List Int) (P : spF) : Prop := ∀ k g k2 g2 K, P k g = .inr (k2, g2, K) → k + 1 ≤ k2 ∧ k2 ≤ tp.length ∧ spPk tp k2 = k2 ∧ K.length + k ≤ k2
theorem spThen_inr {r : spR} {f : Nat → Int → spR} {k g K} (h : spThen r f = .inr (k, g, K)) : ∃ k1 g1 K1 K2, r = .inr (k1, g1, K1) ∧ f k1 g1 = .inr (k, g, K2) ∧ K = K1 ++ K2 := by
  unfold spThen at h
  split at h
  · cases h
  · rename_i k1 g1 K1
    split at h
    · cases h
    · rename_i k2 g2 K2 hf
      obtain ⟨rfl, h2⟩ := Prod.mk.inj (Sum.inr.inj h)
      obtain ⟨rfl, rfl⟩ := Prod.mk.inj h2
      exact ⟨k1, g1, K1, K2, rfl, hf, rfl⟩
theorem spEmt_inr {c : List Int} {r : spR} {k g K} (h : spEmt c r = .inr (k, g, K)) : ∃ K1, r = .inr (k, g, K1) ∧ K = K1 ++ c := by
  unfold spEmt at h
  split at h
  · cases h
  · obtain ⟨rfl, h2⟩ := Prod.mk.inj (Sum.inr.inj h)
    obtain ⟨rfl, rfl⟩ := Prod.mk.inj h2
    exact ⟨_, rfl, rfl⟩
theorem spSign_inr {tp : List Int} {c : Int} {r : spR} {k g K} (h : spSign tp c r = .inr (k, g, K)) : ∃ k1, r = .inr (k1, g, K) ∧ spTx tp k1 = c ∧ k = spPk tp (k1 + 1) := by
  unfold spSign at h
  split at h
  · cases h
  · split at h
    · rename_i h1
      obtain ⟨rfl, h2⟩ := Prod.mk.inj (Sum.inr.inj h)
      obtain ⟨rfl, rfl⟩ := Prod.mk.inj h2
      exact ⟨_, rfl, h1, rfl⟩
    · cases h
theorem spProdL_gr {tp : List Int} {P : spF} (hP : spGr tp P) : ∀ f k g k2 g2 K, k ≤ tp.length → spPk tp k = k → spProdL tp P f k g = .inr (k2, g2, K) → k ≤ k2 ∧ k2 ≤ tp.length ∧ spPk tp k2 = k2 ∧ K.length + k ≤ k2 := by
  intro f
  induction f with
  | zero =>
    intro k g k2 g2 K hk hpk h
    obtain ⟨rfl, h2⟩ := Prod.mk.inj (Sum.inr.inj h)
    obtain ⟨rfl, rfl⟩ := Prod.mk.inj h2
    exact ⟨Nat.le_refl _, hk, hpk, Nat.le_of_eq (Nat.zero_add _)⟩
  | succ f ih =>
    intro k g k2 g2 K hk hpk h
    unfold spProdL at h
    split at h
    · obtain ⟨k1, g1, K1, K2, e1, e2, e3⟩ := spThen_inr h
      obtain ⟨K3, e4, e5⟩ := spEmt_inr e1
      have h1 := hP _ _ _ _ _ e4
      have h2 := ih _ _ _ _ _ h1.2.1 h1.2.2.1 e2
      have h3 := (spPk_in (tp := tp) (k + 1)).1
      rw [e3, e5, List.length_append, List.length_append]
      exact ⟨by omega, h2.2.1, h2.2.2.1, by show K3.length + 1 + K2.length + k ≤ k2; omega⟩
    · obtain ⟨rfl, h2⟩ := Prod.mk.inj (Sum.inr.inj h)
      obtain ⟨rfl, rfl⟩ := Prod.mk.inj h2
      exact ⟨Nat.le_refl _, hk, hpk, Nat.le_of_eq (Nat.zero_add _)⟩
theorem spThen_gr {tp : List Int} {A : spF} {L : Nat → Int → spR} (hA : spGr tp A) (hL : ∀ k g k2 g2 K, k ≤ tp.length → spPk tp k = k → L k g = .inr (k2, g2, K) → k ≤ k2 ∧ k2 ≤ tp.length ∧ spPk tp k2 = k2 ∧ K.length + k ≤ k2) : spGr tp (fun k g => spThen (A k g) L) := by
  intro k g k2 g2 K h
  obtain ⟨k1, g1, K1, K2, e1, e2, e3⟩ := spThen_inr h
  have h1 := hA _ _ _ _ _ e1
  have h2 := hL _ _ _ _ _ h1.2.1 h1.2.2.1 e2
  rw [e3, List.length_append]
  exact ⟨by omega, h2.2.1, h2.2.2.1, by omega⟩
theorem spProd_gr {tp : List Int} {P : spF} (hP : spGr tp P) : spGr tp (spProd tp P) := spThen_gr hP (spProdL_gr hP 1600)
theorem spSumL_gr {tp : List Int} {P : spF} (hP : spGr tp P) : ∀ f k g k2 g2 K, k ≤ tp.length → spPk tp k = k → spSumL tp P f k g = .inr (k2, g2, K) → k ≤ k2 ∧ k2 ≤ tp.length ∧ spPk tp k2 = k2 ∧ K.length + k ≤ k2 := by
  intro f
  induction f with
  | zero =>
    intro k g k2 g2 K hk hpk h
    obtain ⟨rfl, h2⟩ := Prod.mk.inj (Sum.inr.inj h)
    obtain ⟨rfl, rfl⟩ := Prod.mk.inj h2
    exact ⟨Nat.le_refl _, hk, hpk, Nat.le_of_eq (Nat.zero_add _)⟩
  | succ f ih =>
    intro k g k2 g2 K hk hpk h
    unfold spSumL at h
    split at h
    · obtain ⟨k1, g1, K1, K2, e1, e2, e3⟩ := spThen_inr h
      obtain ⟨K3, e4, e5⟩ := spEmt_inr e1
      have h1 := spProd_gr hP _ _ _ _ _ e4
      have h2 := ih _ _ _ _ _ h1.2.1 h1.2.2.1 e2
      have h3 := (spPk_in (tp := tp) (k + 1)).1
      rw [e3, e5, List.length_append, List.length_append]
      exact ⟨by omega, h2.2.1, h2.2.2.1, by show K3.length + 1 + K2.length + k ≤ k2; omega⟩
    · obtain ⟨rfl, h2⟩ := Prod.mk.inj (Sum.inr.inj h)
      obtain ⟨rfl, rfl⟩ := Prod.mk.inj h2
      exact ⟨Nat.le_refl _, hk, hpk, Nat.le_of_eq (Nat.zero_add _)⟩
theorem spSms_gr {tp : List Int} {P : spF} (hP : spGr tp P) : spGr tp (spSms tp P) := spThen_gr (spProd_gr hP) (spSumL_gr hP 1600)
theorem spBothL_gr {tp : List Int} {F : spF} (hF : spGr tp F) : ∀ f k g k2 g2 K, k ≤ tp.length → spPk tp k = k → spBothL tp F f k g = .inr (k2, g2, K) → k ≤ k2 ∧ k2 ≤ tp.length ∧ spPk tp k2 = k2 ∧ K.length + k ≤ k2 := by
  intro f
  induction f with
  | zero =>
    intro k g k2 g2 K hk hpk h
    obtain ⟨rfl, h2⟩ := Prod.mk.inj (Sum.inr.inj h)
    obtain ⟨rfl, rfl⟩ := Prod.mk.inj h2
    exact ⟨Nat.le_refl _, hk, hpk, Nat.le_of_eq (Nat.zero_add _)⟩
  | succ f ih =>
    intro k g k2 g2 K hk hpk h
    unfold spBothL at h
    split at h
    · obtain ⟨k1, g1, K1, K2, e1, e2, e3⟩ := spThen_inr h
      obtain ⟨K3, e4, e5⟩ := spEmt_inr e1
      have h1 := hF _ _ _ _ _ e4
      have h2 := ih _ _ _ _ _ h1.2.1 h1.2.2.1 e2
      have h3 := (spPk_in (tp := tp) (k + 3)).1
      rw [e3, e5, List.length_append, List.length_append]
      exact ⟨by omega, h2.2.1, h2.2.2.1, by show K3.length + 1 + K2.length + k ≤ k2; omega⟩
    · obtain ⟨rfl, h2⟩ := Prod.mk.inj (Sum.inr.inj h)
      obtain ⟨rfl, rfl⟩ := Prod.mk.inj h2
      exact ⟨Nat.le_refl _, hk, hpk, Nat.le_of_eq (Nat.zero_add _)⟩
theorem spBoth_gr {tp : List Int} {F : spF} (hF : spGr tp F) : spGr tp (spBoth tp F) := spThen_gr hF (spBothL_gr hF 1600)
theorem spTestL_gr {tp : List Int} {F : spF} (hF : spGr tp F) : ∀ f k g k2 g2 K, k ≤ tp.length → spPk tp k = k → spTestL tp F f k g = .inr (k2, g2, K) → k ≤ k2 ∧ k2 ≤ tp.length ∧ spPk tp k2 = k2 ∧ K.length + k ≤ k2 := by
  intro f
  induction f with
  | zero =>
    intro k g k2 g2 K hk hpk h
    obtain ⟨rfl, h2⟩ := Prod.mk.inj (Sum.inr.inj h)
    obtain ⟨rfl, rfl⟩ := Prod.mk.inj h2
    exact ⟨Nat.le_refl _, hk, hpk, Nat.le_of_eq (Nat.zero_add _)⟩
  | succ f ih =>
    intro k g k2 g2 K hk hpk h
    unfold spTestL at h
    split at h
    · obtain ⟨k1, g1, K1, K2, e1, e2, e3⟩ := spThen_inr h
      obtain ⟨K3, e4, e5⟩ := spEmt_inr e1
      have h1 := spBoth_gr hF _ _ _ _ _ e4
      have h2 := ih _ _ _ _ _ h1.2.1 h1.2.2.1 e2
      have h3 := (spPk_in (tp := tp) (k + 2)).1
      rw [e3, e5, List.length_append, List.length_append]
      exact ⟨by omega, h2.2.1, h2.2.2.1, by show K3.length + 1 + K2.length + k ≤ k2; omega⟩
    · obtain ⟨rfl, h2⟩ := Prod.mk.inj (Sum.inr.inj h)
      obtain ⟨rfl, rfl⟩ := Prod.mk.inj h2
      exact ⟨Nat.le_refl _, hk, hpk, Nat.le_of_eq (Nat.zero_add _)⟩
theorem spTest_gr {tp : List Int} {F : spF} (hF : spGr tp F) : spGr tp (spTest tp F) := spThen_gr (spBoth_gr hF) (spTestL_gr hF 1600)
theorem spSign_gr {tp : List Int} {c : Int} {k : Nat} {r : spR} (hc : c ≠ -1) (hr : ∀ k2 g2 K, r = .inr (k2, g2, K) → k + 1 ≤ k2 ∧ k2 ≤ tp.length ∧ spPk tp k2 = k2 ∧ K.length + k ≤ k2) {k2 g2 K} (h : spSign tp c r = .inr (k2, g2, K)) : k + 2 ≤ k2 ∧ k2 ≤ tp.length ∧ spPk tp k2 = k2 ∧ K.length + k + 1 ≤ k2 := by
  obtain ⟨k1, e1, e2, e3⟩ := spSign_inr h
  have h1 := hr _ _ _ e1
  have h2 : k1 < tp.length := spTx_lt (by rw [e2]; exact hc)
  have h3 := spPk_in (tp := tp) (k1 + 1)
  rw [e3]
  exact ⟨by omega, h3.2 h2, spPk_pk _, by omega⟩
theorem spPair_gr {tp : List Int} {inner : Option spF} {c : Int} (hI : ∀ P, inner = some P → spGr tp P) {k : Nat} {g : Int} {k2 g2 K} (h : spPair tp inner k g c = .inr (k2, g2, K)) : k + 1 ≤ k2 ∧ k2 ≤ tp.length ∧ spPk tp k2 = k2 ∧ K.length + k ≤ k2 := by
  unfold spPair at h
  split at h
  · rename_i hc0
    cases inner with
    | none => cases h
    | some P =>
      obtain ⟨K1, e1, e2⟩ := spEmt_inr h
      have hP := spSms_gr (hI P rfl)
      have hk0 := (spPk_in (tp := tp) (k + 1)).1
      have hs := spSign_gr (k := k + 1) (by decide) (fun k2 g2 K hh => by
        obtain ⟨k1, g1, K1, K2, e1, e2, e3⟩ := spThen_inr hh
        have h1 := spSign_gr (k := k + 1) (by decide) (fun a b c hh2 => by
          have := hP _ _ _ _ _ hh2
          exact ⟨by omega, this.2.1, this.2.2.1, by omega⟩) e1
        have h2 := hP _ _ _ _ _ e2
        rw [e3, List.length_append]
        exact ⟨by omega, h2.2.1, h2.2.2.1, by omega⟩) e1
      rw [e2, List.length_append]
      exact ⟨by omega, hs.2.1, hs.2.2.1, by show K1.length + 1 + k ≤ k2; omega⟩
  · cases h
theorem spWq_word {tp : List Int} {g : Int} {k : Nat} (h : spWq tp g k ≠ -1) : 0 ≤ spWq tp g k ∧ spWq tp g k ≤ 10 ∧ k + 3 ≤ spLe tp k ∧ spLe tp k ≤ tp.length ∧ (9 ≤ spWq tp g k → spLe tp k = k + 5) := by
  have key : ∀ w : List Int, 3 ≤ w.length → spWd tp g k w = true → k + 3 ≤ spLe tp k ∧ spLe tp k ≤ tp.length ∧ spLe tp k = k + w.length := by
    intro w hw h
    have h1 := (spWd_len h).1
    have h2 := spWd_in h
    rcases h2 with h2 | h2
    · exact ⟨by omega, by omega, h1⟩
    · rw [h2] at hw; exact absurd hw (by decide)
  unfold spWq at h ⊢
  by_cases c0 : spWd tp g k spW0 = true
  · rw [if_pos c0]; have := key _ (by decide) c0; exact ⟨by decide, by decide, this.1, this.2.1, fun h => absurd h (by decide)⟩
  rw [if_neg c0] at h ⊢
  by_cases c0 : spWd tp g k spW1 = true
  · rw [if_pos c0]; have := key _ (by decide) c0; exact ⟨by decide, by decide, this.1, this.2.1, fun h => absurd h (by decide)⟩
  rw [if_neg c0] at h ⊢
  by_cases c0 : spWd tp g k spW2 = true
  · rw [if_pos c0]; have := key _ (by decide) c0; exact ⟨by decide, by decide, this.1, this.2.1, fun h => absurd h (by decide)⟩
  rw [if_neg c0] at h ⊢
  by_cases c0 : spWd tp g k spW3 = true
  · rw [if_pos c0]; have := key _ (by decide) c0; exact ⟨by decide, by decide, this.1, this.2.1, fun h => absurd h (by decide)⟩
  rw [if_neg c0] at h ⊢
  by_cases c0 : spWd tp g k spW4 = true
  · rw [if_pos c0]; have := key _ (by decide) c0; exact ⟨by decide, by decide, this.1, this.2.1, fun h => absurd h (by decide)⟩
  rw [if_neg c0] at h ⊢
  by_cases c0 : spWd tp g k spW5 = true
  · rw [if_pos c0]; have := key _ (by decide) c0; exact ⟨by decide, by decide, this.1, this.2.1, fun h => absurd h (by decide)⟩
  rw [if_neg c0] at h ⊢
  by_cases c0 : spWd tp g k spW6 = true
  · rw [if_pos c0]; have := key _ (by decide) c0; exact ⟨by decide, by decide, this.1, this.2.1, fun h => absurd h (by decide)⟩
  rw [if_neg c0] at h ⊢
  by_cases c0 : spWd tp g k spW7 = true
  · rw [if_pos c0]; have := key _ (by decide) c0; exact ⟨by decide, by decide, this.1, this.2.1, fun h => absurd h (by decide)⟩
  rw [if_neg c0] at h ⊢
  by_cases c0 : spWd tp g k spW8 = true
  · rw [if_pos c0]; have := key _ (by decide) c0; exact ⟨by decide, by decide, this.1, this.2.1, fun h => absurd h (by decide)⟩
  rw [if_neg c0] at h ⊢
  by_cases c0 : spWd tp g k spW9 = true
  · rw [if_pos c0]; have := key _ (by decide) c0; exact ⟨by decide, by decide, this.1, this.2.1, fun _ => this.2.2⟩
  rw [if_neg c0] at h ⊢
  by_cases c0 : spWd tp g k spW10 = true
  · rw [if_pos c0]; have := key _ (by decide) c0; exact ⟨by decide, by decide, this.1, this.2.1, fun _ => this.2.2⟩
  rw [if_neg c0] at h
  exact absurd rfl h
theorem spPartS_gr {tp : List Int} {md : Nat} {inner : Option spF} (hI : ∀ P, inner = some P → spGr tp P) : spGr tp (spPartS tp md inner) := by
  intro k g k2 g2 K h
  unfold spPartS at h
  split at h
  · split at h
    · cases h
    · rename_i v e hn
      have h1 := spNum_ok hn
      obtain ⟨rfl, h2⟩ := Prod.mk.inj (Sum.inr.inj h)
      obtain ⟨rfl, rfl⟩ := Prod.mk.inj h2
      have h3 := spPk_in (tp := tp) e
      exact ⟨by omega, h3.2 h1.2.1, spPk_pk _, by show 1 + k ≤ _; omega⟩
  · split at h
    · split at h
      · cases h
      · rename_i P
        have h1 := spSign_gr (k := k) (by decide) (fun a b c hh => by
          have := spSms_gr (hI P rfl) _ _ _ _ _ hh
          have h4 := (spPk_in (tp := tp) (k + 1)).1
          exact ⟨by omega, this.2.1, this.2.2.1, by omega⟩) h
        exact ⟨by omega, h1.2.1, h1.2.2.1, by omega⟩
    · split at h
      · have h1 := spPair_gr hI h
        have h4 := (spPk_in (tp := tp) (k + 3)).1
        exact ⟨by omega, h1.2.1, h1.2.2.1, by omega⟩
      · split at h
        · have h1 := spPair_gr hI h
          have h4 := (spPk_in (tp := tp) (k + 3)).1
          exact ⟨by omega, h1.2.1, h1.2.2.1, by omega⟩
        · split at h
          · cases h
          · rename_i hw
            have h1 := spWq_word (tp := tp) (g := g) (k := k) (fun e => hw (Or.inl e))
            split at h
            · obtain ⟨rfl, h2⟩ := Prod.mk.inj (Sum.inr.inj h)
              obtain ⟨rfl, rfl⟩ := Prod.mk.inj h2
              have h3 := spPk_in (tp := tp) (spLe tp k)
              exact ⟨by omega, h3.2 h1.2.2.2.1, spPk_pk _, by show 1 + k ≤ _; omega⟩
            · split at h
              · cases h
              · rename_i P
                obtain ⟨K1, e1, e2⟩ := spEmt_inr h
                have h3 := hI P rfl _ _ _ _ _ e1
                have h4 := (spPk_in (tp := tp) (k + 5)).1
                rw [e2, List.length_append]
                exact ⟨by omega, h3.2.1, h3.2.2.1, by show K1.length + 1 + k ≤ k2; omega⟩
theorem spPart_gr {tp : List Int} {md : Nat} : ∀ r, spGr tp (spPart tp md r) := by
  intro r
  induction r with
  | zero => exact spPartS_gr (fun P h => by cases h)
  | succ r ih => exact spPartS_gr (fun P h => by cases h; exact ih)
theorem spCmp_gr {tp : List Int} {P : spF} (hP : spGr tp P) : spGr tp (spCmp tp P) := by
  intro k g k2 g2 K h
  have hS := spSms_gr hP
  unfold spCmp at h
  split at h
  · cases h
  · rename_i k1 g1 K1 h1
    split at h
    · obtain ⟨k3, g3, K3, K4, e1, e2, e3⟩ := spThen_inr h
      obtain ⟨rfl, h2⟩ := Prod.mk.inj (Sum.inr.inj e1)
      obtain ⟨rfl, rfl⟩ := Prod.mk.inj h2
      obtain ⟨K5, e4, e5⟩ := spEmt_inr e2
      have a1 := hS _ _ _ _ _ h1
      have a2 := hS _ _ _ _ _ e4
      have h4 := (spPk_in (tp := tp) (k1 + 1)).1
      rw [e3, e5, List.length_append, List.length_append]
      exact ⟨by omega, a2.2.1, a2.2.2.1, by show K1.length + (K5.length + 1) + k ≤ k2; omega⟩
    · cases h
theorem spFactS_gr {tp : List Int} {P : spF} {inner : Option spF} (hP : spGr tp P) (hI : ∀ F, inner = some F → spGr tp F) : spGr tp (spFactS tp P inner) := by
  intro k g k2 g2 K h
  unfold spFactS at h
  split at h
  · split at h
    · cases h
    · rename_i F
      obtain ⟨K1, e1, e2⟩ := spEmt_inr h
      have h3 := hI F rfl _ _ _ _ _ e1
      have h4 := (spPk_in (tp := tp) (k + 3)).1
      rw [e2, List.length_append]
      exact ⟨by omega, h3.2.1, h3.2.2.1, by show K1.length + 1 + k ≤ k2; omega⟩
  · split at h
    · split at h
      · cases h
      · rename_i F
        have h1 := spSign_gr (k := k) (by decide) (fun a b c hh => by
          have := spTest_gr (hI F rfl) _ _ _ _ _ hh
          have h4 := (spPk_in (tp := tp) (k + 1)).1
          exact ⟨by omega, this.2.1, this.2.2.1, by omega⟩) h
        exact ⟨by omega, h1.2.1, h1.2.2.1, by omega⟩
    · split at h
      · rename_i hw
        obtain ⟨rfl, h2⟩ := Prod.mk.inj (Sum.inr.inj h)
        obtain ⟨rfl, rfl⟩ := Prod.mk.inj h2
        have h5 : k + 3 ≤ tp.length := by
          rcases spWd_in hw with h | h
          · exact h
          · exact absurd h (by decide)
        have h3 := spPk_in (tp := tp) (k + 3)
        exact ⟨by omega, h3.2 h5, spPk_pk _, by show 1 + k ≤ _; omega⟩
      · exact spCmp_gr hP _ _ _ _ _ h
theorem spFact_gr {tp : List Int} {md : Nat} : ∀ r, spGr tp (spFact tp md r) := by
  intro r
  induction r with
  | zero => exact spFactS_gr (spPart_gr 0) (fun P h => by cases h)
  | succ r ih => exact spFactS_gr (spPart_gr (r + 1)) (fun P h => by cases h; exact ih)
