/-! SPEC 4: records are laid -/
abbrev spRec : Type := Int × Int × Int × Int
abbrev spFl : Type := List (Nat × Nat × Int)
/-- segment, byte, serial, greatest serial, where it was -/
abbrev spP : Type := Nat × Nat × Int × Int × (Nat → Bool)
def spBeh (blk len : Nat) : Nat → Nat → Nat → Option Nat
  | 0, _, _ => none
  | f + 1, k, left =>
    if left = 0 then some k
    else if len ≤ spStart blk k then none
    else spBeh blk len f (spStart blk k + 4 + min left (spEnd blk (spStart blk k) - spStart blk k - 4)) (left - min left (spEnd blk (spStart blk k) - spStart blk k - 4))
def spFirst (p : Nat → Bool) : Nat → Nat → Int
  | 0, _ => -1
  | m + 1, i => if p i = true then (i : Int) else spFirst p m (i + 1)
def spIsF (tp : Nat → Int) (snap : Int) (vis : Nat → Bool) (i : Nat) : Bool := !(vis i) && decide (tp i < snap)
def spVis (vis : Nat → Bool) (t : Nat) : Nat → Bool := fun i => decide (i = t) || vis i
def spGoes (ns blk len : Nat) (tp : Nat → Int) (snap : Int) (P : Nat) (q : spP) : Option (spP × Bool) :=
  if spBeh blk len 6 q.2.1 P ≠ none then some (q, false)
  else if spFirst (spIsF tp snap q.2.2.2.2) ns 0 = -1 then none
  else if spBeh blk len 6 5 P = none then none
  else some (((spFirst (spIsF tp snap q.2.2.2.2) ns 0).toNat, 5, wr (q.2.2.2.1 + 1), wr (q.2.2.2.1 + 1), spVis q.2.2.2.2 (spFirst (spIsF tp snap q.2.2.2.2) ns 0).toNat), true)
def spCk : List Int → Int → Int
  | [], c => c
  | v :: l, c => spCk l ((3 * c + v) % 251)
def spSz (r : spRec) : Nat := 3 + r.2.2.1.toNat
def spPay (r : spRec) (i : Nat) : Int := if i = 0 then r.1 else if i = 1 then r.2.1 / 256 else if i = 2 then r.2.1 % 256 else (r.2.1 + 7 * ((i : Int) - 3)) % 256
def spPays (r : spRec) : Nat → Nat → List Int
  | 0, _ => []
  | n + 1, i => spPay r i :: spPays r n (i + 1)
def spKind (P fr n : Nat) : Int := if n = P then 1 else if fr = 0 then 2 else if fr + n = P then 4 else 3
/-- a frame behind its check: its kind, length, serial, bytes -/
def spFrB (r : spRec) (fr n : Nat) (sl : Int) : List Int := spKind (spSz r) fr n :: (n : Int) :: sl :: spPays r n fr
def spLayB (blk : Nat) (r : spRec) (sl : Int) : Nat → Nat → Nat → List Int
  | 0, _, _ => []
  | f + 1, k, fr =>
    if spSz r ≤ fr then []
    else List.replicate (spStart blk k - k) 0 ++ (spCk (spFrB r fr (min (spSz r - fr) (spEnd blk (spStart blk k) - spStart blk k - 4)) sl) 7 :: spFrB r fr (min (spSz r - fr) (spEnd blk (spStart blk k) - spStart blk k - 4)) sl) ++ spLayB blk r sl f (spStart blk k + 4 + min (spSz r - fr) (spEnd blk (spStart blk k) - spStart blk k - 4)) (fr + min (spSz r - fr) (spEnd blk (spStart blk k) - spStart blk k - 4))
def spHd4 (ser num : Int) : List Int := [ser / 256 % 256, ser % 256, num / 256 % 256, num % 256]
def spHdB (ser num : Int) : List Int := spHd4 ser num ++ [spCk (spHd4 ser num) 7]
def spOut (s : Nat) : Nat → List Int → spFl
  | _, [] => []
  | k, b :: l => (s, k, b) :: spOut s (k + 1) l
abbrev spL : Type := spP × spFl × (Nat → Int)
/-- one record is laid -/
def spOne (ns blk len : Nat) (tp : Nat → Int) (snap : Int) (r : spRec) (num : Int) (x : spL) : Option spL :=
  match spGoes ns blk len tp snap (spSz r) x.1 with
  | none => none
  | some (q, false) => some ((q.1, q.2.1 + (spLayB blk r (q.2.2.1 % 256) 6 q.2.1 0).length, q.2.2), x.2.1 ++ spOut q.1 q.2.1 (spLayB blk r (q.2.2.1 % 256) 6 q.2.1 0), pu x.2.2 q.1 num)
  | some (q, true) => some ((q.1, q.2.1 + (spLayB blk r (q.2.2.1 % 256) 6 q.2.1 0).length, q.2.2), x.2.1 ++ spOut q.1 0 (spHdB q.2.2.1 num ++ spLayB blk r (q.2.2.1 % 256) 6 q.2.1 0), pu x.2.2 q.1 num)
def spAll (ns blk len : Nat) (tp : Nat → Int) (snap : Int) : List spRec → Int → spL → Option spL
  | [], _, x => some x
  | r :: l, num, x => match spOne ns blk len tp snap r num x with
    | none => none
    | some y => spAll ns blk len tp snap l (num + 1) y
def spRok (r : spRec) : Prop := 0 ≤ r.1 ∧ r.1 < 16 ∧ 0 ≤ r.2.1 ∧ r.2.1 < 1000 ∧ 0 ≤ r.2.2.1 ∧ r.2.2.1 < 41
theorem spOut_app {s : Nat} : ∀ (a : List Int) (k : Nat) (b : List Int), spOut s k (a ++ b) = spOut s k a ++ spOut s (k + a.length) b := by
  intro a
  induction a with
  | nil => intro k b; rfl
  | cons x a ih =>
    intro k b
    show (s, k, x) :: spOut s (k + 1) (a ++ b) = (s, k, x) :: spOut s (k + 1) a ++ _
    rw [ih]
    rw [show k + 1 + a.length = k + (x :: a).length by rw [List.length_cons]; omega]
    rfl
theorem spOut_len {s : Nat} : ∀ (a : List Int) (k : Nat), (spOut s k a).length = a.length := by
  intro a
  induction a with
  | nil => intro k; rfl
  | cons x a ih => intro k; show (_ :: spOut s (k + 1) a).length = _; rw [List.length_cons, ih, List.length_cons]
theorem spPays_len {r : spRec} : ∀ (n i : Nat), (spPays r n i).length = n := by
  intro n
  induction n with
  | zero => intro i; rfl
  | succ n ih => intro i; show (_ :: spPays r n (i + 1)).length = _; rw [List.length_cons, ih]
theorem spFrB_len {r : spRec} {fr n : Nat} {sl : Int} : (spFrB r fr n sl).length = 3 + n := by
  unfold spFrB
  simp only [List.length_cons, spPays_len]
  omega
theorem spCk_in : ∀ (l : List Int) (c : Int), 0 ≤ c → c < 251 → 0 ≤ spCk l c ∧ spCk l c < 251 := by
  intro l
  induction l with
  | nil => intro c h1 h2; exact ⟨h1, h2⟩
  | cons v l ih => intro c h1 h2; exact ih _ (by omega) (by omega)
theorem spCk_app : ∀ (a b : List Int) (c : Int), spCk (a ++ b) c = spCk b (spCk a c) := by
  intro a
  induction a with
  | nil => intro b c; rfl
  | cons v a ih => intro b c; exact ih b _
theorem spChk_list {b : Nat → Int} : ∀ (l : List Int) (k : Nat) (c : Int), (∀ j v, l[j]? = some v → b (k + j) = v) → spChk b l.length k c = spCk l c := by
  intro l
  induction l with
  | nil => intro k c _; rfl
  | cons v l ih =>
    intro k c h
    show spChk b l.length (k + 1) ((3 * c + b k) % 251) = spCk l ((3 * c + v) % 251)
    rw [show b k = v from h 0 v rfl]
    exact ih (k + 1) _ (fun j w hj => by rw [show k + 1 + j = k + (j + 1) by omega]; exact h (j + 1) w hj)
theorem spPay_in {r : spRec} (h : spRok r) (i : Nat) : 0 ≤ spPay r i ∧ spPay r i < 256 := by
  unfold spRok at h
  unfold spPay
  split
  · omega
  · split
    · omega
    · split <;> omega
theorem spPays_in {r : spRec} (h : spRok r) : ∀ (n i : Nat) (v : Int), v ∈ spPays r n i → 0 ≤ v ∧ v < 256 := by
  intro n
  induction n with
  | zero => intro i v hv; cases hv
  | succ n ih =>
    intro i v hv
    rcases List.mem_cons.mp (show v ∈ spPay r i :: spPays r n (i + 1) from hv) with h1 | h1
    · rw [h1]; exact spPay_in h i
    · exact ih _ _ h1
theorem spKind_in {P fr n : Nat} : 1 ≤ spKind P fr n ∧ spKind P fr n ≤ 4 := by
  unfold spKind
  split
  · omega
  · split
    · omega
    · split <;> omega
theorem spFrB_in {r : spRec} (h : spRok r) {fr n : Nat} {sl : Int} (hn : n < 256) (h0 : 0 ≤ sl) (h1 : sl < 256) : ∀ v ∈ spFrB r fr n sl, 0 ≤ v ∧ v < 256 := by
  intro v hv
  have hk := spKind_in (P := spSz r) (fr := fr) (n := n)
  unfold spFrB at hv
  rcases List.mem_cons.mp hv with e | hv
  · omega
  rcases List.mem_cons.mp hv with e | hv
  · omega
  rcases List.mem_cons.mp hv with e | hv
  · omega
  exact spPays_in h _ _ _ hv
/-- with room for a record its bytes end where they should -/
theorem spLayB_len {blk len : Nat} {r : spRec} {sl : Int} (hb : 4 < blk) (hl : len % blk = 0) : ∀ (f k fr e : Nat), fr ≤ spSz r → k ≤ len → spBeh blk len f k (spSz r - fr) = some e → k + (spLayB blk r sl f k fr).length = e ∧ e ≤ len := by
  intro f
  induction f with
  | zero => intro k fr e _ _ h; cases h
  | succ f ih =>
    intro k fr e hf hk h
    have hst := spStart_le (show 0 < blk by omega) hl hk
    unfold spBeh at h
    unfold spLayB
    by_cases a : spSz r - fr = 0
    · rw [if_pos a] at h
      rw [if_pos (by omega)]
      have : k = e := Option.some.inj h
      exact ⟨by simp [this], by omega⟩
    · rw [if_neg a] at h
      rw [if_neg (by omega)]
      by_cases b : len ≤ spStart blk k
      · rw [if_pos b] at h; cases h
      · rw [if_neg b] at h
        have hr := spStart_room (blk := blk) (k := k) hb
        have he := spEnd_le (show 0 < blk by omega) hl (show spStart blk k < len by omega)
        generalize spStart blk k = j at h hst b hr he ⊢
        generalize hn : min (spSz r - fr) (spEnd blk j - j - 4) = n at h ⊢
        rw [show spSz r - fr - n = spSz r - (fr + n) by omega] at h
        have := ih (j + 4 + n) (fr + n) e (by omega) (by omega) h
        refine ⟨?_, this.2⟩
        rw [List.length_append, List.length_append, List.length_replicate, List.length_cons, spFrB_len]
        omega
/-- what is in memory of bytes on their way -/
def spFok (F : spFl) (ns len : Nat) : Prop := ∀ e ∈ F, e.1 < ns ∧ e.2.1 < len ∧ 0 ≤ e.2.2 ∧ e.2.2 < 256
theorem spLayB_in {blk : Nat} {r : spRec} {sl : Int} (hr : spRok r) (h0 : 0 ≤ sl) (h1 : sl < 256) (hb : blk ≤ 32) (hb0 : 0 < blk) : ∀ (f k fr : Nat) (v : Int), v ∈ spLayB blk r sl f k fr → 0 ≤ v ∧ v < 256 := by
  intro f
  induction f with
  | zero => intro k fr v h; cases h
  | succ f ih =>
    intro k fr v h
    unfold spLayB at h
    split at h
    · cases h
    · have hge := spEnd_gt (blk := blk) (k := spStart blk k) hb0
      rcases List.mem_append.mp h with h | h
      · rcases List.mem_append.mp h with h | h
        · have := List.eq_of_mem_replicate h
          omega
        · rcases List.mem_cons.mp h with h | h
          · rw [h]
            have := spCk_in (spFrB r fr (min (spSz r - fr) (spEnd blk (spStart blk k) - spStart blk k - 4)) sl) 7 (by omega) (by omega)
            omega
          · exact spFrB_in hr (by omega) h0 h1 v h
      · exact ih _ _ _ h
