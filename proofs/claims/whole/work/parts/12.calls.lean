/-! calls and ends; the whole: what the machine of numbers does, the machine does -/
def jle2 (σ σ' : jS) : Prop := σ.1.1.length ≤ σ'.1.1.length ∧ jtot σ.1.1 ≤ jtot σ'.1.1
theorem jle2.rf (σ : jS) : jle2 σ σ := ⟨Nat.le_refl _, Nat.le_refl _⟩
theorem jle2.tr {a b c : jS} (h1 : jle2 a b) (h2 : jle2 b c) : jle2 a c := ⟨Nat.le_trans h1.1 h2.1, Nat.le_trans h1.2 h2.2⟩
theorem jle2.new {T : jT} {h : jH} {t : Nat × Nat} : jle2 (T, h) ((T.1 ++ [t], T.2), h) := ⟨by show T.1.length ≤ (T.1 ++ [t]).length; simp, by show jtot T.1 ≤ jtot (T.1 ++ [t]); simp [jtot]⟩
/-- what becomes of a state by a step: the objects stay, or one more is made; nothing is made by an end or ahead of a call -/
def jfl (σ : jS) (z : Option jX) : Prop := ∀ q, z = some q → (∀ f' σ', q = .inl (f', σ') → jle2 σ σ') ∧ (∀ r σ', q = .inr (.inl (r, σ')) → σ' = σ)
theorem jfl.none (σ : jS) : jfl σ none := fun q h => by cases h
theorem jfl.on {σ σ' : jS} {mi pc : Nat} {ls st : List jV} (h : jle2 σ σ') : jfl σ (jon mi pc ls st σ') := fun q hq => by
  cases hq
  exact ⟨fun f s h2 => (by cases h2; exact h), fun r s h2 => (by cases h2)⟩
theorem jfl.same {σ : jS} {mi pc : Nat} {ls st : List jV} : jfl σ (jon mi pc ls st σ) := jfl.on (jle2.rf σ)
theorem jfl.put {T : jT} {h h' : jH} {mi pc : Nat} {ls st : List jV} : jfl (T, h) (jon mi pc ls st (T, h')) := jfl.on ⟨Nat.le_refl _, Nat.le_refl _⟩
theorem jfl.putR {T : jT} {h : jH} {R : Nat → Nat → Nat} {mi pc : Nat} {ls st : List jV} : jfl (T, h) (jon mi pc ls st ((T.1, R), h)) := jfl.on ⟨Nat.le_refl _, Nat.le_refl _⟩
theorem jfl.fin {σ : jS} {r : jV} : jfl σ (some (.inr (.inl (r, σ)))) := fun q hq => by
  cases hq
  exact ⟨fun f s h2 => (by cases h2), fun r s h2 => (by cases h2; rfl)⟩
theorem jfl.cal {σ : jS} {mi : Nat} {a : List jV} {f : jF} : jfl σ (some (.inr (.inr (mi, a, f)))) := fun q hq => by
  cases hq
  exact ⟨fun f s h2 => (by cases h2), fun r s h2 => (by cases h2)⟩
theorem jfl_jld {kind t : Nat} {xs : List Int} {mi pc : Nat} {ls st : List jV} {σ : jS} : jfl σ (jld kind t xs mi pc ls st σ) := by
  unfold jld
  repeat' split
  all_goals first | exact jfl.none _ | exact jfl.same
theorem jfl_jsv {kind t : Nat} {mi pc : Nat} {ls st : List jV} {σ : jS} : jfl σ (jsv kind t mi pc ls st σ) := by
  unfold jsv
  repeat' split
  all_goals first | exact jfl.none _ | exact jfl.put
theorem jfl_jgf {info : List Nat} {mi pc : Nat} {ls st : List jV} {σ : jS} : jfl σ (jgf info mi pc ls st σ) := by
  unfold jgf
  repeat' split
  all_goals first | exact jfl.none _ | exact jfl.same
theorem jfl_jpf {info : List Nat} {mi pc : Nat} {ls st : List jV} {σ : jS} : jfl σ (jpf info mi pc ls st σ) := by
  unfold jpf
  repeat' split
  all_goals first | exact jfl.none _ | exact jfl.put | exact jfl.putR
theorem jfl_jinv {info : List Nat} {mi pc : Nat} {ls st : List jV} {σ : jS} : jfl σ (jinv info mi pc ls st σ) := by
  unfold jinv jnat7 jnat10 jcall
  repeat' split
  all_goals first | exact jfl.none _ | exact jfl.same | exact jfl.put | exact jfl.cal
theorem jfl_jnew {k n : Nat} {mi pc len : Nat} {ls st : List jV} {σ : jS} : jfl σ (jnew k n mi pc len ls st σ) := jfl.on jle2.new
theorem jfl_jn0 (xs : List Int) (f : jF) (σ : jS) : jfl σ (jn0 xs f σ) := by
  obtain ⟨mi, pc, ls, st⟩ := f
  unfold jn0
  dsimp only
  repeat' split
  all_goals first | exact jfl.none _ | exact jfl.same | exact jfl_jgf | exact jfl_jpf | exact jfl_jld | exact jfl_jsv | exact jfl_jinv | exact jfl_jnew | exact jfl.putR | exact jfl.put | exact jfl.fin
theorem jxN_le {xs : List Int} {call : jC} (hc : ∀ mi a σ r σ', call mi a σ = some (r, σ') → jle2 σ σ') : ∀ (n : Nat) (f : jF) (σ : jS) (y : jV × jS), jxN xs call n f σ = some y → jle2 σ y.2 := by
  intro n
  induction n with
  | zero => intro f σ y h; simp [jxN] at h
  | succ n ih =>
    intro f σ y h
    simp only [jxN] at h
    have hf := jfl_jn0 xs f σ
    cases hj : jn0 xs f σ with
    | none => rw [hj] at h; cases h
    | some z =>
      rw [hj] at h hf
      rcases z with ⟨f', σ'⟩ | r' | ⟨mi, args, m2, pc, ls, st⟩
      · exact ((hf _ rfl).1 _ _ rfl).tr (ih f' σ' y h)
      · simp only at h
        cases h
        rw [(hf _ rfl).2 y.1 y.2 rfl]
        exact jle2.rf σ
      · simp only at h
        cases hq : call mi args σ with
        | none => rw [hq] at h; cases h
        | some q =>
          obtain ⟨q1, q2⟩ := q
          rw [hq] at h
          exact (hc _ _ _ _ _ hq).tr (ih _ q2 y h)
theorem jrun_le {xs : List Int} : ∀ (d k mi : Nat) (a : List jV) (σ : jS) (r : jV) (σ' : jS), jrun xs d k mi a σ = some (r, σ') → jle2 σ σ' := by
  intro d
  induction d with
  | zero => intro k mi a σ r σ' h; simp [jrun] at h
  | succ d ih =>
    intro k mi a σ r σ' h
    simp only [jrun] at h
    split at h
    · exact jxN_le (fun mi a σ r σ' h => ih k mi a σ r σ' h) k _ σ (r, σ') h
    · cases h
