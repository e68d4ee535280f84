/-! what a journal's text tells is as it should be -/
def spPnk (p : spPn) : Prop := (∀ K, p.1 = some K → spTys spAlC K [] = some [true]) ∧ (∀ K, p.2.1 = some K → spTys spAlT K [] = some [false]) ∧ (0 ≤ p.2.2.1 ∧ p.2.2.1 ≤ 100) ∧ p.2.2.2.length ≤ 39 ∧ ∀ v ∈ p.2.2.2, (0 ≤ v.1 ∧ v.1 ≤ 15) ∧ (0 ≤ v.2.1 ∧ v.2.1 ≤ 999) ∧ 0 ≤ v.2.2 ∧ v.2.2 ≤ 40
section JOK
variable {tp : List Int} {k : Nat} {g : Int} {p : spPn}
theorem spStm_ok (hp : spPnk p) (hl : p.2.2.2.length ≤ 38) {k2 : Nat} {g2 : Int} {p2 : spPn} (h : spStm tp k g p = .inr (k2, g2, p2)) : spPnk p2 := by
  obtain ⟨h1, h2, h3, h4, h5⟩ := hp
  unfold spStm at h
  split at h
  · unfold spPut at h
    cases n1 : spNum tp ((k + 3 : Nat) : Int) (spPk tp (k + 3)) 0 15 with
    | inl e => rw [n1] at h; cases h
    | inr x =>
    obtain ⟨a, e1⟩ := x
    rw [n1] at h
    dsimp only at h
    cases n2 : spNum tp (e1 : Int) (spPk tp e1) 0 999 with
    | inl e => rw [n2] at h; cases h
    | inr x =>
    obtain ⟨b, e2⟩ := x
    rw [n2] at h
    dsimp only at h
    split at h
    · cases n3 : spNum tp ((spPk tp e2 + 4 : Nat) : Int) (spPk tp (spPk tp e2 + 4)) 0 40 with
      | inl e => rw [n3] at h; cases h
      | inr x =>
      obtain ⟨c, e3⟩ := x
      rw [n3] at h
      cases h
      refine ⟨h1, h2, h3, by rw [List.length_append]; show p.2.2.2.length + 1 ≤ 39; omega, fun v hv => ?_⟩
      rcases List.mem_append.mp hv with e | e
      · exact h5 v e
      · rw [List.mem_singleton.mp e]
        exact ⟨(spNum_ok n1).2.2, (spNum_ok n2).2.2, (spNum_ok n3).2.2⟩
    · cases h
  split at h
  · unfold spNoi at h
    cases n1 : spNum tp ((k + 5 : Nat) : Int) (spPk tp (k + 5)) 0 100 with
    | inl e => rw [n1] at h; cases h
    | inr x =>
    obtain ⟨a, e1⟩ := x
    rw [n1] at h
    cases h
    exact ⟨h1, h2, (spNum_ok n1).2.2, h4, h5⟩
  split at h
  · unfold spClz at h
    split at h
    · cases h
    · cases n1 : spTest tp (spFact tp 0 6) (spPk tp (k + 6)) ((k + 6 : Nat) : Int) with
      | inl e => rw [n1] at h; cases h
      | inr x =>
      obtain ⟨k3, g3, K⟩ := x
      rw [n1] at h
      cases h
      exact ⟨fun K' e => by cases e; exact spTest_dp (spFact_dp 6) _ _ _ _ _ n1 [] (by decide), h2, h3, h4, h5⟩
  split at h
  · unfold spTak at h
    split at h
    · cases h
    · cases n1 : spSms tp (spPart tp 1 6) (spPk tp (k + 5)) ((k + 5 : Nat) : Int) with
      | inl e => rw [n1] at h; cases h
      | inr x =>
      obtain ⟨k3, g3, K⟩ := x
      rw [n1] at h
      cases h
      exact ⟨h1, fun K' e => by cases e; exact spSms_dp (spPart_dp 6) _ _ _ _ _ n1 [] (by decide), h3, h4, h5⟩
  · cases h
theorem spJnl_ok : ∀ (f m k : Nat) (g : Int) (p : spPn), 1 ≤ m → m ≤ 40 → p.2.2.2.length + 1 ≤ m → spPnk p → ∀ n q, spJnl tp f m k g p = .inr (n, q) → spPnk q ∧ 1 ≤ n ∧ n ≤ 40 := by
  intro f
  induction f with
  | zero => intro m k g p _ _ _ _ n q h; cases h
  | succ f ih =>
    intro m k g p hm1 hm2 hl hp n q h
    rw [spJnl_s] at h
    split at h
    · unfold spJnB at h
      split at h
      · cases h; exact ⟨hp, hm1, hm2⟩
      split at h
      · cases h
      · rename_i c1 c2
        cases hr : spStm tp (spPk tp (k + 1)) g p with
        | inl e => rw [hr] at h; cases h
        | inr x =>
          obtain ⟨k2, g2, p2⟩ := x
          rw [hr] at h
          have := spStm_len hr
          exact ih (m + 1) k2 g2 p2 (by omega) (by omega) (by omega) (spStm_ok hp (by omega) hr) n q h
    · cases h
theorem spShp_ok {a b c : Int} (h : spShp tp = .inr (k, g, a, b, c)) : (2 ≤ a ∧ a ≤ 4) ∧ (2 ≤ b ∧ b ≤ 4) ∧ 16 ≤ c ∧ c ≤ 32 := by
  obtain ⟨x1, ⟨y, x2⟩, y', x3⟩ := spShp_x.2 k g a b c h
  have nm : ∀ (lo hi v : Int) (x : spE (Nat × Int)) (y : Nat × Int), spNm tp lo hi x = .inr (v, y) → lo ≤ v ∧ v ≤ hi := by
    intro lo hi v x y e
    cases x with
    | inl e0 => cases e
    | inr z =>
      obtain ⟨k, g⟩ := z
      have e' : (match spNum tp g k lo hi with | .inl e => (.inl e : spE (Int × Nat × Int)) | .inr (v, e) => .inr (v, spPk tp e, (e : Int))) = .inr (v, y) := e
      cases hr : spNum tp g k lo hi with
      | inl e0 => rw [hr] at e'; cases e'
      | inr w =>
        obtain ⟨w, e1⟩ := w
        rw [hr] at e'
        cases e'
        exact (spNum_ok hr).2.2
  exact ⟨nm _ _ _ _ _ x2, nm _ _ _ _ _ x3, nm _ _ _ _ _ x1⟩
/-- the plan that a text tells -/
def spPlOf (a b c : Int) (q : spPn) : spPl := (a.toNat, c.toNat, (b * c).toNat, q.1.getD spCl0, q.2.1.getD spTk0)
theorem spJour_ok {a b c : Int} {n : Nat} {q : spPn} (h : spJour tp = .inr ((a, b, c), n, q)) : ((2 ≤ a ∧ a ≤ 4) ∧ (2 ≤ b ∧ b ≤ 4) ∧ 16 ≤ c ∧ c ≤ 32) ∧ spPnk q ∧ (1 ≤ n ∧ n ≤ 40) ∧ spPok (spPlOf a b c q) := by
  unfold spJour at h
  cases hr : spShp tp with
  | inl e => rw [hr] at h; cases h
  | inr x =>
    obtain ⟨k, g, a', b', c'⟩ := x
    rw [hr] at h
    dsimp only at h
    cases hj : spJnl tp 41 1 k g (none, none, 0, []) with
    | inl e => rw [hj] at h; cases h
    | inr y =>
      obtain ⟨n', q'⟩ := y
      rw [hj] at h
      cases h
      have hq := spJnl_ok 41 1 k g (none, none, 0, []) (by decide) (by decide) (by show 0 + 1 ≤ 1; decide) ⟨fun K e => (by cases e), fun K e => (by cases e), by decide, Nat.zero_le _, fun v hv => absurd hv List.not_mem_nil⟩ _ _ hj
      refine ⟨spShp_ok hr, hq.1, hq.2, ?_, ?_⟩
      · show spTys spAlC (q.1.getD spCl0) [] = some [true]
        cases e : q.1 with
        | none => decide
        | some K => exact hq.1.1 K e
      · show spTys spAlT (q.2.1.getD spTk0) [] = some [false]
        cases e : q.2.1 with
        | none => decide
        | some K => exact hq.1.2.1 K e
end JOK
