/-! the reference reads a journal's text: shape, all of it -/
section MJR
variable {o : Nat} {tp : List Int} {k : Nat} {g : Int} {p : spPn}
/-- the statements' loop: what holds at its end -/
theorem m_jnl : ∀ (f m k : Nat) (g : Int) (p : spPn) (h : jH), f + m = 41 → 1 ≤ m → p.2.2.2.length + 1 ≤ m → h o 42 = (m : Int) → MJ h o tp k g p → (∀ r, (if spTx tp k = -1 then (.inr (m, p) : spE (Nat × spPn)) else if m = 40 then .inl (5, k) else (match spStm tp k g p with | .inl e => .inl e | .inr (k2, g2, p2) => spJnl tp f (m + 1) k2 g2 p2)) = r → ∃ h', M_journal_L81 h o = M_journal_p103 h' o ∧ MJs o h h' ∧ (∀ e, r = .inl e → MBad o h' e) ∧ ∀ n q, r = .inr (n, q) → h' o 42 = (n : Int) ∧ h' o 5 = 0 ∧ h' o 6 = h o 6 ∧ ∃ u : Nat, MDr h' o u q ∧ u ≤ 1600) := by
  sorry
end MJR
