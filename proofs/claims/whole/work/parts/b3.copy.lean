/-! the class copies a state -/
section CPY
variable {a b : Nat}
def Cp (a b : Nat) (S : List (Nat × Nat × Nat)) (h g : jH) : Prop := (∀ e ∈ S, ∀ f, e.2.1 ≤ f → f < e.2.1 + e.2.2 → g (a + e.1) f = h (b + e.1) f) ∧ (∀ z f, (∀ e ∈ S, z = a + e.1 → ¬ (e.2.1 ≤ f ∧ f < e.2.1 + e.2.2)) → g z f = h z f) ∧ ∀ e ∈ S, e.1 ≤ 20
theorem Cp.nil {h : jH} : Cp a b [] h h := ⟨fun e he => (by cases he), fun _ _ _ => rfl, fun e he => (by cases he)⟩
theorem Cp.src {S : List (Nat × Nat × Nat)} {h g : jH} (hd : a + 20 < b ∨ b + 20 < a) (c : Cp a b S h g) {z : Nat} (hz : b ≤ z ∧ z ≤ b + 20) (f : Nat) : g z f = h z f := c.2.1 z f (fun e he hx => by have := c.2.2 e he; omega)
theorem Cp.up {S : List (Nat × Nat × Nat)} {h g : jH} (hd : a + 20 < b ∨ b + 20 < a) (c : Cp a b S h g) {r f d : Nat} {v : Int} (hr : r = a + d) (hd20 : d ≤ 20) (hv : v = g (b + d) f) : Cp a b ((d, f, 1) :: S) h (jup g r f v) := by
  subst hr hv
  refine ⟨fun e he f' h1 h2 => ?_, fun z f' hz => ?_, fun e he => ?_⟩
  · rcases List.mem_cons.mp he with x | x
    · subst x
      dsimp only at h1 h2 ⊢
      rw [show f' = f by omega, ju_eq]
      exact c.src hd (by omega) f
    · by_cases y : e.1 = d ∧ f' = f
      · rw [y.1, y.2, ju_eq]
        exact c.src hd (by omega) f
      · rw [ju_if2, if_neg (fun w => y ⟨by omega, w.2⟩)]
        exact c.1 e x f' h1 h2
  · rw [ju_if2, if_neg (fun w => hz (d, f, 1) List.mem_cons_self w.1 ⟨by dsimp only; omega, by dsimp only; omega⟩)]
    exact c.2.1 z f' (fun e he => hz e (List.mem_cons_of_mem _ he))
  · rcases List.mem_cons.mp he with x | x
    · subst x; exact hd20
    · exact c.2.2 e x
theorem Cp.cp {S : List (Nat × Nat × Nat)} {h g : jH} (hd : a + 20 < b ∨ b + 20 < a) (c : Cp a b S h g) {r s n d : Nat} (hr : r = a + d) (hs : s = b + d) (hd20 : d ≤ 20) : Cp a b ((d, 0, n) :: S) h (jcpy g s r 0 0 n) := by
  subst hr hs
  refine ⟨fun e he f' h1 h2 => ?_, fun z f' hz => ?_, fun e he => ?_⟩
  · by_cases y : e.1 = d ∧ f' < n
    · rw [y.1, jcpy_at y.2]
      exact c.src hd (by omega) f'
    · rcases List.mem_cons.mp he with x | x
      · subst x
        dsimp only at h1 h2 y
        exact absurd ⟨rfl, by omega⟩ y
      · by_cases w : e.1 = d
        · rw [w, jcpy_hi (by omega), ← w]
          exact c.1 e x f' h1 h2
        · rw [jcpy_ne (by omega)]
          exact c.1 e x f' h1 h2
  · have h3 : ∀ e ∈ S, z = a + e.1 → ¬ (e.2.1 ≤ f' ∧ f' < e.2.1 + e.2.2) := fun e he => hz e (List.mem_cons_of_mem _ he)
    by_cases y : z = a + d
    · have := hz (d, 0, n) List.mem_cons_self y
      dsimp only at this
      rw [y, jcpy_hi (by omega), ← y]
      exact c.2.1 z f' h3
    · rw [jcpy_ne y]
      exact c.2.1 z f' h3
  · rcases List.mem_cons.mp he with x | x
    · subst x; exact hd20
    · exact c.2.2 e x
/-- what is copied -/
def spCpL : List (Nat × Nat × Nat) := [(0, 14, 1), (0, 13, 1), (0, 12, 1), (0, 11, 1), (0, 10, 1), (0, 9, 1), (0, 7, 1), (20, 0, 4), (19, 0, 16), (18, 0, 16), (17, 0, 40), (16, 0, 40), (15, 0, 40), (14, 0, 8), (13, 0, 8), (12, 6, 1), (12, 2, 1), (11, 0, 32), (10, 0, 32), (9, 0, 32), (8, 0, 32), (7, 6, 1), (7, 5, 1), (7, 4, 1), (6, 0, 512), (5, 0, 512), (4, 3, 1), (4, 2, 1), (3, 0, 512), (2, 0, 512), (1, 3, 1), (1, 4, 1), (1, 2, 1), (0, 0, 1)]
theorem c_copyCp {T : jT} {h : jH} {pl : Nat} (hd : a + 20 < b ∨ b + 20 < a) (hT : isX6 T pl) (h0 : h b 0 = (pl : Int)) (h14 : h b 14 = 0 ∨ h b 14 = 1) : ∃ h', St_copyFrom T h a b = some h' ∧ Cp a b spCpL h h' := by
  unfold St_copyFrom
  rw [h0, jdyn_at hT]
  simp only [Option.bind_some]
  have c0 : Cp a b _ h (jup h a 0 (Int.ofNat pl)) := (Cp.nil (h := h)).up hd (d := 0) (by omega) (by omega) (by rw [Nat.add_zero, h0]; rfl)
  unfold Di_copyFrom
  have c1 := c0.up hd (r := a + 1) (f := 2) (d := 1) (v := (jup h a 0 (Int.ofNat pl)) (b + 1) 2) rfl (by decide) rfl
  have c2 := c1.up hd (r := a + 1) (f := 4) (d := 1) rfl (by decide) rfl
  have c3 := c2.up hd (r := a + 1) (f := 3) (d := 1) rfl (by decide) rfl
  rw [g_copy]
  simp only [Option.bind_some]
  rw [g_copy]
  simp only [Option.bind_some]
  have c4 := c3.cp hd (r := a + 1 + 1) (s := b + 1 + 1) (n := 512) (d := 2) (by omega) (by omega) (by decide)
  have c5 := c4.cp hd (r := a + 1 + 2) (s := b + 1 + 2) (n := 512) (d := 3) (by omega) (by omega) (by decide)
  generalize jcpy (jcpy _ (b + 1 + 1) (a + 1 + 1) 0 0 512) (b + 1 + 2) (a + 1 + 2) 0 0 512 = g1 at c5 ⊢
  unfold Fl_copyFrom
  rw [g_copy]
  simp only [Option.bind_some]
  rw [g_copy]
  simp only [Option.bind_some]
  have d1 := c5.up hd (r := a + 4) (f := 2) (d := 4) rfl (by decide) rfl
  have d2 := d1.up hd (r := a + 4) (f := 3) (d := 4) rfl (by decide) rfl
  have d3 := d2.cp hd (r := a + 4 + 1) (s := b + 4 + 1) (n := 512) (d := 5) (by omega) (by omega) (by decide)
  have d4 := d3.cp hd (r := a + 4 + 2) (s := b + 4 + 2) (n := 512) (d := 6) (by omega) (by omega) (by decide)
  generalize jcpy (jcpy _ (b + 4 + 1) (a + 4 + 1) 0 0 512) (b + 4 + 2) (a + 4 + 2) 0 0 512 = g2 at d4 ⊢
  unfold Qu_copyFrom
  rw [g_copy]
  simp only [Option.bind_some]
  rw [g_copy]
  simp only [Option.bind_some]
  rw [g_copy]
  simp only [Option.bind_some]
  rw [g_copy]
  simp only [Option.bind_some]
  have e1 := d4.up hd (r := a + 7) (f := 4) (d := 7) rfl (by decide) rfl
  have e2 := e1.up hd (r := a + 7) (f := 5) (d := 7) rfl (by decide) rfl
  have e3 := e2.up hd (r := a + 7) (f := 6) (d := 7) rfl (by decide) rfl
  have e4 := e3.cp hd (r := a + 7 + 1) (s := b + 7 + 1) (n := 32) (d := 8) (by omega) (by omega) (by decide)
  have e5 := e4.cp hd (r := a + 7 + 2) (s := b + 7 + 2) (n := 32) (d := 9) (by omega) (by omega) (by decide)
  have e6 := e5.cp hd (r := a + 7 + 3) (s := b + 7 + 3) (n := 32) (d := 10) (by omega) (by omega) (by decide)
  have e7 := e6.cp hd (r := a + 7 + 4) (s := b + 7 + 4) (n := 32) (d := 11) (by omega) (by omega) (by decide)
  generalize jcpy (jcpy (jcpy (jcpy _ (b + 7 + 1) (a + 7 + 1) 0 0 32) (b + 7 + 2) (a + 7 + 2) 0 0 32) (b + 7 + 3) (a + 7 + 3) 0 0 32) (b + 7 + 4) (a + 7 + 4) 0 0 32 = g3 at e7 ⊢
  unfold Wa_copyFrom
  rw [g_copy]
  simp only [Option.bind_some]
  rw [g_copy]
  simp only [Option.bind_some]
  rw [g_copy]
  simp only [Option.bind_some]
  rw [g_copy]
  simp only [Option.bind_some]
  rw [g_copy]
  simp only [Option.bind_some]
  have f1 := e7.up hd (r := a + 12) (f := 2) (d := 12) rfl (by decide) rfl
  have f2 := f1.up hd (r := a + 12) (f := 6) (d := 12) rfl (by decide) rfl
  have f3 := f2.cp hd (r := a + 12 + 1) (s := b + 12 + 1) (n := 8) (d := 13) (by omega) (by omega) (by decide)
  have f4 := f3.cp hd (r := a + 12 + 2) (s := b + 12 + 2) (n := 8) (d := 14) (by omega) (by omega) (by decide)
  have f5 := f4.cp hd (r := a + 12 + 3) (s := b + 12 + 3) (n := 40) (d := 15) (by omega) (by omega) (by decide)
  have f6 := f5.cp hd (r := a + 12 + 4) (s := b + 12 + 4) (n := 40) (d := 16) (by omega) (by omega) (by decide)
  have f7 := f6.cp hd (r := a + 12 + 5) (s := b + 12 + 5) (n := 40) (d := 17) (by omega) (by omega) (by decide)
  generalize jcpy (jcpy (jcpy (jcpy (jcpy _ (b + 12 + 1) (a + 12 + 1) 0 0 8) (b + 12 + 2) (a + 12 + 2) 0 0 8) (b + 12 + 3) (a + 12 + 3) 0 0 40) (b + 12 + 4) (a + 12 + 4) 0 0 40) (b + 12 + 5) (a + 12 + 5) 0 0 40 = g4 at f7 ⊢
  rw [g_copy]
  simp only [Option.bind_some]
  rw [g_copy]
  simp only [Option.bind_some]
  rw [g_copy]
  simp only [Option.bind_some]
  have k1 := f7.cp hd (r := a + 18) (s := b + 18) (n := 16) (d := 18) rfl rfl (by decide)
  have k2 := k1.cp hd (r := a + 19) (s := b + 19) (n := 16) (d := 19) rfl rfl (by decide)
  have k3 := k2.cp hd (r := a + 20) (s := b + 20) (n := 4) (d := 20) rfl rfl (by decide)
  generalize jcpy (jcpy (jcpy _ (b + 18) (a + 18) 0 0 16) (b + 19) (a + 19) 0 0 16) (b + 20) (a + 20) 0 0 4 = g5 at k3 ⊢
  have l1 := k3.up hd (r := a) (f := 7) (d := 0) (v := g5 b 7) rfl (by decide) rfl
  have l2 := l1.up hd (r := a) (f := 9) (d := 0) (v := (jup g5 a 7 (g5 b 7)) b 9) rfl (by decide) rfl
  unfold St_movePlace
  simp only [Option.bind_some]
  generalize jup (jup g5 a 7 (g5 b 7)) a 9 (jup g5 a 7 (g5 b 7) b 9) = g6 at l2 ⊢
  have hab : b ≠ a := by omega
  have l3 := l2.up hd (r := a) (f := 10) (d := 0) (v := g6 b 10) rfl (by decide) rfl
  have l4 := l3.up hd (r := a) (f := 11) (d := 0) (v := g6 b 11) rfl (by decide) (by rw [Nat.add_zero, jup_ne hab])
  have l5 := l4.up hd (r := a) (f := 12) (d := 0) (v := g6 b 12) rfl (by decide) (by rw [Nat.add_zero, jup_ne hab, jup_ne hab])
  have l6 := l5.up hd (r := a) (f := 13) (d := 0) (v := g6 b 13) rfl (by decide) (by rw [Nat.add_zero, jup_ne hab, jup_ne hab, jup_ne hab])
  have l7 := l6.up hd (r := a) (f := 14) (d := 0) rfl (by decide) rfl
  have e14 := l6.src hd (z := b) (by omega) 14
  rw [e14, if_pos h14, ← e14]
  exact ⟨_, rfl, l7⟩
end CPY
