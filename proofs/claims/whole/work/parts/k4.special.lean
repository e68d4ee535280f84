/-! a call after a journal was told: seed, chance, image, what was seen, an image put on -/
section SPC
variable {T : jT} {h h' : jH} {o0 o k pl pd ns bm blk len B : Nat} {p : spPl} {nz : Int} {X : spX} {g : spG} {b : Int}
theorem CHt.hh {X' : spX} {sd : Int} (a : CHt T h o0 pl pd ns bm blk len B p nz X g) (f : RCh o0 pl h h') (r : RC T h' o0 pl ns blk len p B X') (e5 : h' o0 5 = sd) : CSt2 T o0 pl pd ns bm blk len B p nz X' (g.1, g.2.1, g.2.2.1, sd, g.2.2.2.2) h h' := by
  have hp := a.1.1.2.pos
  have epl : h' pl = h pl := f.1 pl (by omega) (by omega) (by omega) (by omega)
  have e : ∀ z, z = o0 + 1 ∨ z = o0 + 2 ∨ z = o0 + 4 ∨ z = o0 + 17 → h' z = h z := fun z hz => f.1 z (by omega) (by omega) (by omega) (by omega)
  have ef : ∀ i, i = 1 ∨ i = 3 ∨ i = 7 ∨ i = 8 → h' o0 i = h o0 i := fun i hi => f.2 i (by omega) (by omega) (by omega)
  refine ⟨fun z hz => f.1 z (by omega) (by omega) (by omega) (by omega), ?_, r, by rw [epl]; exact a.2.2.1, by rw [epl]; exact a.2.2.2.1, by rw [epl]; exact a.2.2.2.2⟩
  obtain ⟨a1, a2, a3, a4, a5, a6, a7, a8, a9⟩ := a.1
  exact ⟨a1, by rw [ef 8 (by omega)]; exact a2, by rw [e _ (by omega)]; exact a3, a4.e (ef 1 (by omega)) (e _ (by omega)), a5.e (ef 7 (by omega)) (e _ (by omega)), a6.e (ef 3 (by omega)) (e _ (by omega)), e5, by rw [e _ (by omega)]; exact a8, by rw [e _ (by omega)]; exact a9⟩
theorem MHt.hh {X' : spX} {sd : Int} (a : MHt h o ns blk len p nz X g) (f : RMh o h h') (r : RM h' o ns blk len p X') (e5 : h' o 75 = sd) : MSt2 o ns blk len p nz X' (g.1, g.2.1, g.2.2.1, sd, g.2.2.2.2) h h' := by
  have e : ∀ z, z < o ∨ (o < z ∧ z ≤ o + 1) ∨ (o + 3 ≤ z ∧ z ≤ o + 28) ∨ z = o + 38 ∨ (o + 43 ≤ z ∧ z ≤ o + 64) ∨ z = o + 68 → h' z = h z := fun z hz => f.1 z (by omega) (by omega) (by omega) (by omega) (by omega) (by omega) (by omega) (by omega) (by omega)
  have ef : ∀ i, i = 1 ∨ i = 7 ∨ i = 8 ∨ i = 66 ∨ i = 109 → h' o i = h o i := fun i hi => f.2 i (by omega) (by omega) (by omega) (by omega) (by omega) (by omega) (by omega) (by omega) (by omega) (by omega) (by omega) (by omega) (by omega) (by omega)
  refine ⟨fun z hz => e z (by omega), ?_, r, by rw [e _ (by omega)]; exact a.2.2⟩
  obtain ⟨⟨a1, a2, a3⟩, a4, a5, a6, a7, a8, a9⟩ := a.1
  obtain ⟨b1, b2, b3, b4, b5, b6, b7, b8⟩ := a2
  exact ⟨⟨a1.e (fun z z1 z2 => e z (by omega)), ⟨b1.e (e _ (by omega)), b2.e (e _ (by omega)), b3.e (e _ (by omega)), b4.e (e _ (by omega)), b5.e (e _ (by omega)), b6.e (e _ (by omega)), b7.e (e _ (by omega)), b8.e (e _ (by omega))⟩, a3.e (fun z z1 z2 => e z (by omega))⟩, a4.e (ef 1 (by omega)) (e _ (by omega)), a5.e (ef 66 (by omega)) (e _ (by omega)), a6.e (ef 109 (by omega)) (e _ (by omega)), e5, by rw [ef 7 (by omega)]; exact a8, by rw [ef 8 (by omega)]; exact a9⟩
theorem spXk_chance {n sd : Int} (hp : spPp ns blk len p) (hk : spXk ns blk len b X) (h0 : 0 ≤ sd) (h1 : sd < 2147483648) : spXk ns blk len b (spDChance p nz n sd X).2.1 ∧ 0 ≤ (spDChance p nz n sd X).2.2 ∧ (spDChance p nz n sd X).2.2 < 2147483648 := by
  unfold spDChance
  split
  · rename_i a
    have h2 := spChs_ok (nz := nz) hp hk.dim n.toNat X.1 sd 0 hk.1 (by omega) h0 h1
    exact ⟨spXk_to (spXk_rem hk) h2.1, h2.2.1, h2.2.2.1⟩
  · exact ⟨spXk_rfu hk, h0, h1⟩
theorem wt_chance {v1 : Int} (hn : jI32 v1) (ho : o = o0 + 505) (hk5 : k < 512) (w : WRt T h o0 o k) : ∃ v h1 h2, G_chance T h o0 v1 = some (v, h1) ∧ M_chance h1 o v1 = some (v, h2) ∧ WRt T h2 o0 o (k + 1) := by
  obtain ⟨pl, pd, ns, bm, blk, len, B, p, nz, X, g, b, C, M, t⟩ := w
  have hk := t.2.2.2.1
  have hg := t.1
  have hB : B ≤ 1000000 := by have := t.2.2.2.2.2.2; omega
  obtain ⟨h1, c1, c2, c3, c4⟩ := RC.chance hn t.2.2.1 hB hk C.2.1 C.1.2.2.2.2.2.2.1 hg.2.2.1 hg.2.2.2 C.2.2.2.2
  have s1 := C.hh c2 c3 c4
  have M1 := M.hi (fun z hz => s1.1 z (by omega))
  obtain ⟨h2, m1, m2, m3, m4⟩ := RM.chance hn t.2.2.1 hk M1.2.1 M1.1.2.2.2.2.1 hg.2.2.1 hg.2.2.2 M1.2.2
  have hx := spXk_chance (nz := nz) (n := v1) t.2.2.1 hk hg.2.2.1 hg.2.2.2
  exact ⟨_, h1, h2, c1, m1, WRt.mk ho s1 (M1.hh m2 m3 m4) (t.xg hx.1 ⟨hg.1, hg.2.1, hx.2.1, hx.2.2⟩)⟩
theorem wt_seed {v1 : Int} (hn : jI32 v1) (ho : o = o0 + 505) (hk5 : k < 512) (w : WRt T h o0 o k) : ∃ v h1 h2, G_seed h o0 v1 = some (v, h1) ∧ M_seed h1 o v1 = some (v, h2) ∧ WRt T h2 o0 o (k + 1) := by
  obtain ⟨pl, pd, ns, bm, blk, len, B, p, nz, X, g, b, C, M, t⟩ := w
  have hk := t.2.2.2.1
  have hg := t.1
  obtain ⟨h1, c1, c2, c3, c4⟩ := RC.seed (x := v1) C.2.1 C.1.2.2.2.2.2.2.1
  have s1 := C.hh c2 c3 c4
  have M1 := M.hi (fun z hz => s1.1 z (by omega))
  obtain ⟨h2, m1, m2, m3, m4⟩ := RM.seed (x := v1) M1.2.1 M1.1.2.2.2.2.1
  have hx : spXk ns blk len b (spDSeed v1 g.2.2.2.1 X).2.1 ∧ 0 ≤ (spDSeed v1 g.2.2.2.1 X).2.2 ∧ (spDSeed v1 g.2.2.2.1 X).2.2 < 2147483648 := by
    unfold spDSeed
    split
    · exact ⟨spXk_rfu hk, hg.2.2.1, hg.2.2.2⟩
    · exact ⟨hk, by show 0 ≤ v1; omega, by show v1 < 2147483648; have := hn.2; omega⟩
  exact ⟨_, h1, h2, c1, m1, WRt.mk ho s1 (M1.hh m2 m3 m4) (t.xg hx.1 ⟨hg.1, hg.2.1, hx.2.1, hx.2.2⟩)⟩
theorem wt_image (ho : o = o0 + 505) (hk5 : k < 512) (w : WRt T h o0 o k) : ∃ v h1 h2, G_image T h o0 = some (v, h1) ∧ M_image h1 o = some (v, h2) ∧ WRt T h2 o0 o (k + 1) := by
  obtain ⟨pl, pd, ns, bm, blk, len, B, p, nz, X, g, b, C, M, t⟩ := w
  have hk := t.2.2.2.1
  have hg := t.1
  have hp := C.1.1.2.pos
  obtain ⟨h1, c1, c2, c3, c4⟩ := C.2.1.image hk
  have s1 : CSt2 T o0 pl pd ns bm blk len B p nz X (g.1, g.2.1, spIm ns len X.1, g.2.2.2) h h1 := by
    have e : ∀ z, z ≠ o0 → z ≠ o0 + 2 → h1 z = h z := c2.1
    obtain ⟨a1, a2, a3, a4, a5, a6, a7, a8, a9⟩ := C.1
    exact ⟨fun z hz => e z (by omega) (by omega), ⟨a1, by rw [c2.2 8 (by omega)]; exact a2, by rw [e _ (by omega) (by omega)]; exact a3, a4.e (c2.2 1 (by omega)) (e _ (by omega) (by omega)), a5.e (c2.2 7 (by omega)) (e _ (by omega) (by omega)), c4, by rw [c2.2 5 (by omega)]; exact a7, by rw [e _ (by omega) (by omega)]; exact a8, by rw [e _ (by omega) (by omega)]; exact a9⟩, c3, by rw [e _ (by omega) (by omega)]; exact C.2.2.1, by rw [e _ (by omega) (by omega)]; exact C.2.2.2.1, by rw [e _ (by omega) (by omega)]; exact C.2.2.2.2⟩
  have M1 := M.hi (fun z hz => s1.1 z (by omega))
  obtain ⟨h2, m1, m2, m3, m4⟩ := M1.2.1.image hk
  have s2 : MSt2 o ns blk len p nz X (g.1, g.2.1, spIm ns len X.1, g.2.2.2) h1 h2 := by
    have e : ∀ z, z ≠ o → z ≠ o + 68 → h2 z = h1 z := m2.1
    obtain ⟨⟨a1, a2, a3⟩, a4, a5, a6, a7, a8, a9⟩ := M1.1
    obtain ⟨b1, b2, b3, b4, b5, b6, b7, b8⟩ := a2
    exact ⟨fun z hz => e z (by omega) (by omega), ⟨⟨a1.e (fun z z1 z2 => e z (by omega) (by omega)), ⟨b1.e (e _ (by omega) (by omega)), b2.e (e _ (by omega) (by omega)), b3.e (e _ (by omega) (by omega)), b4.e (e _ (by omega) (by omega)), b5.e (e _ (by omega) (by omega)), b6.e (e _ (by omega) (by omega)), b7.e (e _ (by omega) (by omega)), b8.e (e _ (by omega) (by omega))⟩, a3.e (fun z z1 z2 => e z (by omega) (by omega))⟩, a4.e (m2.2 1 (by omega)) (e _ (by omega) (by omega)), a5.e (m2.2 66 (by omega)) (e _ (by omega) (by omega)), m4, by rw [m2.2 75 (by omega)]; exact a7, by rw [m2.2 7 (by omega)]; exact a8, by rw [m2.2 8 (by omega)]; exact a9⟩, m3, by rw [e _ (by omega) (by omega)]; exact M1.2.2⟩
  exact ⟨_, h1, h2, c1, m1, WRt.mk ho s1 s2 (t.xg hk ⟨hg.1, hg.2.1, hg.2.2.1, hg.2.2.2⟩)⟩
theorem CHt.ga (a : CHt T h o0 pl pd ns bm blk len B p nz X g) (f : GAf o0 h h') (r : RC T h' o0 pl ns blk len p B X) : CSt2 T o0 pl pd ns bm blk len B p nz X g h h' := by
  have hp := a.1.1.2.pos
  have e : ∀ z, z ≠ o0 → z < o0 + 57 → h' z = h z := fun z z1 z2 => f.1 z z1 (by omega) (by omega) (by omega) (by omega)
  exact ⟨fun z hz => f.1 z (by omega) (by omega) (by omega) (by omega) (by omega), a.1.e (fun z hz => e z (by omega) (by omega)) (fun i hi => f.2 i (by omega)), r, by rw [e _ (by omega) (by omega)]; exact a.2.2.1, by rw [e _ (by omega) (by omega)]; exact a.2.2.2.1, by rw [e _ (by omega) (by omega)]; exact a.2.2.2.2⟩
theorem MHt.la (a : MHt h o ns blk len p nz X g) (f : LAf o h h') (r : RM h' o ns blk len p X) : MSt2 o ns blk len p nz X g h h' :=
  ⟨fun z hz => f.1 z (by omega) (by omega) (by omega) (by omega) (by omega) (by omega) (by omega), a.1.e (fun z hz => f.1 z (by omega) (by omega) (by omega) (by omega) (by omega) (by omega) (by omega)) (fun i hi => f.2 i (by omega) (by omega) (by omega)), r, by rw [f.1 _ (by omega) (by omega) (by omega) (by omega) (by omega) (by omega) (by omega)]; exact a.2.2⟩
theorem wt_arrived {v1 : Int} (ho : o = o0 + 505) (hk5 : k < 512) (w : WRt T h o0 o k) : ∃ v h1 h2, G_arrived T h o0 v1 = some (v, h1) ∧ M_arrived h1 o v1 = some (v, h2) ∧ WRt T h2 o0 o (k + 1) := by
  obtain ⟨pl, pd, ns, bm, blk, len, B, p, nz, X, g, b, C, M, t⟩ := w
  have hk := t.2.2.2.1
  have hg := t.1
  obtain ⟨h1, c1, c2, c3⟩ := RC.arrived (k := v1) C.1.2.2.2.2.1 hg.2.1 hk C.2.1
  have s1 := C.ga c2 c3
  have M1 := M.hi (fun z hz => s1.1 z (by omega))
  obtain ⟨h2, m1, m2, m3⟩ := RM.arrived (k := v1) M1.1.2.2.1 hg.2.1 hk M1.2.1
  exact ⟨_, h1, h2, c1, m1, WRt.mk ho s1 (M1.la m2 m3) t.up⟩
theorem wt_tells {v1 : Int} (ho : o = o0 + 505) (hk5 : k < 512) (w : WRt T h o0 o k) : ∃ v h1 h2, G_tells T h o0 v1 = some (v, h1) ∧ M_tells h1 o v1 = some (v, h2) ∧ WRt T h2 o0 o (k + 1) := by
  obtain ⟨pl, pd, ns, bm, blk, len, B, p, nz, X, g, b, C, M, t⟩ := w
  have hk := t.2.2.2.1
  have hg := t.1
  obtain ⟨h1, c1, c2, c3⟩ := RC.tells (v := v1) C.1.2.2.2.2.1 hg.2.1 hk C.2.1
  have s1 := C.ga c2 c3
  have M1 := M.hi (fun z hz => s1.1 z (by omega))
  obtain ⟨h2, m1, m2, m3⟩ := RM.tells (v := v1) M1.1.2.2.1 hg.2.1 hk M1.2.1
  exact ⟨_, h1, h2, c1, m1, WRt.mk ho s1 (M1.la m2 m3) t.up⟩
/-- the tape is taken -/
theorem CHt.tape0 (a : CHt T h o0 pl pd ns bm blk len B p nz X g) : CHt T (jup h o0 1 0) o0 pl pd ns bm blk len B p nz X ([], g.2) := by
  have hp := a.1.1.2.pos
  have e : ∀ z, z ≠ o0 → (jup h o0 1 0) z = h z := fun z hz => jup_ne hz
  have ef : ∀ f, f ≠ 1 → (jup h o0 1 0) o0 f = h o0 f := fun f hf => ju_ne hf
  refine ⟨?_, a.2.1.off (fun z hz => e z (by omega)) (fun f hf => ef f (by omega)), by rw [e _ (by omega)]; exact a.2.2.1, by rw [e _ (by omega)]; exact a.2.2.2.1, by rw [e _ (by omega)]; exact a.2.2.2.2⟩
  obtain ⟨a1, a2, a3, a4, a5, a6, a7, a8, a9⟩ := a.1
  exact ⟨a1, by rw [ef 8 (by omega)]; exact a2, by rw [e _ (by omega)]; exact a3, CTa.nil ju_eq, a5.e (ef 7 (by omega)) (e _ (by omega)), a6.e (ef 3 (by omega)) (e _ (by omega)), by rw [ef 5 (by omega)]; exact a7, by rw [e _ (by omega)]; exact a8, by rw [e _ (by omega)]; exact a9⟩
theorem MHt.tape0 (a : MHt h o ns blk len p nz X g) : MHt (jup h o 1 0) o ns blk len p nz X ([], g.2) := by
  have e : ∀ z, z ≠ o → (jup h o 1 0) z = h z := fun z hz => jup_ne hz
  have ef : ∀ f, f ≠ 1 → (jup h o 1 0) o f = h o f := fun f hf => ju_ne hf
  refine ⟨?_, a.2.1.off (fun z hz => e z (by omega)) (fun f hf => ef f (by omega)), by rw [e _ (by omega)]; exact a.2.2⟩
  obtain ⟨⟨a1, a2, a3⟩, a4, a5, a6, a7, a8, a9⟩ := a.1
  obtain ⟨b1, b2, b3, b4, b5, b6, b7, b8⟩ := a2
  exact ⟨⟨a1.e (fun z z1 z2 => e z (by omega)), ⟨b1.e (e _ (by omega)), b2.e (e _ (by omega)), b3.e (e _ (by omega)), b4.e (e _ (by omega)), b5.e (e _ (by omega)), b6.e (e _ (by omega)), b7.e (e _ (by omega)), b8.e (e _ (by omega))⟩, a3.e (fun z z1 z2 => e z (by omega))⟩, CTa.nil ju_eq, a5.e (ef 66 (by omega)) (e _ (by omega)), a6.e (ef 109 (by omega)) (e _ (by omega)), by rw [ef 75 (by omega)]; exact a7, by rw [ef 7 (by omega)]; exact a8, by rw [ef 8 (by omega)]; exact a9⟩
theorem spGok.nil (hg : spGok g) : spGok ([], g.2) := ⟨fun v hv => absurd hv List.not_mem_nil, hg.2⟩
theorem CSt2.t0 {X' : spX} {g' : spG} (s : CSt2 T o0 pl pd ns bm blk len B p nz X' g' (jup h o0 1 0) h') : CSt2 T o0 pl pd ns bm blk len B p nz X' g' h h' := ⟨fun z hz => by rw [s.1 z hz, jup_ne (by omega)], s.2⟩
theorem MSt2.t0 {X' : spX} {g' : spG} (s : MSt2 o ns blk len p nz X' g' (jup h o 1 0) h') : MSt2 o ns blk len p nz X' g' h h' := ⟨fun z hz => by rw [s.1 z hz, jup_ne (by omega)], s.2⟩
theorem wt_see (ho : o = o0 + 505) (hk5 : k < 512) (w : WRt T h o0 o k) : ∃ v h1 h2, G_see T h o0 = some (v, h1) ∧ M_see h1 o = some (v, h2) ∧ WRt T h2 o0 o (k + 1) := by
  obtain ⟨pl, pd, ns, bm, blk, len, B, p, nz, X, g, b, C, M, t⟩ := w
  have hk := t.2.2.2.1
  have hg := t.1
  have hp := C.1.1.2.pos
  by_cases hs : spSees g.1
  · obtain ⟨h1, c1, c2, c3, c4, c5⟩ := RC.see_yes hk.dim hg.1 C.1.2.2.2.1 hs C.2.1
    have s1 : CSt2 T o0 pl pd ns bm blk len B p nz X ([], spRows g.1 (g.1.length / 3), g.2.2) h h1 := by
      have e : ∀ z, z ≠ o0 → z ≠ o0 + 4 → h1 z = h z := c2.1
      have ef : ∀ f, f ≠ 1 → f ≠ 7 → h1 o0 f = h o0 f := c2.2
      obtain ⟨a1, a2, a3, a4, a5, a6, a7, a8, a9⟩ := C.1
      exact ⟨fun z hz => e z (by omega) (by omega), ⟨a1, by rw [ef 8 (by omega) (by omega)]; exact a2, by rw [e _ (by omega) (by omega)]; exact a3, c4, c5, a6.e (ef 3 (by omega) (by omega)) (e _ (by omega) (by omega)), by rw [ef 5 (by omega) (by omega)]; exact a7, by rw [e _ (by omega) (by omega)]; exact a8, by rw [e _ (by omega) (by omega)]; exact a9⟩, c3, by rw [e _ (by omega) (by omega)]; exact C.2.2.1, by rw [e _ (by omega) (by omega)]; exact C.2.2.2.1, by rw [e _ (by omega) (by omega)]; exact C.2.2.2.2⟩
    have M1 := M.hi (fun z hz => s1.1 z (by omega))
    obtain ⟨h2, m1, m2, m3, m4, m5⟩ := RM.see_yes hk.dim hg.1 M1.1.2.1 hs M1.2.1
    have s2 : MSt2 o ns blk len p nz X ([], spRows g.1 (g.1.length / 3), g.2.2) h1 h2 := by
      have e : ∀ z, z ≠ o → z ≠ o + 38 → h2 z = h1 z := m2.1
      have ef : ∀ f, f ≠ 1 → f ≠ 66 → h2 o f = h1 o f := m2.2
      obtain ⟨⟨a1, a2, a3⟩, a4, a5, a6, a7, a8, a9⟩ := M1.1
      obtain ⟨b1, b2, b3, b4, b5, b6, b7, b8⟩ := a2
      exact ⟨fun z hz => e z (by omega) (by omega), ⟨⟨a1.e (fun z z1 z2 => e z (by omega) (by omega)), ⟨b1.e (e _ (by omega) (by omega)), b2.e (e _ (by omega) (by omega)), b3.e (e _ (by omega) (by omega)), b4.e (e _ (by omega) (by omega)), b5.e (e _ (by omega) (by omega)), b6.e (e _ (by omega) (by omega)), b7.e (e _ (by omega) (by omega)), b8.e (e _ (by omega) (by omega))⟩, a3.e (fun z z1 z2 => e z (by omega) (by omega))⟩, m4, m5, a6.e (ef 109 (by omega) (by omega)) (e _ (by omega) (by omega)), by rw [ef 75 (by omega) (by omega)]; exact a7, by rw [ef 7 (by omega) (by omega)]; exact a8, by rw [ef 8 (by omega) (by omega)]; exact a9⟩, m3, by rw [e _ (by omega) (by omega)]; exact M1.2.2⟩
    exact ⟨_, h1, h2, c1, m1, WRt.mk ho s1 s2 (t.xg hk ⟨fun v hv => absurd hv List.not_mem_nil, spRows_ok hg.1 hs, hg.2.2.1, hg.2.2.2⟩)⟩
  · obtain ⟨h1, c1, c2, c3, c4⟩ := RC.see_no hk.dim hg.1 C.1.2.2.2.1 hs C.2.1
    have s1 := (C.tape0.f c2 c3).t0
    have M1 := M.hi (fun z hz => s1.1 z (by omega))
    obtain ⟨h2, m1, m2, m3, m4⟩ := RM.see_no hg.1 M1.1.2.1 hs M1.2.1
    exact ⟨_, h1, h2, c1, m1, WRt.mk ho s1 (M1.tape0.f m2 m3).t0 (t.xg (spXk_rfu hk) hg.nil)⟩
theorem wt_on (ho : o = o0 + 505) (hk5 : k < 512) (w : WRt T h o0 o k) : ∃ v h1 h2, G_on T h o0 = some (v, h1) ∧ M_on h1 o = some (v, h2) ∧ WRt T h2 o0 o (k + 1) := by
  obtain ⟨pl, pd, ns, bm, blk, len, B, p, nz, X, g, b, C, M, t⟩ := w
  have hk := t.2.2.2.1
  have hg := t.1
  have hp := C.1.1.2.pos
  by_cases hs : spImg ns len g.1
  · obtain ⟨h1, c1, c2, c3, c4, c5⟩ := RC.on_yes hk.dim hg.1 C.1.2.2.2.1 hs C.2.1 C.2.2.1 C.2.2.2.1 t.2.1
    have s1 : CSt2 T o0 pl pd ns bm blk len B p nz (spOnS ns blk len g.1, [], X.2.2) ([], g.2) h h1 := by
      have e : ∀ z, z ≠ o0 → (z < o0 + 35 ∨ o0 + 82 < z) → h1 z = h z := c2
      have ef : ∀ f, f ≠ 1 → f ≠ 13 → h1 o0 f = h o0 f := c3
      obtain ⟨a1, a2, a3, a4, a5, a6, a7, a8, a9⟩ := C.1
      exact ⟨fun z hz => e z (by omega) (by omega), ⟨a1, by rw [ef 8 (by omega) (by omega)]; exact a2, by rw [e _ (by omega) (by omega)]; exact a3, c5, a5.e (ef 7 (by omega) (by omega)) (e _ (by omega) (by omega)), a6.e (ef 3 (by omega) (by omega)) (e _ (by omega) (by omega)), by rw [ef 5 (by omega) (by omega)]; exact a7, by rw [e _ (by omega) (by omega)]; exact a8, by rw [e _ (by omega) (by omega)]; exact a9⟩, c4, by rw [e _ (by omega) (by omega)]; exact C.2.2.1, by rw [e _ (by omega) (by omega)]; exact C.2.2.2.1, by rw [e _ (by omega) (by omega)]; exact C.2.2.2.2⟩
    have M1 := M.hi (fun z hz => s1.1 z (by omega))
    obtain ⟨h2, m1, m2, m3, m4, m5⟩ := RM.on_yes hk.dim hg.1 M1.1.2.1 hs M1.2.1
    have s2 : MSt2 o ns blk len p nz (spOnS ns blk len g.1, [], X.2.2) ([], g.2) h1 h2 := by
      have e : ∀ z, z ≠ o → z ≠ o + 33 → z ≠ o + 37 → h2 z = h1 z := m2
      have ef : ∀ f, f ≠ 1 → f ≠ 73 → (f < 59 ∨ 65 < f) → h2 o f = h1 o f := m3
      obtain ⟨⟨a1, a2, a3⟩, a4, a5, a6, a7, a8, a9⟩ := M1.1
      obtain ⟨b1, b2, b3, b4, b5, b6, b7, b8⟩ := a2
      exact ⟨fun z hz => e z (by omega) (by omega) (by omega), ⟨⟨a1.e (fun z z1 z2 => e z (by omega) (by omega) (by omega)), ⟨b1.e (e _ (by omega) (by omega) (by omega)), b2.e (e _ (by omega) (by omega) (by omega)), b3.e (e _ (by omega) (by omega) (by omega)), b4.e (e _ (by omega) (by omega) (by omega)), b5.e (e _ (by omega) (by omega) (by omega)), b6.e (e _ (by omega) (by omega) (by omega)), b7.e (e _ (by omega) (by omega) (by omega)), b8.e (e _ (by omega) (by omega) (by omega))⟩, a3.e (fun z z1 z2 => e z (by omega) (by omega) (by omega))⟩, m5, a5.e (ef 66 (by omega) (by omega) (by omega)) (e _ (by omega) (by omega) (by omega)), a6.e (ef 109 (by omega) (by omega) (by omega)) (e _ (by omega) (by omega) (by omega)), by rw [ef 75 (by omega) (by omega) (by omega)]; exact a7, by rw [ef 7 (by omega) (by omega) (by omega)]; exact a8, by rw [ef 8 (by omega) (by omega) (by omega)]; exact a9⟩, m4, by rw [e _ (by omega) (by omega) (by omega)]; exact M1.2.2⟩
    exact ⟨_, h1, h2, c1, m1, WRt.mk ho s1 s2 (t.xg ⟨spOnS_ok hk.dim hg.1 hs t.2.2.2.2.1 (by have := t.2.2.2.2.2.1; omega), fun x hx => absurd hx List.not_mem_nil⟩ hg.nil)⟩
  · obtain ⟨h1, c1, c2, c3, c4⟩ := RC.on_no hk.dim hg.1 C.1.2.2.2.1 hs C.2.1
    have s1 := (C.tape0.f c2 c3).t0
    have M1 := M.hi (fun z hz => s1.1 z (by omega))
    obtain ⟨h2, m1, m2, m3, m4⟩ := RM.on_no hk.dim hg.1 M1.1.2.1 hs M1.2.1
    exact ⟨_, h1, h2, c1, m1, WRt.mk ho s1 (M1.tape0.f m2 m3).t0 (t.xg (spXk_rfu hk) hg.nil)⟩
end SPC
