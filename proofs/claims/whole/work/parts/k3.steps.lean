/-! a call after a journal was told: the calls that go by RC.x and RM.x -/
/-- what holds of the data -/
def TDk (ns bm blk len B : Nat) (p : spPl) (X : spX) (g : spG) (b : Int) (k : Nat) : Prop := spGok g ∧ bm * blk = len ∧ spPp ns blk len p ∧ spXk ns blk len b X ∧ 66200 ≤ b ∧ b ≤ 66200 + (k : Int) ∧ B ≤ k
def WRt (T : jT) (h : jH) (o0 o k : Nat) : Prop := ∃ (pl pd ns bm blk len B : Nat) (p : spPl) (nz : Int) (X : spX) (g : spG) (b : Int), CHt T h o0 pl pd ns bm blk len B p nz X g ∧ MHt h o ns blk len p nz X g ∧ TDk ns bm blk len B p X g b k
section STP
variable {T : jT} {h : jH} {o0 o k : Nat}
theorem TDk.up {ns bm blk len B : Nat} {p : spPl} {X : spX} {g : spG} {b : Int} (t : TDk ns bm blk len B p X g b k) : TDk ns bm blk len B p X g b (k + 1) := ⟨t.1, t.2.1, t.2.2.1, t.2.2.2.1, t.2.2.2.2.1, by have := t.2.2.2.2.2.1; omega, by have := t.2.2.2.2.2.2; omega⟩
theorem TDk.x {ns bm blk len B : Nat} {p : spPl} {X X' : spX} {g : spG} {b : Int} (t : TDk ns bm blk len B p X g b k) (hk : spXk ns blk len b X') : TDk ns bm blk len B p X' g b (k + 1) := ⟨t.1, t.2.1, t.2.2.1, hk, t.2.2.2.2.1, by have := t.2.2.2.2.2.1; omega, by have := t.2.2.2.2.2.2; omega⟩
theorem TDk.xg {ns bm blk len B : Nat} {p : spPl} {X X' : spX} {g g' : spG} {b : Int} (t : TDk ns bm blk len B p X g b k) (hk : spXk ns blk len b X') (hg : spGok g') : TDk ns bm blk len B p X' g' b (k + 1) := ⟨hg, t.2.1, t.2.2.1, hk, t.2.2.2.2.1, by have := t.2.2.2.2.2.1; omega, by have := t.2.2.2.2.2.2; omega⟩
theorem TDk.xB {ns bm blk len B : Nat} {p : spPl} {X X' : spX} {g : spG} {b : Int} (t : TDk ns bm blk len B p X g b k) (hk : spXk ns blk len b X') : TDk ns bm blk len (B + 1) p X' g b (k + 1) := ⟨t.1, t.2.1, t.2.2.1, hk, t.2.2.2.2.1, by have := t.2.2.2.2.2.1; omega, by have := t.2.2.2.2.2.2; omega⟩
theorem TDk.xb {ns bm blk len B : Nat} {p : spPl} {X X' : spX} {g : spG} {b : Int} (t : TDk ns bm blk len B p X g b k) (hk : spXk ns blk len (b + 1) X') : TDk ns bm blk len B p X' g (b + 1) (k + 1) := ⟨t.1, t.2.1, t.2.2.1, hk, by have := t.2.2.2.2.1; omega, by have := t.2.2.2.2.2.1; omega, by have := t.2.2.2.2.2.2; omega⟩
theorem WRt.mk {h1 h2 : jH} {pl pd ns bm blk len B : Nat} {p : spPl} {nz : Int} {X : spX} {g : spG} {b : Int} (ho : o = o0 + 505) (s1 : CSt2 T o0 pl pd ns bm blk len B p nz X g h h1) (s2 : MSt2 o ns blk len p nz X g h1 h2) (t : TDk ns bm blk len B p X g b (k + 1)) : WRt T h2 o0 o (k + 1) := ⟨pl, pd, ns, bm, blk, len, B, p, nz, X, g, b, s1.2.lo (fun z hz => s2.1 z (by omega)), s2.2, t⟩
theorem WRt.up (w : WRt T h o0 o k) : WRt T h o0 o (k + 1) := by
  obtain ⟨pl, pd, ns, bm, blk, len, B, p, nz, X, g, b, C, M, t⟩ := w
  exact ⟨pl, pd, ns, bm, blk, len, B, p, nz, X, g, b, C, M, t.up⟩
theorem wt_append {v1 v2 v3 : Int} (ho : o = o0 + 505) (hk5 : k < 512) (w : WRt T h o0 o k) : ∃ v h1 h2, G_append T h o0 v1 v2 v3 = some (v, h1) ∧ M_append h1 o v1 v2 v3 = some (v, h2) ∧ WRt T h2 o0 o (k + 1) := by
  obtain ⟨pl, pd, ns, bm, blk, len, B, p, nz, X, g, b, C, M, t⟩ := w
  have hk := t.2.2.2.1
  have hB : B ≤ 1000000 := by have := t.2.2.2.2.2.2; omega
  obtain ⟨h1, c1, c2, c3⟩ := C.2.1.append hk
  have s1 := C.f c2 c3
  have M1 := M.hi (fun z hz => s1.1 z (by omega))
  obtain ⟨h2, m1, m2, m3⟩ := M1.2.1.append hk
  exact ⟨_, h1, h2, c1, m1, WRt.mk ho s1 (M1.f m2 m3) (t.xb (spXk_append (by have := t.2.2.2.2.2.1; omega) hk))⟩
theorem wt_crash {v1 : Int} (ho : o = o0 + 505) (hk5 : k < 512) (w : WRt T h o0 o k) : ∃ v h1 h2, G_crash T h o0 v1 = some (v, h1) ∧ M_crash h1 o v1 = some (v, h2) ∧ WRt T h2 o0 o (k + 1) := by
  obtain ⟨pl, pd, ns, bm, blk, len, B, p, nz, X, g, b, C, M, t⟩ := w
  have hk := t.2.2.2.1
  have hB : B ≤ 1000000 := by have := t.2.2.2.2.2.2; omega
  obtain ⟨h1, c1, c2, c3⟩ := C.2.1.crash hk t.2.2.2.2.1
  have s1 := C.f c2 c3
  have M1 := M.hi (fun z hz => s1.1 z (by omega))
  obtain ⟨h2, m1, m2, m3⟩ := M1.2.1.crash hk t.2.2.2.2.1
  exact ⟨_, h1, h2, c1, m1, WRt.mk ho s1 (M1.f m2 m3) (t.x (spXk_crash t.2.2.2.2.1 hk))⟩
theorem wt_snap (ho : o = o0 + 505) (hk5 : k < 512) (w : WRt T h o0 o k) : ∃ v h1 h2, G_snap T h o0 = some (v, h1) ∧ M_snap h1 o = some (v, h2) ∧ WRt T h2 o0 o (k + 1) := by
  obtain ⟨pl, pd, ns, bm, blk, len, B, p, nz, X, g, b, C, M, t⟩ := w
  have hk := t.2.2.2.1
  have hB : B ≤ 1000000 := by have := t.2.2.2.2.2.2; omega
  obtain ⟨h1, c1, c2, c3⟩ := C.2.1.snap hk
  have s1 := C.f c2 c3
  have M1 := M.hi (fun z hz => s1.1 z (by omega))
  obtain ⟨h2, m1, m2, m3⟩ := M1.2.1.snap hk
  exact ⟨_, h1, h2, c1, m1, WRt.mk ho s1 (M1.f m2 m3) (t.x (spXk_snap hk))⟩
theorem wt_flip {v1 v2 : Int} (ho : o = o0 + 505) (hk5 : k < 512) (w : WRt T h o0 o k) : ∃ v h1 h2, G_flip T h o0 v1 v2 = some (v, h1) ∧ M_flip h1 o v1 v2 = some (v, h2) ∧ WRt T h2 o0 o (k + 1) := by
  obtain ⟨pl, pd, ns, bm, blk, len, B, p, nz, X, g, b, C, M, t⟩ := w
  have hk := t.2.2.2.1
  have hB : B ≤ 1000000 := by have := t.2.2.2.2.2.2; omega
  obtain ⟨h1, c1, c2, c3⟩ := C.2.1.flip hk
  have s1 := C.f c2 c3
  have M1 := M.hi (fun z hz => s1.1 z (by omega))
  obtain ⟨h2, m1, m2, m3⟩ := M1.2.1.flip hk
  exact ⟨_, h1, h2, c1, m1, WRt.mk ho s1 (M1.f m2 m3) (t.x (spXk_flip hk))⟩
theorem wt_waits {v1 v2 : Int} (ho : o = o0 + 505) (hk5 : k < 512) (w : WRt T h o0 o k) : ∃ v h1 h2, G_waits T h o0 v1 v2 = some (v, h1) ∧ M_waits h1 o v1 v2 = some (v, h2) ∧ WRt T h2 o0 o (k + 1) := by
  obtain ⟨pl, pd, ns, bm, blk, len, B, p, nz, X, g, b, C, M, t⟩ := w
  have hk := t.2.2.2.1
  have hB : B ≤ 1000000 := by have := t.2.2.2.2.2.2; omega
  obtain ⟨h1, c1, c2, c3⟩ := C.2.1.waits hk
  have s1 := C.f c2 c3
  have M1 := M.hi (fun z hz => s1.1 z (by omega))
  obtain ⟨h2, m1, m2, m3⟩ := M1.2.1.waits hk
  exact ⟨_, h1, h2, c1, m1, WRt.mk ho s1 (M1.f m2 m3) (t.xB (spXk_waits hk))⟩
theorem wt_giveUp (ho : o = o0 + 505) (hk5 : k < 512) (w : WRt T h o0 o k) : ∃ v h1 h2, G_giveUp T h o0 = some (v, h1) ∧ M_giveUp h1 o = some (v, h2) ∧ WRt T h2 o0 o (k + 1) := by
  obtain ⟨pl, pd, ns, bm, blk, len, B, p, nz, X, g, b, C, M, t⟩ := w
  have hk := t.2.2.2.1
  have hB : B ≤ 1000000 := by have := t.2.2.2.2.2.2; omega
  obtain ⟨h1, c1, c2, c3⟩ := C.2.1.giveUp hk
  have s1 := C.f c2 c3
  have M1 := M.hi (fun z hz => s1.1 z (by omega))
  obtain ⟨h2, m1, m2, m3⟩ := M1.2.1.giveUp hk
  exact ⟨_, h1, h2, c1, m1, WRt.mk ho s1 (M1.f m2 m3) (t.x (spXk_give hk))⟩
theorem wt_undo (ho : o = o0 + 505) (hk5 : k < 512) (w : WRt T h o0 o k) : ∃ v h1 h2, G_undo T h o0 = some (v, h1) ∧ M_undo h1 o = some (v, h2) ∧ WRt T h2 o0 o (k + 1) := by
  obtain ⟨pl, pd, ns, bm, blk, len, B, p, nz, X, g, b, C, M, t⟩ := w
  have hk := t.2.2.2.1
  have hB : B ≤ 1000000 := by have := t.2.2.2.2.2.2; omega
  obtain ⟨h1, c1, c2, c3⟩ := C.2.1.undo hk
  have s1 := C.f c2 c3
  have M1 := M.hi (fun z hz => s1.1 z (by omega))
  obtain ⟨h2, m1, m2, m3⟩ := M1.2.1.undo hk
  exact ⟨_, h1, h2, c1, m1, WRt.mk ho s1 (M1.f m2 m3) (t.x (spXk_undo hk))⟩
theorem wt_ticks {v1 : Int} (hn : jI32 v1) (ho : o = o0 + 505) (hk5 : k < 512) (w : WRt T h o0 o k) : ∃ v h1 h2, G_ticks T h o0 v1 = some (v, h1) ∧ M_ticks h1 o v1 = some (v, h2) ∧ WRt T h2 o0 o (k + 1) := by
  obtain ⟨pl, pd, ns, bm, blk, len, B, p, nz, X, g, b, C, M, t⟩ := w
  have hk := t.2.2.2.1
  have hB : B ≤ 1000000 := by have := t.2.2.2.2.2.2; omega
  obtain ⟨h1, c1, c2, c3⟩ := C.2.1.ticks hn t.2.2.1 hB hk
  have s1 := C.f c2 c3
  have M1 := M.hi (fun z hz => s1.1 z (by omega))
  obtain ⟨h2, m1, m2, m3⟩ := M1.2.1.ticks hn t.2.2.1 hk
  exact ⟨_, h1, h2, c1, m1, WRt.mk ho s1 (M1.f m2 m3) (t.x (spXk_ticks t.2.2.1 hk))⟩
theorem wt_later {v1 v2 : Int} (hn : jI32 v1) (ho : o = o0 + 505) (hk5 : k < 512) (w : WRt T h o0 o k) : ∃ v h1 h2, G_later T h o0 v1 v2 = some (v, h1) ∧ M_later h1 o v1 v2 = some (v, h2) ∧ WRt T h2 o0 o (k + 1) := by
  obtain ⟨pl, pd, ns, bm, blk, len, B, p, nz, X, g, b, C, M, t⟩ := w
  have hk := t.2.2.2.1
  have hB : B ≤ 1000000 := by have := t.2.2.2.2.2.2; omega
  obtain ⟨h1, c1, c2, c3⟩ := C.2.1.later hn t.2.2.1 hB hk
  have s1 := C.f c2 c3
  have M1 := M.hi (fun z hz => s1.1 z (by omega))
  obtain ⟨h2, m1, m2, m3⟩ := M1.2.1.later hn t.2.2.1 hk
  exact ⟨_, h1, h2, c1, m1, WRt.mk ho s1 (M1.f m2 m3) (t.up)⟩
theorem wt_recovers {v1 v2 : Int} (ho : o = o0 + 505) (hk5 : k < 512) (w : WRt T h o0 o k) : ∃ v h1 h2, G_recovers T h o0 v1 v2 = some (v, h1) ∧ M_recovers h1 o v1 v2 = some (v, h2) ∧ WRt T h2 o0 o (k + 1) := by
  obtain ⟨pl, pd, ns, bm, blk, len, B, p, nz, X, g, b, C, M, t⟩ := w
  have hk := t.2.2.2.1
  have hB : B ≤ 1000000 := by have := t.2.2.2.2.2.2; omega
  obtain ⟨h1, c1, c2, c3⟩ := C.2.1.recovers hk
  have s1 := C.f c2 c3
  have M1 := M.hi (fun z hz => s1.1 z (by omega))
  obtain ⟨h2, m1, m2, m3⟩ := M1.2.1.recovers hk
  exact ⟨_, h1, h2, c1, m1, WRt.mk ho s1 (M1.f m2 m3) (t.up)⟩
theorem wt_when {v1 : Int} (ho : o = o0 + 505) (hk5 : k < 512) (w : WRt T h o0 o k) : ∃ v h1 h2, G_when T h o0 v1 = some (v, h1) ∧ M_when h1 o v1 = some (v, h2) ∧ WRt T h2 o0 o (k + 1) := by
  obtain ⟨pl, pd, ns, bm, blk, len, B, p, nz, X, g, b, C, M, t⟩ := w
  have hk := t.2.2.2.1
  have hB : B ≤ 1000000 := by have := t.2.2.2.2.2.2; omega
  obtain ⟨h1, c1, c2, c3⟩ := C.2.1.when t.2.2.1 hB hk
  have s1 := C.f c2 c3
  have M1 := M.hi (fun z hz => s1.1 z (by omega))
  obtain ⟨h2, m1, m2, m3⟩ := M1.2.1.when t.2.2.1 hk
  exact ⟨_, h1, h2, c1, m1, WRt.mk ho s1 (M1.f m2 m3) (t.up)⟩
theorem wt_rule {v1 v2 : Int} (ho : o = o0 + 505) (hk5 : k < 512) (w : WRt T h o0 o k) : ∃ v h1 h2, G_rule T h o0 v1 v2 = some (v, h1) ∧ M_rule h1 o v1 v2 = some (v, h2) ∧ WRt T h2 o0 o (k + 1) := by
  obtain ⟨pl, pd, ns, bm, blk, len, B, p, nz, X, g, b, C, M, t⟩ := w
  have hk := t.2.2.2.1
  have hB : B ≤ 1000000 := by have := t.2.2.2.2.2.2; omega
  obtain ⟨h1, c1, c2, c3⟩ := C.2.1.rule t.2.2.1 hB hk
  have s1 := C.f c2 c3
  have M1 := M.hi (fun z hz => s1.1 z (by omega))
  obtain ⟨h2, m1, m2, m3⟩ := M1.2.1.rule t.2.2.1 hk
  exact ⟨_, h1, h2, c1, m1, WRt.mk ho s1 (M1.f m2 m3) (t.up)⟩
theorem wt_best {v1 : Int} (ho : o = o0 + 505) (hk5 : k < 512) (w : WRt T h o0 o k) : ∃ v h1 h2, G_best T h o0 v1 = some (v, h1) ∧ M_best h1 o v1 = some (v, h2) ∧ WRt T h2 o0 o (k + 1) := by
  obtain ⟨pl, pd, ns, bm, blk, len, B, p, nz, X, g, b, C, M, t⟩ := w
  have hk := t.2.2.2.1
  have hB : B ≤ 1000000 := by have := t.2.2.2.2.2.2; omega
  obtain ⟨h1, c1, c2, c3⟩ := C.2.1.best t.2.2.1 hB hk
  have s1 := C.f c2 c3
  have M1 := M.hi (fun z hz => s1.1 z (by omega))
  obtain ⟨h2, m1, m2, m3⟩ := M1.2.1.best t.2.2.1 hk
  exact ⟨_, h1, h2, c1, m1, WRt.mk ho s1 (M1.f m2 m3) (t.up)⟩
theorem wt_flips {v1 : Int} (ho : o = o0 + 505) (hk5 : k < 512) (w : WRt T h o0 o k) : ∃ v h1 h2, G_flips T h o0 v1 = some (v, h1) ∧ M_flips h1 o v1 = some (v, h2) ∧ WRt T h2 o0 o (k + 1) := by
  obtain ⟨pl, pd, ns, bm, blk, len, B, p, nz, X, g, b, C, M, t⟩ := w
  have hk := t.2.2.2.1
  have hB : B ≤ 1000000 := by have := t.2.2.2.2.2.2; omega
  obtain ⟨h1, c1, c2, c3⟩ := C.2.1.flips hk
  have s1 := C.f c2 c3
  have M1 := M.hi (fun z hz => s1.1 z (by omega))
  obtain ⟨h2, m1, m2, m3⟩ := M1.2.1.flips hk
  exact ⟨_, h1, h2, c1, m1, WRt.mk ho s1 (M1.f m2 m3) (t.up)⟩
theorem wt_room {v1 : Int} (ho : o = o0 + 505) (hk5 : k < 512) (w : WRt T h o0 o k) : ∃ v h1 h2, G_room T h o0 v1 = some (v, h1) ∧ M_room h1 o v1 = some (v, h2) ∧ WRt T h2 o0 o (k + 1) := by
  obtain ⟨pl, pd, ns, bm, blk, len, B, p, nz, X, g, b, C, M, t⟩ := w
  have hk := t.2.2.2.1
  have hB : B ≤ 1000000 := by have := t.2.2.2.2.2.2; omega
  obtain ⟨h1, c1, c2, c3⟩ := C.2.1.room hk
  have s1 := C.f c2 c3
  have M1 := M.hi (fun z hz => s1.1 z (by omega))
  obtain ⟨h2, m1, m2, m3⟩ := M1.2.1.room hk
  exact ⟨_, h1, h2, c1, m1, WRt.mk ho s1 (M1.f m2 m3) (t.up)⟩
theorem wt_segment {v1 v2 : Int} (ho : o = o0 + 505) (hk5 : k < 512) (w : WRt T h o0 o k) : ∃ v h1 h2, G_segment h o0 v1 v2 = some (v, h1) ∧ M_segment h1 o v1 v2 = some (v, h2) ∧ WRt T h2 o0 o (k + 1) := by
  obtain ⟨pl, pd, ns, bm, blk, len, B, p, nz, X, g, b, C, M, t⟩ := w
  have hk := t.2.2.2.1
  have hB : B ≤ 1000000 := by have := t.2.2.2.2.2.2; omega
  obtain ⟨h1, c1, c2, c3⟩ := C.2.1.segment hk
  have s1 := C.f c2 c3
  have M1 := M.hi (fun z hz => s1.1 z (by omega))
  obtain ⟨h2, m1, m2, m3⟩ := M1.2.1.segment hk
  exact ⟨_, h1, h2, c1, m1, WRt.mk ho s1 (M1.f m2 m3) (t.up)⟩
theorem wt_frame {v1 v2 v3 : Int} (ho : o = o0 + 505) (hk5 : k < 512) (w : WRt T h o0 o k) : ∃ v h1 h2, G_frame h o0 v1 v2 v3 = some (v, h1) ∧ M_frame h1 o v1 v2 v3 = some (v, h2) ∧ WRt T h2 o0 o (k + 1) := by
  obtain ⟨pl, pd, ns, bm, blk, len, B, p, nz, X, g, b, C, M, t⟩ := w
  have hk := t.2.2.2.1
  have hB : B ≤ 1000000 := by have := t.2.2.2.2.2.2; omega
  obtain ⟨h1, c1, c2, c3⟩ := C.2.1.frame hk
  have s1 := C.f c2 c3
  have M1 := M.hi (fun z hz => s1.1 z (by omega))
  obtain ⟨h2, m1, m2, m3⟩ := M1.2.1.frame hk
  exact ⟨_, h1, h2, c1, m1, WRt.mk ho s1 (M1.f m2 m3) (t.up)⟩
theorem wt_value {v1 : Int} (w : WRt T h o0 o k) : ∃ v, G_value h o0 v1 = some v ∧ M_value h o v1 = some v ∧ WRt T h o0 o (k + 1) := by
  have w2 := w.up
  obtain ⟨pl, pd, ns, bm, blk, len, B, p, nz, X, g, b, C, M, t⟩ := w
  have hk := t.2.2.2.1
  exact ⟨_, C.2.1.value, M.2.1.value, w2⟩
theorem wt_place {v1 : Int} (w : WRt T h o0 o k) : ∃ v, G_place T h o0 v1 = some v ∧ M_place h o v1 = some v ∧ WRt T h o0 o (k + 1) := by
  have w2 := w.up
  obtain ⟨pl, pd, ns, bm, blk, len, B, p, nz, X, g, b, C, M, t⟩ := w
  have hk := t.2.2.2.1
  exact ⟨_, C.2.1.place hk.dim, M.2.1.place, w2⟩
theorem wt_waiter {v1 : Int} (w : WRt T h o0 o k) : ∃ v, G_waiter h o0 v1 = some v ∧ M_waiter h o v1 = some v ∧ WRt T h o0 o (k + 1) := by
  have w2 := w.up
  obtain ⟨pl, pd, ns, bm, blk, len, B, p, nz, X, g, b, C, M, t⟩ := w
  have hk := t.2.2.2.1
  exact ⟨_, C.2.1.waiter, M.2.1.waiter hk, w2⟩
theorem wt_octetOf {v1 v2 : Int} (w : WRt T h o0 o k) : ∃ v, G_octetOf h o0 v1 v2 = some v ∧ M_octetOf h o v1 v2 = some v ∧ WRt T h o0 o (k + 1) := by
  have w2 := w.up
  obtain ⟨pl, pd, ns, bm, blk, len, B, p, nz, X, g, b, C, M, t⟩ := w
  have hk := t.2.2.2.1
  exact ⟨_, C.2.1.octetOf hk.dim, M.2.1.octetOf hk.dim, w2⟩
theorem wt_waiting {v1 v2 : Int} (w : WRt T h o0 o k) : ∃ v, G_waiting h o0 v1 v2 = some v ∧ M_waiting h o v1 v2 = some v ∧ WRt T h o0 o (k + 1) := by
  have w2 := w.up
  obtain ⟨pl, pd, ns, bm, blk, len, B, p, nz, X, g, b, C, M, t⟩ := w
  have hk := t.2.2.2.1
  exact ⟨_, C.2.1.waiting hk, M.2.1.waiting hk, w2⟩
theorem wt_kept {v1 v2 : Int} (w : WRt T h o0 o k) : ∃ v, G_kept h o0 v1 v2 = some v ∧ M_kept h o v1 v2 = some v ∧ WRt T h o0 o (k + 1) := by
  have w2 := w.up
  obtain ⟨pl, pd, ns, bm, blk, len, B, p, nz, X, g, b, C, M, t⟩ := w
  have hk := t.2.2.2.1
  exact ⟨_, C.2.1.kept, M.2.1.kept, w2⟩
theorem wt_soon {v1 : Int} (w : WRt T h o0 o k) : ∃ v, G_soon h o0 v1 = some v ∧ M_soon h o v1 = some v ∧ WRt T h o0 o (k + 1) := by
  have w2 := w.up
  obtain ⟨pl, pd, ns, bm, blk, len, B, p, nz, X, g, b, C, M, t⟩ := w
  have hk := t.2.2.2.1
  exact ⟨_, C.2.1.soon hk, M.2.1.soon hk, w2⟩
theorem wt_has {v1 : Int} (w : WRt T h o0 o k) : ∃ v, G_has h o0 v1 = some v ∧ M_has h o v1 = some v ∧ WRt T h o0 o (k + 1) := by
  have w2 := w.up
  obtain ⟨pl, pd, ns, bm, blk, len, B, p, nz, X, g, b, C, M, t⟩ := w
  have hk := t.2.2.2.1
  exact ⟨_, C.2.1.has hk C.1.2.2.2.2.1.1, M.2.1.has hk M.1.2.2.1.1, w2⟩
theorem wt_octet {v1 : Int} (w : WRt T h o0 o k) : ∃ v, G_octet h o0 v1 = some v ∧ M_octet h o v1 = some v ∧ WRt T h o0 o (k + 1) := by
  have w2 := w.up
  obtain ⟨pl, pd, ns, bm, blk, len, B, p, nz, X, g, b, C, M, t⟩ := w
  have hk := t.2.2.2.1
  exact ⟨_, RC.octet C.1.2.2.2.2.2.1, RM.octet M.1.2.2.2.1, w2⟩
end STP
