/-! a snap, a wait, a flip, on both sides -/
section ACU
variable {ns blk len : Nat}
def spSnp : spSt → spSt
  | (dc, f, (q, fl, first), w, (tab, _, _, tops), r) => (dc, f, (q, fl, first), w, (tab, tab, first, tops), r)
theorem spInv_snp {b : Int} {s : spSt} (hI : spInv ns blk len b s) : spInv ns blk len b (spSnp s) := by
  obtain ⟨⟨D, C⟩, ⟨F, lf⟩, ⟨q, fl, first⟩, ⟨wt, kp⟩, ⟨tab, stab, snap, tops⟩, ⟨sg, at', ser, gr, hl, tk⟩⟩ := s
  obtain ⟨i1, i2, ⟨j1, j2, j3, j4, j5, j6, j7, j8⟩, i4, i5, i6, i7⟩ := hI
  exact ⟨i1, i2, ⟨j1, j2, j3, j4, by omega, Int.le_refl _, j7, j8⟩, i4, ⟨i5.1, i5.1⟩, i6, i7⟩
theorem c_snp {h : jH} {o n : Nat} {s : spSt} (hs : CS h o ns blk len n s) : ∃ h', St_takeSnap h o = some h' ∧ (∀ z, z ≠ o → z ≠ o + 19 → h' z = h z) ∧ h' o 0 = h o 0 ∧ CS h' o ns blk len n (spSnp s) ∧ h' o 7 = s.2.2.1.2.2 := by
  obtain ⟨⟨D, C⟩, ⟨F, lf⟩, ⟨q, fl, first⟩, ⟨wt, kp⟩, ⟨tab, stab, snap, tops⟩, ⟨sg, at', ser, gr, hl, tk⟩⟩ := s
  obtain ⟨c1, ⟨c2, c2'⟩, c3, ⟨c4, c4'⟩, ⟨t1, t2, t3, t4⟩, p1, p2, p3, p4, p5, p6⟩ := hs
  unfold St_takeSnap
  rw [g_copy]
  simp only [Option.bind_some]
  rw [jcpy_ne (show o + 7 ≠ o + 19 by omega), c3.1]
  obtain ⟨g, hg⟩ : ∃ g : jH, g = jup (jcpy h (o + 18) (o + 19) 0 0 16) o 7 first := ⟨_, rfl⟩
  rw [← hg]
  have go : ∀ z, z ≠ o → z ≠ o + 19 → g z = h z := fun z z1 z2 => by rw [hg, jup_ne z1, jcpy_ne z2]
  have gf : ∀ f, f ≠ 7 → g o f = h o f := fun f hf => by rw [hg, ju_ne hf, jcpy_ne (by omega)]
  refine ⟨g, rfl, go, gf 0 (by decide), ⟨c1.eq (fun z z1 z2 => go z (by omega) (by omega)), ⟨?_, by rw [go _ (by omega) (by omega)]; exact c2'⟩, c3.of (fun z z1 z2 => go z (by omega) (by omega)), ⟨?_, ?_⟩, ⟨?_, fun i hi => ?_, by rw [hg, ju_eq], ?_⟩, by rw [gf _ (by decide)]; exact p1, by rw [gf _ (by decide)]; exact p2, by rw [gf _ (by decide)]; exact p3, by rw [gf _ (by decide)]; exact p4, by rw [gf _ (by decide)]; exact p5, by rw [gf _ (by decide)]; exact p6⟩, by rw [hg, ju_eq]⟩
  · unfold CF; rw [go _ (by omega) (by omega), go _ (by omega) (by omega), go _ (by omega) (by omega)]; exact c2
  · unfold CW CWa; rw [go _ (by omega) (by omega), go _ (by omega) (by omega), go _ (by omega) (by omega)]; exact c4
  · unfold CKn; rw [go _ (by omega) (by omega), go _ (by omega) (by omega), go _ (by omega) (by omega), go _ (by omega) (by omega)]; exact c4'
  · rw [go _ (by omega) (by omega)]; exact t1
  · rw [hg, jup_ne (by omega), jcpy_at hi]; exact t1 i hi
  · rw [go _ (by omega) (by omega)]; exact t4
theorem m_snp {h : jH} {o : Nat} {kpm : spKp} {s : spSt} (hd : spDim ns blk len) (hw8 : s.2.2.2.1.1.length ≤ 8) (hs : MS h o ns blk len kpm s) : ∃ h', M_snap_L59 (jup h (o + 33) 9 s.2.2.1.2.2) o 0 = some (s.2.2.1.2.2, h') ∧ (∀ z, z ≠ o + 33 → h' z = h z) ∧ MS h' o ns blk len kpm (spSnp s) := by
  obtain ⟨⟨D, C⟩, ⟨F, lf⟩, ⟨q, fl, first⟩, ⟨wt, kp⟩, ⟨tab, stab, snap, tops⟩, ⟨sg, at', ser, gr, hl, tk⟩⟩ := s
  obtain ⟨c1, ⟨c2, c2'⟩, c3, ⟨c4, c4', c4''⟩, c5, ⟨t1, t2, t3, t4⟩, p1, p2, p3, p4, p5, p6, p7⟩ := hs
  dsimp only at hw8 ⊢
  unfold M_snap_L59
  obtain ⟨⟨k, g⟩, ⟨e1, e2, e3, e4⟩, e5⟩ := jloop_k (f := fun s : (Int × jH) => M_snap_B59 s.2 o s.1) (fun k s => s.1 = (k : Int) ∧ (∀ q, q ≠ o + 33 → s.2 q = h q) ∧ (∀ i, i ≠ 9 → ¬ (160 ≤ i ∧ i < 176) → s.2 (o + 33) i = h (o + 33) i) ∧ s.2 (o + 33) 9 = first ∧ ∀ i, i < k → s.2 (o + 33) (160 + i) = tab i) 16 (fun k s hk hp => by
    obtain ⟨x, g⟩ := s
    obtain ⟨p1, p2, p3, p4, p5⟩ := hp
    dsimp only at p1 p2 p3 p4 p5
    subst p1
    refine ⟨(((k + 1 : Nat) : Int), jup g (o + 33) (160 + k) (tab k)), ?_, rfl, fun q q1 => (jup_ne q1).trans (p2 q q1), fun i i1 i2 => ?_, ?_, fun i hi => ?_⟩
    · show M_snap_B59 g o (k : Int) = _
      unfold M_snap_B59
      rw [if_pos (by omega), pw (x := 144 + (k : Int)) (by omega) (by omega), pw (x := 160 + (k : Int)) (by omega) (by omega), if_pos (by omega), if_pos (by omega), show (144 + (k : Int)).toNat = 144 + k by omega, show (160 + (k : Int)).toNat = 160 + k by omega, p3 (144 + k) (by omega) (by omega), t1 k hk, pw (x := (k : Int) + 1) (by omega) (by omega)]
      rfl
    · dsimp only
      rw [ju_ne (by omega)]; exact p3 i i1 i2
    · dsimp only
      rw [ju_ne (by omega)]; exact p4
    · dsimp only
      rw [ju_if]
      by_cases a : i = k
      · rw [if_pos (by omega), a]
      · rw [if_neg (by omega)]; exact p5 i (by omega)) (k := 0) (s := ((0 : Int), jup h (o + 33) 9 first)) (by decide) ⟨rfl, fun q q1 => jup_ne q1, fun i i1 i2 => ju_ne i1, ju_eq, fun i hi => by omega⟩
  obtain ⟨e4a, e4b⟩ := e4
  dsimp only at e1 e2 e3 e4a e4b
  rw [e5]
  subst e1
  have kk : ∀ i, i ≠ 9 → ¬ (160 ≤ i ∧ i < 176) → g (o + 33) i = h (o + 33) i := e3
  refine ⟨g, jloop_r ?_, e2, c1.fr hd (e2 _ (by omega)) (fun i _ _ => kk i (by omega) (by omega)), ⟨⟨by rw [kk _ (by omega) (by omega)]; exact c2.1, fun i e he => ?_⟩, by rw [kk _ (by omega) (by omega)]; exact c2'⟩, ⟨by rw [kk _ (by omega) (by omega)]; exact c3.1, by rw [kk _ (by omega) (by omega)]; exact c3.2.1, by rw [kk _ (by omega) (by omega)]; exact c3.2.2.1, c3.2.2.2.1, c3.2.2.2.2.1, fun i r hr => ?_⟩, ⟨by rw [kk _ (by omega) (by omega)]; exact c4, fun i e he => ?_, fun x hx => by rw [kk _ (by omega) (by omega)]; exact c4'' x hx⟩, ⟨by rw [kk _ (by omega) (by omega)]; exact c5.1, c5.2.1, fun i e he => ?_⟩, ⟨fun i hi => by rw [kk _ (by omega) (by omega)]; exact t1 i hi, e4b, e4a, fun i hi => by rw [kk _ (by omega) (by omega)]; exact t4 i hi⟩, by rw [kk _ (by omega) (by omega)]; exact p1, by rw [kk _ (by omega) (by omega)]; exact p2, by rw [kk _ (by omega) (by omega)]; exact p3, by rw [kk _ (by omega) (by omega)]; exact p4, by rw [kk _ (by omega) (by omega)]; exact p5, by rw [kk _ (by omega) (by omega)]; exact p6, by rw [kk _ (by omega) (by omega)]; exact p7⟩
  · show M_snap_B59 g o ((16 : Nat) : Int) = _
    unfold M_snap_B59
    rw [if_neg (by decide), if_pos (by decide), show ((9 : Int)).toNat = 9 from rfl, e4a]
    rfl
  · rw [kk _ (by omega) (by omega), kk _ (by omega) (by omega)]; exact c2.2 i e he
  · have hm : ((first + (i : Int)) % 32).toNat < 32 := by omega
    rw [kk _ (by omega) (by omega), kk _ (by omega) (by omega), kk _ (by omega) (by omega), kk _ (by omega) (by omega)]; exact c3.2.2.2.2.2 i r hr
  · have hi := (List.getElem?_eq_some_iff.mp he).1
    rw [kk _ (by omega) (by omega)]; exact c4' i e he
  · rw [kk _ (by omega) (by omega), kk _ (by omega) (by omega), kk _ (by omega) (by omega)]; exact c5.2.2 i e he
/-- who waits for what, by the class -/
theorem c_awL {ow : Nat} {who : Int} : ∀ (m i : Nat) (h : jH) (wt : spWt), i + m = wt.length → CW h ow wt → Wa_awaitedBy_L2 h ow who (i : Int) = some (spAw (wt.drop i) who) := by
  unfold Wa_awaitedBy_L2
  intro m
  induction m with
  | zero =>
    intro i h wt hi hw
    rw [List.drop_of_length_le (by omega)]
    refine jloop_r ?_
    show Wa_awaitedBy_B2 h ow who (i : Int) = _
    unfold Wa_awaitedBy_B2
    rw [hw.1, if_neg (by omega)]
    rfl
  | succ m ih =>
    intro i h wt hi hw
    have hlt : i < wt.length := by omega
    have h8 := hw.2.1
    have he := hw.2.2 i _ (List.getElem?_eq_getElem hlt)
    rw [Nat.zero_add] at he
    rw [List.drop_eq_getElem_cons hlt]
    show jloop (fun s : Int => Wa_awaitedBy_B2 h ow who s) (i : Int) = some (if wt[i].1 = who then wt[i].2 else spAw (wt.drop (i + 1)) who)
    by_cases a : wt[i].1 = who
    · rw [if_pos a]
      refine jloop_r ?_
      unfold Wa_awaitedBy_B2
      rw [hw.1, if_pos (by omega), g_cellN (by omega), he.1]
      simp only [Option.bind_some]
      rw [if_pos a, g_cellN (by omega), he.2]
      rfl
    · rw [if_neg a]
      refine (jloop_l (s' := ((i + 1 : Nat) : Int)) ?_).trans (ih (i + 1) h wt (by omega) hw)
      unfold Wa_awaitedBy_B2
      rw [hw.1, if_pos (by omega), g_cellN (by omega), he.1]
      simp only [Option.bind_some]
      rw [if_neg a, pw (by omega) (by omega)]
      rfl
theorem c_aw {h : jH} {ow : Nat} {who : Int} {wt : spWt} (hw : CW h ow wt) : Wa_awaitedBy h ow who = some (spAw wt who) := by
  unfold Wa_awaitedBy
  exact c_awL wt.length 0 h wt (by omega) hw
theorem spAw_not {who : Int} : ∀ {wt : spWt}, (∀ e ∈ wt, 0 ≤ e.2) → spAw wt who = -1 → ∀ e ∈ wt, e.1 ≠ who := by
  intro wt
  induction wt with
  | nil => intro _ _ e he; cases he
  | cons x r ih =>
    intro h h1 e he
    have hx := h x List.mem_cons_self
    unfold spAw at h1
    split at h1
    · omega
    · rename_i hne
      rcases List.mem_cons.mp he with y | y
      · rw [y]; exact hne
      · exact ih (fun z hz => h z (List.mem_cons_of_mem _ hz)) h1 e y
theorem nodup_le : ∀ (n : Nat) (l : List Int), l.Nodup → (∀ x ∈ l, 0 ≤ x ∧ x < (n : Int)) → l.length ≤ n := by
  intro n
  induction n with
  | zero =>
    intro l _ h
    cases l with
    | nil => exact Nat.le_refl _
    | cons x r => have := h x List.mem_cons_self; omega
  | succ n ih =>
    intro l hn h
    have h1 := ih (l.erase (n : Int)) (hn.erase _) (fun x hx => by
      have := (hn.mem_erase_iff).mp hx
      have h2 := h x this.2
      have h3 := this.1
      omega)
    have h2 := List.length_erase (a := (n : Int)) (l := l)
    split at h2 <;> omega
def spWai (who num : Int) : spSt → spSt
  | (dc, f, q, (wt, kp), r) => (dc, f, q, (wt ++ [(who, num)], kp), r)
theorem spWai_len {b who : Int} {s : spSt} (hI : spInv ns blk len b s) (hw : 0 ≤ who ∧ who < 8) (ha : spAw s.2.2.2.1.1 who = -1) : s.2.2.2.1.1.length < 8 ∧ spWhos s.2.2.2.1.1 ∧ ∀ e ∈ s.2.2.2.1.1, e.1 ≠ who := by
  obtain ⟨⟨D, C⟩, ⟨F, lf⟩, ⟨q, fl, first⟩, ⟨wt, kp⟩, ⟨tab, stab, snap, tops⟩, ⟨sg, at', ser, gr, hl, tk⟩⟩ := s
  obtain ⟨i1, i2, i3, i4, i5, i6, i7⟩ := hI
  have hne := spAw_not (fun e he => (i4.2.1.1 e he).2.2) ha
  refine ⟨?_, i4.2.1, hne⟩
  have := nodup_le 8 (who :: wt.map (fun e => e.1)) (List.nodup_cons.mpr ⟨fun hm => by
    obtain ⟨y, y1, y2⟩ := List.mem_map.mp hm
    exact hne y y1 y2, i4.2.1.2⟩) (fun x hx => by
    rcases List.mem_cons.mp hx with y | y
    · rw [y]; exact hw
    · obtain ⟨z, z1, z2⟩ := List.mem_map.mp y
      have := i4.2.1.1 z z1
      rw [← z2]; exact ⟨this.1, this.2.1⟩)
  simp only [List.length_cons, List.length_map] at this
  show wt.length < 8
  omega
theorem spInv_wai {b who num : Int} {s : spSt} (hI : spInv ns blk len b s) (hw : 0 ≤ who ∧ who < 8) (hn : 0 ≤ num) (ha : spAw s.2.2.2.1.1 who = -1) : spInv ns blk len b (spWai who num s) := by
  have hl := spWai_len hI hw ha
  obtain ⟨⟨D, C⟩, ⟨F, lf⟩, ⟨q, fl, first⟩, ⟨wt, kp⟩, ⟨tab, stab, snap, tops⟩, ⟨sg, at', ser, gr, hl, tk⟩⟩ := s
  obtain ⟨i1, i2, i3, i4, i5, i6, i7⟩ := hI
  refine ⟨i1, i2, i3, ⟨?_, ⟨fun e he => ?_, ?_⟩, i4.2.2⟩, i5, i6, i7⟩
  · rw [List.length_append]; have := hl.1; simp only [List.length_cons, List.length_nil]; dsimp only at this; omega
  · rcases List.mem_append.mp he with h | h
    · exact i4.2.1.1 e h
    · rw [List.mem_singleton.mp h]; exact ⟨hw.1, hw.2, hn⟩
  · rw [List.map_append]
    refine List.nodup_append.mpr ⟨i4.2.1.2, by simp, fun x hx y hy => ?_⟩
    obtain ⟨z, z1, z2⟩ := List.mem_map.mp hx
    simp at hy
    rw [hy, ← z2]
    exact hl.2.2 z z1
theorem c_wai {h : jH} {o n : Nat} {who num : Int} {s : spSt} (hs : CS h o ns blk len n s) (hl : s.2.2.2.1.1.length < 8) : ∃ h', Wa_add h (o + 12) who num = some h' ∧ (∀ z, (z < o + 12 ∨ o + 14 < z) → h' z = h z) ∧ CS h' o ns blk len n (spWai who num s) := by
  obtain ⟨⟨D, C⟩, ⟨F, lf⟩, ⟨q, fl, first⟩, ⟨wt, kp⟩, ⟨tab, stab, snap, tops⟩, ⟨sg, at', ser, gr, hl', tk⟩⟩ := s
  obtain ⟨c1, ⟨c2, c2'⟩, c3, ⟨c4, c4'⟩, ⟨t1, t2, t3, t4⟩, p1, p2, p3, p4, p5, p6⟩ := hs
  dsimp only at hl
  unfold Wa_add
  rw [c4.1, g_putN hl]
  simp only [Option.bind_some]
  rw [jup_ne (show o + 12 ≠ o + 12 + 1 by omega), c4.1, g_putN hl]
  simp only [Option.bind_some]
  rw [jup_ne (show o + 12 ≠ o + 12 + 2 by omega), jup_ne (show o + 12 ≠ o + 12 + 1 by omega), c4.1, pw (by omega) (by omega)]
  obtain ⟨g, hg⟩ : ∃ g : jH, g = jup (jup (jup h (o + 12 + 1) wt.length who) (o + 12 + 2) wt.length num) (o + 12) 2 ((wt.length : Int) + 1) := ⟨_, rfl⟩
  rw [← hg]
  have go : ∀ z, (z < o + 12 ∨ o + 14 < z) → g z = h z := fun z hz => by rw [hg, jup_ne (by omega), jup_ne (by omega), jup_ne (by omega)]
  have r0 : ∀ f, f ≠ 2 → g (o + 12) f = h (o + 12) f := fun f hf => by rw [hg, ju_ne hf, jup_ne (by omega), jup_ne (by omega)]
  have r1 : ∀ f, g (o + 12 + 1) f = if f = wt.length then who else h (o + 12 + 1) f := fun f => by rw [hg, jup_ne (by omega), jup_ne (by omega), ju_if]
  have r2 : ∀ f, g (o + 12 + 2) f = if f = wt.length then num else h (o + 12 + 2) f := fun f => by rw [hg, jup_ne (by omega), ju_if, jup_ne (by omega)]
  refine ⟨g, rfl, go, c1.eq (fun z z1 z2 => go z (by omega)), ⟨?_, by rw [go _ (by omega)]; exact c2'⟩, c3.of (fun z z1 z2 => go z (by omega)), ⟨⟨by rw [hg, ju_eq, List.length_append]; simp, by rw [List.length_append]; simp only [List.length_cons, List.length_nil]; omega, fun i e he => ?_⟩, ?_⟩, ⟨?_, ?_, by rw [go _ (by omega)]; exact t3, ?_⟩, by rw [go _ (by omega)]; exact p1, by rw [go _ (by omega)]; exact p2, by rw [go _ (by omega)]; exact p3, by rw [go _ (by omega)]; exact p4, by rw [go _ (by omega)]; exact p5, by rw [go _ (by omega)]; exact p6⟩
  · unfold CF; rw [go _ (by omega), go _ (by omega), go _ (by omega)]; exact c2
  · rw [Nat.zero_add]
    rw [List.getElem?_append] at he
    by_cases hi : i < wt.length
    · rw [if_pos hi] at he
      rw [r1, r2, if_neg (by omega), if_neg (by omega)]
      have := c4.2.2 i e he
      rw [Nat.zero_add] at this
      exact this
    · rw [if_neg hi] at he
      have h0 : i - wt.length = 0 := by
        have := (List.getElem?_eq_some_iff.mp he).1
        simp at this
        omega
      rw [h0] at he
      have := Option.some.inj he
      rw [r1, r2, if_pos (by omega), if_pos (by omega), ← this]
      exact ⟨rfl, rfl⟩
  · obtain ⟨y1, y2, y3, y4⟩ := c4'
    refine ⟨by rw [r0 6 (by decide)]; exact y1, y2, y3, fun i e he => ?_⟩
    rw [go (o + 12 + 3) (by omega), go (o + 12 + 4) (by omega), go (o + 12 + 5) (by omega)]
    exact y4 i e he
  · rw [go _ (by omega)]; exact t1
  · rw [go _ (by omega)]; exact t2
  · rw [go _ (by omega)]; exact t4
end ACU
