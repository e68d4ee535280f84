/-! what a key will have; how many there are: on both sides -/
def spLat (k : Int) : List spRec → Int → Int
  | [], a => a
  | r :: l, a => spLat k l (if r.1 = k then r.2.1 else a)
def spDSoon (k : Int) (X : spX) : Int := spLat k X.1.2.2.1.1 (spDValue k X)
theorem spLat_snoc {k : Int} : ∀ (l : List spRec) (a : Int) (r : spRec), spLat k (l ++ [r]) a = if r.1 = k then r.2.1 else spLat k l a := by
  intro l
  induction l with
  | nil => intro a r; rfl
  | cons x l ih => intro a r; exact ih _ r
theorem spLat_two {k a : Int} {l : List spRec} (h : ∀ r ∈ l, 0 ≤ r.2.1) : spLat k l a = if spLat k l (-1) = -1 then a else spLat k l (-1) := by
  have key : ∀ (l : List spRec) (c d : Int), (∀ r ∈ l, 0 ≤ r.2.1) → (c = d ∨ (c = a ∧ d = -1)) → (d = -1 → c = a) → spLat k l c = if spLat k l d = -1 then a else spLat k l d := by
    intro l
    induction l with
    | nil =>
      intro c d _ h1 h2
      show c = if d = -1 then a else d
      by_cases e : d = -1
      · rw [if_pos e]; exact h2 e
      · rw [if_neg e]; rcases h1 with h1 | h1
        · exact h1
        · exact absurd h1.2 e
    | cons x l ih =>
      intro c d hl h1 h2
      have hx := hl x List.mem_cons_self
      refine ih _ _ (fun r hr => hl r (List.mem_cons_of_mem _ hr)) ?_ ?_
      · split
        · exact Or.inl rfl
        · exact h1
      · split
        · intro e; omega
        · exact h2
  exact key l a (-1) h (Or.inr ⟨rfl, rfl⟩) (fun _ => rfl)
/-- sums -/
def sS (f : Nat → Int) : Nat → Int
  | 0 => 0
  | n + 1 => sS f n + f n
theorem sS_congr {f g : Nat → Int} : ∀ n, (∀ i, i < n → f i = g i) → sS f n = sS g n := by
  intro n
  induction n with
  | zero => intro _; rfl
  | succ n ih => intro h; unfold sS; rw [ih (fun i hi => h i (by omega)), h n (by omega)]
theorem sS_add {f : Nat → Int} {n : Nat} : ∀ m, sS f (n + m) = sS f n + sS (fun i => f (n + i)) m := by
  intro m
  induction m with
  | zero => show sS f n = sS f n + 0; omega
  | succ m ih =>
    show sS f (n + m) + f (n + m) = sS f n + (sS (fun i => f (n + i)) m + f (n + m))
    rw [ih]; omega
theorem sS_0 {f : Nat → Int} : ∀ n, (∀ i, i < n → f i = 0) → sS f n = 0 := by
  intro n
  induction n with
  | zero => intro _; rfl
  | succ n ih => intro h; unfold sS; rw [ih (fun i hi => h i (by omega)), h n (by omega)]; rfl
theorem sS_cut {f : Nat → Int} {a n : Nat} (ha : a ≤ n) (h : ∀ i, a ≤ i → i < n → f i = 0) : sS f n = sS f a := by
  obtain ⟨m, rfl⟩ : ∃ m, n = a + m := ⟨n - a, by omega⟩
  rw [sS_add, sS_0 m (fun i hi => h _ (by omega) (by omega)), Int.add_zero]
theorem sS_mul {f : Nat → Int} {m : Nat} : ∀ n, sS f (n * m) = sS (fun s => sS (fun k => f (s * m + k)) m) n := by
  intro n
  induction n with
  | zero => rw [Nat.zero_mul]; rfl
  | succ n ih => rw [Nat.succ_mul, sS_add, ih]; rfl
theorem sS_in {f : Nat → Int} : ∀ n, (∀ i, i < n → 0 ≤ f i ∧ f i ≤ 1) → 0 ≤ sS f n ∧ sS f n ≤ (n : Int) := by
  intro n
  induction n with
  | zero => intro _; exact ⟨Int.le_refl _, Int.le_refl _⟩
  | succ n ih =>
    intro h
    have := ih (fun i hi => h i (by omega))
    have := h n (by omega)
    unfold sS
    omega
def spScar (ns len : Nat) (C : Nat → Nat → Int) : Int := sS (fun s => sS (fun k => C s k) len) ns
def spDHas (ns len : Nat) (w v : Int) (X : spX) : Int := if v = 0 then (ns : Int) else if v = 1 then (len : Int) else if v = 2 then X.1.2.2.2.2.2.2.2.2.2.2 else if v = 3 then X.1.2.2.1.2.2 + (X.1.2.2.1.1.length : Int) else if v = 4 then X.1.2.2.1.2.2 else if v = 5 then (spWtg X.1 : Int) else if v = 6 then (X.1.2.1.1.length : Int) else if v = 7 then X.1.2.1.2 else if v = 8 then X.1.2.2.2.2.1.2.2.1 else if v = 9 then (X.1.2.2.2.1.1.length : Int) else if v = 10 then spScar ns len X.1.1.2 else if v = 11 then (X.1.2.2.2.1.2.length : Int) else if v = 12 then w else if v = 13 then (X.2.1.length : Int) else if v = 14 then (if X.1.2.2.2.2.2.2.2.2.2.1 = true then 1 else 0) else -1
section HAS
variable {T : jT} {o0 pl ns blk len B : Nat} {p : spPl} {X : spX} {b : Int}
theorem spInv.rec {s : spSt} (hI : spInv ns blk len b s) : (∀ r ∈ s.2.2.1.1, spRok r) ∧ ∀ a k, a < ns → k < len → 0 ≤ s.1.2 a k ∧ s.1.2 a k ≤ 1 := by
  obtain ⟨⟨D, C⟩, ⟨F, lf⟩, ⟨q, fl, first⟩, ⟨wt, kp⟩, ⟨tab, stab, snap, tops⟩, ⟨sg, at', ser, gr, hl, tk⟩⟩ := s
  exact ⟨fun r hr => (hI.2.2.1.1 r hr).1, hI.1.2.2⟩
theorem c_latL {h : jH} {oq fl : Nat} {first k a : Int} {q : List spRec} (hq : CQ h oq q fl first) : Qu_latestOf_L4 h oq k a 0 = some (spLat k q a) := by
  obtain ⟨c1, c2, c3, c4, c5⟩ := hq
  unfold Qu_latestOf_L4
  obtain ⟨⟨u, i⟩, ⟨e1, e2⟩, e3⟩ := jloop_k (f := fun s : (Int × Int) => Qu_latestOf_B4 h oq k s.1 s.2) (fun i s => s.2 = (i : Int) ∧ s.1 = spLat k (q.take i) a) q.length (fun i s hi hp => by
    obtain ⟨x, y⟩ := s
    obtain ⟨p1, p2⟩ := hp
    dsimp only at p1 p2
    subst p1
    have hr := c5 i _ (List.getElem?_eq_getElem hi)
    refine ⟨(spLat k (q.take (i + 1)) a, ((i + 1 : Nat) : Int)), ?_, rfl, rfl⟩
    have hs : spLat k (q.take (i + 1)) a = if q[i].1 = k then q[i].2.1 else spLat k (q.take i) a := by
      rw [List.take_succ_eq_append_getElem hi, spLat_snoc]
    show Qu_latestOf_B4 h oq k x (i : Int) = _
    unfold Qu_latestOf_B4
    rw [c3, if_pos (by omega), g_cellN (by omega), hr.1, hs, p2]
    simp only [Option.bind_some]
    by_cases e : q[i].1 = k
    · rw [if_pos e, if_pos e, g_cellN (by omega), hr.2.1]
      simp only [Option.bind_some]
      rw [pw (x := (i : Int) + 1) (by omega) (by omega)]
      rfl
    · rw [if_neg e, if_neg e, pw (x := (i : Int) + 1) (by omega) (by omega)]
      rfl) (k := 0) (s := (a, (0 : Int))) (by omega) ⟨rfl, rfl⟩
  dsimp only at e1 e2
  rw [e3]
  subst e1
  refine jloop_r ?_
  show Qu_latestOf_B4 h oq k u ((q.length : Nat) : Int) = _
  unfold Qu_latestOf_B4
  rw [c3, if_neg (by omega), e2, List.take_length]
  rfl
theorem RC.soon {h : jH} {k : Int} (hk : spXk ns blk len b X) (r : RC T h o0 pl ns blk len p B X) : G_soon h o0 k = some (spDSoon k X) := by
  have hv := r.value (k := k)
  obtain ⟨_, c, n, q1, q2, q3, q4, q5, q6, q7⟩ := r
  have hq : CQ h (o0 + 42) X.1.2.2.1.1 X.1.2.2.1.2.1 X.1.2.2.1.2.2 := by
    generalize X.1 = s at q5 ⊢
    obtain ⟨⟨D, C⟩, ⟨F, lf⟩, ⟨q, fl, first⟩, ⟨wt, kp⟩, ⟨tab, stab, snap, tops⟩, ⟨sg, at', ser, gr, hl, tk⟩⟩ := s
    exact q5.2.2.1
  unfold G_soon Qu_latestOf spDSoon
  rw [c_latL hq]
  simp only [Option.bind_some]
  rw [spLat_two (a := spDValue k X) (fun r hr => (hk.1.1.rec.1 r hr).2.2.1)]
  by_cases e : spLat k X.1.2.2.1.1 (-1) = -1
  · rw [if_pos e, if_pos e]
    exact hv
  · rw [if_neg e, if_neg e]
theorem RM.soon {h : jH} {o : Nat} {k : Int} (hk : spXk ns blk len b X) (r : RM h o ns blk len p X) : M_soon h o k = some (spDSoon k X) := by
  have hv := r.value (k := k)
  obtain ⟨m, q1, q2, q3, q4, q5, q6⟩ := r.2
  have hi := hk.1.1.que
  have hq : MQu (h (o + 33)) X.1.2.2.1.1 X.1.2.2.1.2.1 X.1.2.2.1.2.2 := by
    generalize X.1 = s at q6 ⊢
    obtain ⟨⟨D, C⟩, ⟨F, lf⟩, ⟨q, fl, first⟩, ⟨wt, kp⟩, ⟨tab, stab, snap, tops⟩, ⟨sg, at', ser, gr, hl, tk⟩⟩ := s
    exact q6.2.2.1
  unfold M_soon spDSoon
  rw [hv]
  simp only [Option.bind_some]
  rw [if_pos (by decide), show ((2 : Int)).toNat = 2 from rfl, hq.1]
  generalize spDValue k X = a
  generalize X.1.2.2.1.1 = q at hi hq ⊢
  generalize X.1.2.2.1.2.2 = first at hi hq ⊢
  obtain ⟨w2, w1, w11, w5, w6, w7⟩ := hq
  unfold M_soon_L13
  obtain ⟨⟨u, i⟩, ⟨e1, e2⟩, e3⟩ := jloop_k (f := fun s : (Int × Int) => M_soon_B13 h o k s.1 s.2) (fun i s => s.2 = first + (i : Int) ∧ s.1 = spLat k (q.take i) a) q.length (fun i s hi' hp => by
    obtain ⟨x, y⟩ := s
    obtain ⟨p1, p2⟩ := hp
    dsimp only at p1 p2
    subst p1
    have hr := w7 i _ (List.getElem?_eq_getElem hi')
    refine ⟨(spLat k (q.take (i + 1)) a, first + ((i + 1 : Nat) : Int)), ?_, rfl, rfl⟩
    have hs : spLat k (q.take (i + 1)) a = if q[i].1 = k then q[i].2.1 else spLat k (q.take i) a := by
      rw [List.take_succ_eq_append_getElem hi', spLat_snoc]
    show M_soon_B13 h o k x (first + (i : Int)) = _
    unfold M_soon_B13
    rw [if_pos (by decide), show ((1 : Int)).toNat = 1 from rfl, w1, if_pos (by omega), show M_recordOf h o (first + (i : Int)) 0 = some q[i].1 from (m_recOf (j := 0) (by decide)).trans (congrArg some hr.1), hs, p2]
    simp only [Option.bind_some]
    rw [pw (x := first + (i : Int) + 1) (by omega) (by omega), show first + (i : Int) + 1 = first + ((i + 1 : Nat) : Int) by omega]
    by_cases e : q[i].1 = k
    · rw [if_pos e, if_pos e, show M_recordOf h o (first + (i : Int)) 1 = some q[i].2.1 from (m_recOf (j := 1) (by decide)).trans (congrArg some hr.2.1)]
      rfl
    · rw [if_neg e, if_neg e]) (k := 0) (s := (a, first)) (by omega) ⟨by show first = first + ((0 : Nat) : Int); omega, rfl⟩
  dsimp only at e1 e2
  rw [e3]
  subst e1
  refine jloop_r ?_
  show M_soon_B13 h o k u (first + ((q.length : Nat) : Int)) = _
  unfold M_soon_B13
  rw [if_pos (by decide), show ((1 : Int)).toNat = 1 from rfl, w1, if_neg (by omega), e2, List.take_length]
  rfl
theorem c_scar {h : jH} {od : Nat} {D C : Nat → Nat → Int} (hd : spDim ns blk len) (hC : ∀ a k, a < ns → k < len → 0 ≤ C a k ∧ C a k ≤ 1) (hc : CD h od ns blk len D C) : Di_scarCount h od = some (spScar ns len C) := by
  obtain ⟨c1, c2, c3, c4, c5, c6⟩ := hc
  have hlen := hd.len
  have hns := hd.1
  have hb := (hd.adr (s := 0) (k := 0) (by omega) (by omega)).2
  have h01 : ∀ i, i < 512 → 0 ≤ h (od + 2) i ∧ h (od + 2) i ≤ 1 := by
    intro i hi
    by_cases a : i < ns * len
    · obtain ⟨d1, d2, d3⟩ := sp_dm a
      rw [← d3, c5 _ _ d1 d2]
      exact hC _ _ d1 d2
    · rw [c6 i (by omega) hi]; omega
  have hval : sS (fun i => h (od + 2) i) 512 = spScar ns len C := by
    rw [sS_cut hb (fun i h1 h2 => c6 i h1 h2), sS_mul]
    exact sS_congr ns (fun s hs => sS_congr len (fun k hk' => c5 s k hs hk'))
  unfold Di_scarCount Di_scarCount_L4
  obtain ⟨⟨u, i⟩, ⟨e1, e2⟩, e3⟩ := jloop_k (f := fun s : (Int × Int) => Di_scarCount_B4 h od s.1 s.2) (fun i s => s.2 = (i : Int) ∧ s.1 = sS (fun i => h (od + 2) i) i) 512 (fun i s hi hp => by
    obtain ⟨x, y⟩ := s
    obtain ⟨p1, p2⟩ := hp
    dsimp only at p1 p2
    subst p1
    have hin := sS_in (f := fun i => h (od + 2) i) i (fun j hj => h01 j (by omega))
    have hi1 := h01 i hi
    refine ⟨(sS (fun i => h (od + 2) i) (i + 1), ((i + 1 : Nat) : Int)), ?_, rfl, rfl⟩
    show Di_scarCount_B4 h od x (i : Int) = some (Sum.inl (sS (fun i => h (od + 2) i) i + h (od + 2) i, ((i + 1 : Nat) : Int)))
    unfold Di_scarCount_B4
    rw [if_pos (by omega), if_pos (by omega), Int.toNat_natCast, p2, pw (x := (i : Int) + 1) (by omega) (by omega), pw (by omega) (by omega)]
    rfl) (k := 0) (s := ((0 : Int), (0 : Int))) (by decide) ⟨rfl, rfl⟩
  dsimp only at e1 e2
  rw [e3]
  subst e1
  refine jloop_r ?_
  show Di_scarCount_B4 h od u ((512 : Nat) : Int) = _
  unfold Di_scarCount_B4
  rw [if_neg (by omega), e2, hval]
  rfl
theorem m_scar {h : jH} {o : Nat} {D C : Nat → Nat → Int} (hd : spDim ns blk len) (hC : ∀ a k, a < ns → k < len → 0 ≤ C a k ∧ C a k ≤ 1) (hc : MD h o ns blk len D C) : M_scarMany h o = some (spScar ns len C) := by
  obtain ⟨c1, c2, c3, c4, c5, c6⟩ := hc
  have hlen := hd.len
  have hns := hd.1
  have hns4 := hd.2.1
  have hat : ∀ s k, s < 4 → k < 128 → h (o + 33) (196 + (s * 128 + k)) = if s < ns ∧ k < len then C s k else 0 := by
    intro s k h1 h2
    rw [show 196 + (s * 128 + k) = 196 + 128 * s + k by omega]
    by_cases a : s < ns ∧ k < len
    · rw [if_pos a, c5 s k a.1 a.2]
    · rw [if_neg a, c6 s k h1 h2 (by omega)]
  have h01 : ∀ i, i < 512 → 0 ≤ h (o + 33) (196 + i) ∧ h (o + 33) (196 + i) ≤ 1 := by
    intro i hi
    have := hat (i / 128) (i % 128) (by omega) (by omega)
    rw [show i / 128 * 128 + i % 128 = i by omega] at this
    rw [this]
    split
    · rename_i a; exact hC _ _ a.1 a.2
    · omega
  have hval : sS (fun i => h (o + 33) (196 + i)) 512 = spScar ns len C := by
    rw [show (512 : Nat) = 4 * 128 from rfl, sS_mul, sS_cut (a := ns) hns4 (fun s h1 h2 => sS_0 128 (fun k hk' => by rw [hat s k h2 hk', if_neg (by omega)]))]
    refine sS_congr ns (fun s hs => ?_)
    rw [sS_cut (a := len) hlen.2.1 (fun k h1 h2 => by rw [hat s k (by omega) h2, if_neg (by omega)])]
    exact sS_congr len (fun k hk' => by rw [hat s k (by omega) (by omega), if_pos ⟨hs, hk'⟩])
  unfold M_scarMany M_scarMany_L4
  obtain ⟨⟨u, i⟩, ⟨e1, e2⟩, e3⟩ := jloop_k (f := fun s : (Int × Int) => M_scarMany_B4 h o s.1 s.2) (fun i s => s.2 = (i : Int) ∧ s.1 = sS (fun i => h (o + 33) (196 + i)) i) 512 (fun i s hi hp => by
    obtain ⟨x, y⟩ := s
    obtain ⟨p1, p2⟩ := hp
    dsimp only at p1 p2
    subst p1
    have hin := sS_in (f := fun i => h (o + 33) (196 + i)) i (fun j hj => h01 j (by omega))
    have hi1 := h01 i hi
    refine ⟨(sS (fun i => h (o + 33) (196 + i)) (i + 1), ((i + 1 : Nat) : Int)), ?_, rfl, rfl⟩
    show M_scarMany_B4 h o x (i : Int) = some (Sum.inl (sS (fun i => h (o + 33) (196 + i)) i + h (o + 33) (196 + i), ((i + 1 : Nat) : Int)))
    unfold M_scarMany_B4
    rw [if_pos (by omega), pw (x := 196 + (i : Int)) (by omega) (by omega), if_pos (by omega), show (196 + (i : Int)).toNat = 196 + i by omega, p2, pw (x := (i : Int) + 1) (by omega) (by omega), pw (by omega) (by omega)]
    rfl) (k := 0) (s := ((0 : Int), (0 : Int))) (by decide) ⟨rfl, rfl⟩
  dsimp only at e1 e2
  rw [e3]
  subst e1
  refine jloop_r ?_
  show M_scarMany_B4 h o u ((512 : Nat) : Int) = _
  unfold M_scarMany_B4
  rw [if_neg (by omega), e2, hval]
  rfl
theorem RC.has {h : jH} {w v : Int} (hk : spXk ns blk len b X) (hw : h o0 7 = w) (r : RC T h o0 pl ns blk len p B X) : G_has h o0 v = some (spDHas ns len w v X) := by
  have hd := hk.dim
  have hi := hk.1.1.que
  have hC := hk.1.1.rec.2
  obtain ⟨⟨r1, r2, r3, r4, r5, r6, r7⟩, c, n, q1, q2, q3, q4, q5, q6, q7⟩ := r
  clear hk
  unfold G_has spDHas
  generalize X.2.1.length = np at q3 ⊢
  generalize X.1 = s at hi hC q5 ⊢
  obtain ⟨⟨D, C⟩, ⟨F, lf⟩, ⟨q, fl, first⟩, ⟨wt, kp⟩, ⟨tab, stab, snap, tops⟩, ⟨sg, at', ser, gr, hl, tk⟩⟩ := s
  obtain ⟨c1, ⟨c2, c2'⟩, c3, ⟨c4, c4'⟩, ⟨t1, t2, t3, t4⟩, p1, p2, p3, p4, p5, p6⟩ := q5
  obtain ⟨k1, k2, k3, k4⟩ := c4'
  dsimp only at hi hC ⊢
  have d1 : h (o0 + 36) 2 = (ns : Int) := c1.1
  have d2 : h (o0 + 36) 3 = (len : Int) := c1.2.1
  have w0 : h (o0 + 42) 4 = first := c3.1
  have w1 : h (o0 + 42) 5 = (fl : Int) := c3.2.1
  have w2 : h (o0 + 42) 6 = (q.length : Int) := c3.2.2.1
  have f1 : h (o0 + 39) 2 = (F.length : Int) := c2.1
  have f2 : h (o0 + 39) 3 = lf := c2'
  have k0 : h (o0 + 47) 6 = (n : Int) := k1
  have k9 : h (o0 + 47) 2 = (wt.length : Int) := c4.1
  have hsc : Di_scarCount h (o0 + 36) = some (spScar ns len C) := c_scar hd hC c1
  have hfl : spWtg ((D, C), (F, lf), (q, fl, first), (wt, kp), (tab, stab, snap, tops), (sg, at', ser, gr, hl, tk)) = q.length - fl := rfl
  unfold Qu_behindLast Qu_waitingCount Wa_told
  rw [d1, d2, p6, w0, w1, w2, f1, f2, t3, k9, hsc, k0, hw, q3, p5, hfl]
  simp only [Option.bind_some]
  rw [pw (x := first + (q.length : Int)) (by omega) (by omega), pw (x := (q.length : Int) - (fl : Int)) (by omega) (by omega)]
  have e5 : (q.length : Int) - (fl : Int) = ((q.length - fl : Nat) : Int) := by omega
  have e11 : min (n : Int) 40 = (kp.length : Int) := by rw [k3]; omega
  rw [e5, e11]
  by_cases a0 : v = 0
  · rw [if_pos a0, if_pos a0]
  rw [if_neg a0, if_neg a0]
  by_cases a0 : v = 1
  · rw [if_pos a0, if_pos a0]
  rw [if_neg a0, if_neg a0]
  by_cases a0 : v = 2
  · rw [if_pos a0, if_pos a0]
  rw [if_neg a0, if_neg a0]
  by_cases a0 : v = 3
  · rw [if_pos a0, if_pos a0]
  rw [if_neg a0, if_neg a0]
  by_cases a0 : v = 4
  · rw [if_pos a0, if_pos a0]
  rw [if_neg a0, if_neg a0]
  by_cases a0 : v = 5
  · rw [if_pos a0, if_pos a0]
  rw [if_neg a0, if_neg a0]
  by_cases a0 : v = 6
  · rw [if_pos a0, if_pos a0]
  rw [if_neg a0, if_neg a0]
  by_cases a0 : v = 7
  · rw [if_pos a0, if_pos a0]
  rw [if_neg a0, if_neg a0]
  by_cases a0 : v = 8
  · rw [if_pos a0, if_pos a0]
  rw [if_neg a0, if_neg a0]
  by_cases a0 : v = 9
  · rw [if_pos a0, if_pos a0]
  rw [if_neg a0, if_neg a0]
  by_cases a0 : v = 10
  · rw [if_pos a0, if_pos a0]
  rw [if_neg a0, if_neg a0]
  by_cases a0 : v = 11
  · rw [if_pos a0, if_pos a0]
  rw [if_neg a0, if_neg a0]
  by_cases a0 : v = 12
  · rw [if_pos a0, if_pos a0]
  rw [if_neg a0, if_neg a0]
  by_cases a0 : v = 13
  · rw [if_pos a0, if_pos a0]
  rw [if_neg a0, if_neg a0]
  by_cases a0 : v = 14
  · rw [if_pos a0, if_pos a0]
    cases hl
    · rfl
    · rfl
  rw [if_neg a0, if_neg a0]
theorem RM.has {h : jH} {o : Nat} {w v : Int} (hk : spXk ns blk len b X) (hw : h o 66 = w) (r : RM h o ns blk len p X) : M_has h o v = some (spDHas ns len w v X) := by
  have hd := hk.dim
  have hC := hk.1.1.rec.2
  obtain ⟨m, q1, q2, q3, q4, q5, q6⟩ := r.2
  clear hk
  unfold M_has spDHas
  have hX : (X.2.1.length : Int) = h o 73 := q3.symm
  have hq := q6.que
  have hkp := q6.kp.1
  have hlf : h (o + 33) 3 = X.1.2.1.2 := by
    generalize X.1 = s at q6 ⊢
    obtain ⟨⟨D, C⟩, ⟨F, lf⟩, ⟨q, fl, first⟩, ⟨wt, kp⟩, ⟨tab, stab, snap, tops⟩, ⟨sg, at', ser, gr, hl, tk⟩⟩ := s
    exact q6.2.1.2
  have hsc := m_scar hd hC hq.2.2.2.2.2.2.2.2.1
  obtain ⟨z1, z2, z11, z10, z9, z4, z12, z184, zD, z0⟩ := hq
  rw [m_seg zD, m_len zD hd, hsc]
  simp only [Option.bind_some]
  have ci : ∀ (k : Int), 0 ≤ k → k.toNat < 2365 → (∀ v : Option Int, (if (0 : Int) ≤ k ∧ k.toNat < 2365 then v else none) = v) := fun k h1 h2 v => if_pos ⟨h1, h2⟩
  rw [ci 0 (by decide) (by decide), ci 1 (by decide) (by decide), ci 2 (by decide) (by decide), ci 11 (by decide) (by decide), ci 4 (by decide) (by decide), ci 3 (by decide) (by decide), ci 9 (by decide) (by decide), ci 12 (by decide) (by decide), ci 2244 (by decide) (by decide), ci 10 (by decide) (by decide)]
  rw [show ((0 : Int)).toNat = 0 from rfl, show ((1 : Int)).toNat = 1 from rfl, show ((2 : Int)).toNat = 2 from rfl, show ((11 : Int)).toNat = 11 from rfl, show ((4 : Int)).toNat = 4 from rfl, show ((3 : Int)).toNat = 3 from rfl, show ((9 : Int)).toNat = 9 from rfl, show ((12 : Int)).toNat = 12 from rfl, show ((2244 : Int)).toNat = 2244 from rfl, show ((10 : Int)).toNat = 10 from rfl]
  rw [z0, z1, z2, z11, z4, hlf, z9, z12, hkp, hw, z10, hX]
  by_cases a0 : v = 0
  · rw [if_pos a0, if_pos a0]
  rw [if_neg a0, if_neg a0]
  by_cases a0 : v = 1
  · rw [if_pos a0, if_pos a0]
  rw [if_neg a0, if_neg a0]
  by_cases a0 : v = 2
  · rw [if_pos a0, if_pos a0]
  rw [if_neg a0, if_neg a0]
  by_cases a0 : v = 3
  · rw [if_pos a0, if_pos a0]
  rw [if_neg a0, if_neg a0]
  by_cases a0 : v = 4
  · rw [if_pos a0, if_pos a0]
  rw [if_neg a0, if_neg a0]
  by_cases a0 : v = 5
  · rw [if_pos a0, if_pos a0]
  rw [if_neg a0, if_neg a0]
  by_cases a0 : v = 6
  · rw [if_pos a0, if_pos a0]
  rw [if_neg a0, if_neg a0]
  by_cases a0 : v = 7
  · rw [if_pos a0, if_pos a0]
  rw [if_neg a0, if_neg a0]
  by_cases a0 : v = 8
  · rw [if_pos a0, if_pos a0]
  rw [if_neg a0, if_neg a0]
  by_cases a0 : v = 9
  · rw [if_pos a0, if_pos a0]
  rw [if_neg a0, if_neg a0]
  by_cases a0 : v = 10
  · rw [if_pos a0, if_pos a0]
  rw [if_neg a0, if_neg a0]
  by_cases a0 : v = 11
  · rw [if_pos a0, if_pos a0]
  rw [if_neg a0, if_neg a0]
  by_cases a0 : v = 12
  · rw [if_pos a0, if_pos a0]
  rw [if_neg a0, if_neg a0]
  by_cases a0 : v = 13
  · rw [if_pos a0, if_pos a0]
  rw [if_neg a0, if_neg a0]
  by_cases a0 : v = 14
  · rw [if_pos a0, if_pos a0]
  rw [if_neg a0, if_neg a0]
end HAS
