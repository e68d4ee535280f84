/-! a question is answered: the class -/
/-- what a question's formula is told of a segment -/
def spQe (blk len : Nat) (s : spSt) (j : Nat) : spEnv := ((fun k => if k = 0 then s.2.2.2.2.2.2.2.2.2.2 else if k = 5 then (j : Int) else if k = 6 then (if spHead (s.1.1 j) = true then spSer (s.1.1 j) else 0) else if k = 7 then (if spHead (s.1.1 j) = true then spFst (s.1.1 j) else 0) else if k = 8 then (if spHead (s.1.1 j) = true then ((spWk blk len (s.1.1 j)).1.length : Int) else 0) else 0), (fun x => if 0 ≤ x ∧ x < (len : Int) then s.1.1 j x.toNat else 0), (fun x => if 0 ≤ x ∧ x < 16 then max 0 (s.2.2.2.2.1.1 x.toNat) else 0))
def spAcc (kd : Nat) (j v acc : Int) : Int :=
  if kd = 0 then (if v ≠ 0 ∧ acc = -1 then j else acc) else if kd = 1 then (if v ≠ 0 then j else acc) else if kd = 2 then (if v ≠ 0 then acc + 1 else acc) else if kd = 3 then acc + v else if kd = 4 then max acc v else min acc v
def spAc0 (kd : Nat) : Int := if kd < 2 then -1 else if kd < 4 then 0 else if kd = 4 then -1000000 else 1000000
def spAns (vals : Nat → Int) (kd : Nat) : Nat → Int
  | 0 => spAc0 kd
  | j + 1 => spAcc kd (j : Int) (vals j) (spAns vals kd j)
theorem spAns_s {vals : Nat → Int} {kd j : Nat} : spAns vals kd (j + 1) = spAcc kd (j : Int) (vals j) (spAns vals kd j) := rfl
section ANS
variable {ns blk len : Nat} {b : Int}
theorem spRun_ok {al : Int → Bool} {e : spEnv} (he : spEok e) : ∀ (K : List Int) (t t' : List Bool) (st : List Int), spTys al K t = some t' → spVals t st → spVals t' (spRun e K st) := by
  intro K
  induction K with
  | nil => intro t t' st h hv; cases h; exact hv
  | cons c K ih =>
    intro t t' st h hv
    unfold spTys at h
    split at h
    · cases h
    · rename_i t1 ht1
      exact ih t1 t' _ h (spStp_ok ht1 hv he)
theorem spTold_v {al : Int → Bool} {e : spEnv} {K : List Int} {b : Bool} (he : spEok e) (ht : spTys al K [] = some [b]) : spVal b (spTold e K) := by
  have h := spRun_ok he K [] [b] [] ht trivial
  unfold spTold
  match hr : spRun e K [], h with
  | [], h => exact h.elim
  | x :: _, h => exact h.1
theorem spTold_in {al : Int → Bool} {e : spEnv} {K : List Int} {b : Bool} (he : spEok e) (ht : spTys al K [] = some [b]) : -1000000 ≤ spTold e K ∧ spTold e K ≤ 1000000 := spVal_bd (spTold_v he ht)
theorem spQe_ok {s : spSt} {j : Nat} (hI : spInv ns blk len b s) (hj : j < ns) : spEok (spQe blk len s j) := by
  obtain ⟨⟨D, C⟩, ⟨F, lf⟩, ⟨q, fl, first⟩, ⟨wt, kp⟩, ⟨tab, stab, snap, tops⟩, ⟨sg, at', ser, gr, hl, tk⟩⟩ := s
  obtain ⟨i1, i2, i3, i4, i5, i6, i7⟩ := hI
  have hl5 := i1.1.len
  have hn4 := i1.1.2.1
  have hb4 := i1.1.2.2.1
  have h1 := spSer_in (b := D j) (len := len) (i1.2.1 j hj) (by omega)
  have h2 := spWalk_many (b := D j) (by omega) hl5.2.2.2 hl5.2.1 (by omega)
  unfold spQe
  refine ⟨fun k => ?_, fun x => ?_, fun x => ?_⟩
  · dsimp only
    repeat' split
    all_goals omega
  · dsimp only
    split
    · have := i1.2.1 j hj x.toNat (by omega); omega
    · omega
  · dsimp only
    split
    · have := i5.1 x.toNat (by omega); omega
    · omega
/-- the facts told so far -/
theorem c_tellL1 {o0 fo n : Nat} {s : spSt} (hfo : fo = o0 + 30) (j : Int) : ∀ (r i : Nat) (h : jH), r + i = 16 → CS h (o0 + 35) ns blk len n s → ∃ h', G_tellSegment_L111 h o0 fo j (i : Int) = G_tellSegment_L152 h' o0 fo j 0 ∧ (∀ z, z ≠ fo + 2 → h' z = h z) ∧ (∀ x, i ≤ x → x < 16 → h' (fo + 2) (16 + x) = max 0 (s.2.2.2.2.1.1 x)) ∧ ∀ x, (x < 16 + i ∨ 32 ≤ x) → h' (fo + 2) x = h (fo + 2) x := by
  unfold G_tellSegment_L111
  intro r
  induction r with
  | zero =>
    intro i h hr hs
    refine ⟨h, jloop_x ?_, fun _ _ => rfl, fun x h1 h2 => by omega, fun _ _ => rfl⟩
    show G_tellSegment_B111 h o0 fo j (i : Int) = _
    unfold G_tellSegment_B111
    rw [if_neg (by omega)]
  | succ r ih =>
    intro i h hr hs
    have htab : h (o0 + 53) i = s.2.2.2.2.1.1 i := by
      obtain ⟨⟨D, C⟩, ⟨F, lf⟩, ⟨q, fl, first⟩, ⟨wt, kp⟩, ⟨tab, stab, snap, tops⟩, ⟨sg, at', ser, gr, hl, tk⟩⟩ := s
      obtain ⟨c1, c2, c3, c4, ⟨t1, t2, t3, t4⟩, p1⟩ := hs
      exact t1 i (by omega)
    obtain ⟨h1, hh1⟩ : ∃ h1 : jH, h1 = jup h (fo + 2) (16 + i) (max 0 (s.2.2.2.2.1.1 i)) := ⟨_, rfl⟩
    have go : ∀ z, z ≠ fo + 2 → h1 z = h z := fun z hz => by rw [hh1, jup_ne hz]
    obtain ⟨h', e1, e2, e3, e4⟩ := ih (i + 1) h1 (by omega) (hs.eq (fun z z1 z2 => go z (by omega)))
    refine ⟨h', (jloop_l (s' := ((((i + 1 : Nat)) : Int), h1)) ?_).trans e1, fun z hz => by rw [e2 z hz, go z hz], fun x x1 x2 => ?_, fun x hx => by rw [e4 x (by omega), hh1, ju_ne (by omega)]⟩
    · show G_tellSegment_B111 h o0 fo j (i : Int) = _
      unfold G_tellSegment_B111 Fo_tell
      rw [if_pos (by omega), g_cellN (by omega), Option.bind_some, htab, pw (x := 16 + (i : Int)) (by omega) (by omega), show (16 + (i : Int)) = ((16 + i : Nat) : Int) by omega, g_putN (by omega), Option.bind_some, Option.bind_some, ← hh1, pw (by omega) (by omega)]
      rfl
    · by_cases c : x = i
      · rw [e4 (16 + x) (by omega), hh1, c, ju_eq]
      · exact e3 x (by omega) x2
theorem c_tellL2 {o0 fo j : Nat} {D C : Nat → Nat → Int} (hfo : fo = o0 + 30) (hd0 : spDim ns blk len) (hj : j < ns) : ∀ (r i : Nat) (h : jH), r + i = len → CD h (o0 + 36) ns blk len D C → ∃ h', G_tellSegment_L152 h o0 fo (j : Int) (i : Int) = some h' ∧ (∀ z, z ≠ fo + 2 → h' z = h z) ∧ (∀ x, i ≤ x → x < len → h' (fo + 2) (32 + x) = D j x) ∧ ∀ x, (x < 32 + i ∨ 32 + len ≤ x) → h' (fo + 2) x = h (fo + 2) x := by
  have hl5 := hd0.len
  unfold G_tellSegment_L152
  intro r
  induction r with
  | zero =>
    intro i h hr hs
    refine ⟨h, jloop_r ?_, fun _ _ => rfl, fun x h1 h2 => by omega, fun _ _ => rfl⟩
    show G_tellSegment_B152 h o0 fo (j : Int) (i : Int) = _
    unfold G_tellSegment_B152
    rw [show h (o0 + 36) 3 = (len : Int) from hs.2.1, if_neg (by omega)]
    rfl
  | succ r ih =>
    intro i h hr hs
    obtain ⟨h1, hh1⟩ : ∃ h1 : jH, h1 = jup h (fo + 2) (32 + i) (D j i) := ⟨_, rfl⟩
    have go : ∀ z, z ≠ fo + 2 → h1 z = h z := fun z hz => by rw [hh1, jup_ne hz]
    obtain ⟨h', e1, e2, e3, e4⟩ := ih (i + 1) h1 (by omega) (hs.eq (fun z z1 z2 => go z (by omega)))
    refine ⟨h', (jloop_l (s' := ((((i + 1 : Nat)) : Int), h1)) ?_).trans e1, fun z hz => by rw [e2 z hz, go z hz], fun x x1 x2 => ?_, fun x hx => by rw [e4 x (by omega), hh1, ju_ne (by omega)]⟩
    · show G_tellSegment_B152 h o0 fo (j : Int) (i : Int) = _
      unfold G_tellSegment_B152 Fo_tell
      rw [show h (o0 + 36) 3 = (len : Int) from hs.2.1, if_pos (by omega), c_oct hd0 hs hj (by omega), Option.bind_some, pw (x := 32 + (i : Int)) (by omega) (by omega), show (32 + (i : Int)) = ((32 + i : Nat) : Int) by omega, g_putN (by omega), Option.bind_some, Option.bind_some, ← hh1, pw (by omega) (by omega)]
      rfl
    · by_cases c : x = i
      · rw [e4 (32 + x) (by omega), hh1, c, ju_eq]
      · exact e3 x (by omega) x2
theorem c_tellSeg {h : jH} {o0 fo n j : Nat} {s : spSt} (hfo : fo = o0 + 30) (hI : spInv ns blk len b s) (hs : CS h (o0 + 35) ns blk len n s) (hj : j < ns) : ∃ h', G_tellSegment h o0 fo (j : Int) = some h' ∧ (∀ z, z ≠ fo + 2 → z ≠ o0 + 80 → h' z = h z) ∧ CFa (h' (fo + 2)) spAlQ (spQe blk len s j) := by
  have hq := hs.que
  have hD : CD h (o0 + 36) ns blk len s.1.1 s.1.2 := hq.2.2.2.2.2.2.1
  have hd0 : spDim ns blk len := by
    obtain ⟨⟨D, C⟩, ⟨F, lf⟩, ⟨q, fl, first⟩, ⟨wt, kp⟩, ⟨tab, stab, snap, tops⟩, ⟨sg, at', ser, gr, hl, tk⟩⟩ := s
    exact hI.1.1
  have hl5 := hd0.len
  have hy := hI.que.2.2.2.2.2.2.1
  have htk : h (o0 + 35) 9 = s.2.2.2.2.2.2.2.2.2.2 := hq.2.2.2.2.2.2.2
  have hhd : Di_headStands h (o0 + 36) (j : Int) = some (if spHead (s.1.1 j) = true then 1 else 0) := c_head hd0 hD hy hj
  obtain ⟨h1, hh1⟩ : ∃ h1 : jH, h1 = jup (jup (jfill h (fo + 2) 160 0) (fo + 2) 0 (s.2.2.2.2.2.2.2.2.2.2)) (fo + 2) 5 (j : Int) := ⟨_, rfl⟩
  have go1 : ∀ z, z ≠ fo + 2 → h1 z = h z := fun z hz => by rw [hh1, jup_ne hz, jup_ne hz, jfill_ne hz]
  have D1 : CD h1 (o0 + 36) ns blk len s.1.1 s.1.2 := hD.eq (fun z z1 z2 => go1 z (by omega))
  obtain ⟨a, ha⟩ : ∃ a : Int, a = (if spHead (s.1.1 j) = true then spSer (s.1.1 j) else 0) := ⟨_, rfl⟩
  obtain ⟨c, hc⟩ : ∃ c : Int, c = (if spHead (s.1.1 j) = true then spFst (s.1.1 j) else 0) := ⟨_, rfl⟩
  obtain ⟨h2, hh2⟩ : ∃ h2 : jH, h2 = jup h1 (fo + 2) 6 a := ⟨_, rfl⟩
  obtain ⟨h3, hh3⟩ : ∃ h3 : jH, h3 = jup h2 (fo + 2) 7 c := ⟨_, rfl⟩
  have go2 : ∀ z, z ≠ fo + 2 → h2 z = h z := fun z hz => by rw [hh2, jup_ne hz, go1 z hz]
  have go3 : ∀ z, z ≠ fo + 2 → h3 z = h z := fun z hz => by rw [hh3, jup_ne hz, go2 z hz]
  have D2 : CD h2 (o0 + 36) ns blk len s.1.1 s.1.2 := hD.eq (fun z z1 z2 => go2 z (by omega))
  have D3 : CD h3 (o0 + 36) ns blk len s.1.1 s.1.2 := hD.eq (fun z z1 z2 => go3 z (by omega))
  obtain ⟨h4, f1, f2⟩ := c_fc (r := o0 + 80) hd0 D3 hy hj (by omega)
  obtain ⟨h5, hh5⟩ : ∃ h5 : jH, h5 = jup h4 (fo + 2) 8 (if spHead (s.1.1 j) = true then ((spWk blk len (s.1.1 j)).1.length : Int) else 0) := ⟨_, rfl⟩
  have go5 : ∀ z, z ≠ fo + 2 → z ≠ o0 + 80 → h5 z = h z := fun z z1 z2 => by rw [hh5, jup_ne z1, f2 z z2, go3 z z1]
  obtain ⟨h6, x1, x2, x3, x4⟩ := c_tellL1 (ns := ns) (blk := blk) (len := len) (n := n) (s := s) hfo (j : Int) 16 0 h5 rfl (hs.eq (fun z z1 z2 => go5 z (by omega) (by omega)))
  obtain ⟨h7, y1, y2, y3, y4⟩ := c_tellL2 (fo := fo) (j := j) hfo hd0 hj len 0 h6 rfl (hD.eq (fun z z1 z2 => by rw [x2 z (by omega), go5 z (by omega) (by omega)]))
  have p81 : ∀ v : Int, v = c → G_tellSegment_p81 h2 o0 fo (j : Int) fo 7 v = some h7 := by
    intro v hv
    subst hv
    unfold G_tellSegment_p81 Fo_tell
    rw [show (7 : Int) = ((7 : Nat) : Int) from rfl, g_putN (by decide), Option.bind_some, Option.bind_some, ← hh3, f1, Option.bind_some]
    dsimp only
    rw [show (8 : Int) = ((8 : Nat) : Int) from rfl, g_putN (by decide), Option.bind_some, Option.bind_some, ← hh5]
    exact x1.trans y1
  have p56 : ∀ v : Int, v = a → G_tellSegment_p56 h1 o0 fo (j : Int) (if spHead (s.1.1 j) = true then 1 else 0) fo 6 v = some h7 := by
    intro v hv
    subst hv
    unfold G_tellSegment_p56 Fo_tell
    rw [show (6 : Int) = ((6 : Nat) : Int) from rfl, g_putN (by decide), Option.bind_some, Option.bind_some, ← hh2]
    by_cases e : spHead (s.1.1 j) = true
    · rw [if_pos e, if_neg (by decide), show Di_firstOf h2 (o0 + 36) (j : Int) = _ from c_fst hd0 D2 hy hj, Option.bind_some]
      exact p81 _ (by rw [hc, if_pos e])
    · rw [if_neg e, if_pos rfl]
      exact p81 _ (by rw [hc, if_neg e])
  refine ⟨h7, ?_, fun z z1 z2 => by rw [y2 z z1, x2 z z1, go5 z z1 z2], ?_⟩
  · unfold G_tellSegment Fo_clearFacts Fo_tell
    have t0 : G_put (jfill h (fo + 2) 160 0) (fo + 2) 160 0 (s.2.2.2.2.2.2.2.2.2.2) = some (jup (jfill h (fo + 2) 160 0) (fo + 2) 0 (s.2.2.2.2.2.2.2.2.2.2)) := g_putN (k := 0) (by decide)
    have t5 : G_put (jup (jfill h (fo + 2) 160 0) (fo + 2) 0 (s.2.2.2.2.2.2.2.2.2.2)) (fo + 2) 160 5 (j : Int) = some h1 := by rw [hh1]; exact g_putN (k := 5) (by decide)
    rw [hhd, Option.bind_some, Option.bind_some, jfill_ne (show o0 + 35 ≠ fo + 2 by omega), htk, t0, Option.bind_some, Option.bind_some, t5, Option.bind_some, Option.bind_some]
    by_cases e : spHead (s.1.1 j) = true
    · rw [if_neg (by rw [if_pos e]; decide), show Di_serialOf h1 (o0 + 36) (j : Int) = _ from c_ser hd0 D1 hy hj, Option.bind_some]
      exact p56 _ (by rw [ha, if_pos e])
    · rw [if_pos (by rw [if_neg e])]
      exact p56 _ (by rw [ha, if_neg e])
  · have low : ∀ k, k < 16 → h7 (fo + 2) k = (if k = 8 then (if spHead (s.1.1 j) = true then ((spWk blk len (s.1.1 j)).1.length : Int) else 0) else if k = 7 then c else if k = 6 then a else if k = 5 then (j : Int) else if k = 0 then s.2.2.2.2.2.2.2.2.2.2 else 0) := by
      intro k hk
      rw [y4 k (by omega), x4 k (by omega), hh5, ju_if, f2 (fo + 2) (by omega), hh3, ju_if, hh2, ju_if, hh1, ju_if, ju_if, jfill_at (by omega)]
    refine ⟨fun k hk hal => ?_, fun _ x => ⟨fun hx => ?_, fun hx => ?_⟩, fun _ x => ⟨fun hx => ?_, fun hx => ?_⟩⟩
    · rw [low k (by omega)]
      unfold spAlQ at hal
      simp only [Bool.or_eq_true, Bool.and_eq_true, decide_eq_true_eq] at hal
      have hk5 : k = 0 ∨ k = 5 ∨ k = 6 ∨ k = 7 ∨ k = 8 := by omega
      unfold spQe
      rcases hk5 with e | e | e | e | e <;> subst e
      · rfl
      · rfl
      · exact ha
      · exact hc
      · rfl
    · show _ = (if 0 ≤ x ∧ x < (len : Int) then s.1.1 j x.toNat else 0)
      by_cases c1 : x < (len : Int)
      · rw [if_pos ⟨hx.1, c1⟩]
        exact y3 x.toNat (Nat.zero_le _) (by omega)
      · rw [if_neg (by omega), y4 _ (by omega), x4 _ (by omega), hh5, ju_ne (by omega), f2 (fo + 2) (by omega), hh3, ju_ne (by omega), hh2, ju_ne (by omega), hh1, ju_ne (by omega), ju_ne (by omega), jfill_at (by omega)]
    · show (if 0 ≤ x ∧ x < (len : Int) then s.1.1 j x.toNat else 0) = 0
      rw [if_neg (by omega)]
    · show _ = (if 0 ≤ x ∧ x < 16 then max 0 (s.2.2.2.2.1.1 x.toNat) else 0)
      rw [if_pos hx, y4 _ (by omega)]
      exact x3 x.toNat (Nat.zero_le _) (by omega)
    · show (if 0 ≤ x ∧ x < 16 then max 0 (s.2.2.2.2.1.1 x.toNat) else 0) = 0
      rw [if_neg hx]
theorem spAns_b {vals : Nat → Int} (hv : ∀ j, j < ns → -1000000 ≤ vals j ∧ vals j ≤ 1000000) : ∀ j, j ≤ ns → (0 ≤ spAns vals 2 j ∧ spAns vals 2 j ≤ j) ∧ (-1000000 * (j : Int) ≤ spAns vals 3 j ∧ spAns vals 3 j ≤ 1000000 * (j : Int)) ∧ (-1 ≤ spAns vals 0 j ∧ spAns vals 0 j < j ∨ spAns vals 0 j = -1) := by
  intro j
  induction j with
  | zero => intro _; exact ⟨⟨(by decide : (0 : Int) ≤ 0), (by decide : (0 : Int) ≤ ((0 : Nat) : Int))⟩, ⟨(by decide : -1000000 * ((0 : Nat) : Int) ≤ 0), (by decide : (0 : Int) ≤ 1000000 * ((0 : Nat) : Int))⟩, Or.inr rfl⟩
  | succ j ih =>
    intro hj
    have h1 := hv j (by omega)
    obtain ⟨a1, a2, a3⟩ := ih (by omega)
    rw [spAns_s, spAns_s, spAns_s]
    unfold spAcc
    rw [if_neg (show ¬ (2 : Nat) = 0 by decide), if_neg (show ¬ (2 : Nat) = 1 by decide), if_pos (show (2 : Nat) = 2 from rfl), if_neg (show ¬ (3 : Nat) = 0 by decide), if_neg (show ¬ (3 : Nat) = 1 by decide), if_neg (show ¬ (3 : Nat) = 2 by decide), if_pos (show (3 : Nat) = 3 from rfl), if_pos (show (0 : Nat) = 0 from rfl)]
    refine ⟨?_, ?_, ?_⟩
    · split <;> omega
    · omega
    · split <;> omega
theorem c_ansL {o0 fo n kd : Nat} {s : spSt} {K : List Int} {bb : Bool} (hfo : fo = o0 + 30) (hkd : kd ≤ 5) (hI : spInv ns blk len b s) (ht : spTys spAlQ K [] = some [bb]) : ∀ (r j : Nat) (h : jH), r + j = ns → CS h (o0 + 35) ns blk len n s → CFm h fo K → ∃ h', G_answer_L24 h o0 (kd : Int) fo (spAns (fun i => spTold (spQe blk len s i) K) 3 j) (spAns (fun i => spTold (spQe blk len s i) K) 2 j) (spAns (fun i => spTold (spQe blk len s i) K) 0 j) (spAns (fun i => spTold (spQe blk len s i) K) 1 j) (spAns (fun i => spTold (spQe blk len s i) K) 4 j) (spAns (fun i => spTold (spQe blk len s i) K) 5 j) (j : Int) = some (spAns (fun i => spTold (spQe blk len s i) K) kd ns, h') ∧ ∀ z, z ≠ fo → z ≠ fo + 2 → z ≠ fo + 3 → z ≠ o0 + 80 → h' z = h z := by
  obtain ⟨vals, hvals⟩ : ∃ vals : Nat → Int, vals = fun i => spTold (spQe blk len s i) K := ⟨_, rfl⟩
  have hd0 : spDim ns blk len := by
    obtain ⟨⟨D, C⟩, ⟨F, lf⟩, ⟨q, fl, first⟩, ⟨wt, kp⟩, ⟨tab, stab, snap, tops⟩, ⟨sg, at', ser, gr, hl, tk⟩⟩ := s
    exact hI.1.1
  have hn4 := hd0.2.1
  rw [← hvals]
  unfold G_answer_L24
  intro r
  induction r with
  | zero =>
    intro j h hr hs hm
    have hj : j = ns := by omega
    subst hj
    refine ⟨h, jloop_r ?_, fun _ _ _ _ _ => rfl⟩
    show G_answer_B24 h o0 (kd : Int) fo (spAns vals 3 j) (spAns vals 2 j) (spAns vals 0 j) (spAns vals 1 j) (spAns vals 4 j) (spAns vals 5 j) (j : Int) = _
    have h2 : h (o0 + 36) 2 = (j : Int) := hs.que.2.2.2.2.2.2.1.1
    unfold G_answer_B24
    rw [h2, if_neg (by omega)]
    have hk6 : kd = 0 ∨ kd = 1 ∨ kd = 2 ∨ kd = 3 ∨ kd = 4 ∨ kd = 5 := by omega
    rcases hk6 with e | e | e | e | e | e <;> subst e <;> rfl
  | succ r ih =>
    intro j h hr hs hm
    have hj : j < ns := by omega
    have h2 : h (o0 + 36) 2 = (ns : Int) := hs.que.2.2.2.2.2.2.1.1
    obtain ⟨h1, a1, a2, a3⟩ := c_tellSeg hfo hI hs hj
    have m1 : CFm h1 fo K := hm.eq (by rw [a2 fo (by omega) (by omega)]) (a2 (fo + 1) (by omega) (by omega))
    obtain ⟨h3, b1, b2, b3⟩ := c_eval (spQe_ok hI hj) m1 a3 ht
    have ez : ∀ z, z ≠ fo → z ≠ fo + 2 → z ≠ fo + 3 → z ≠ o0 + 80 → h3 z = h z := fun z z1 z2 z3 z4 => by rw [b2.1 z z1 z3, a2 z z2 z4]
    have m3 : CFm h3 fo K := m1.eq (b2.2 1 (by decide)) (b2.1 (fo + 1) (by omega) (by omega))
    obtain ⟨h', w1, w2⟩ := ih (j + 1) h3 (by omega) (hs.eq (fun z z1 z2 => ez z (by omega) (by omega) (by omega) (by omega))) m3
    have hvb : ∀ i, i < ns → -1000000 ≤ vals i ∧ vals i ≤ 1000000 := by
      intro i hi
      rw [hvals]
      exact spTold_in (spQe_ok hI hi) ht
    have hbd := spAns_b hvb j (by omega)
    have hvj := hvb j hj
    obtain ⟨v, hv⟩ : ∃ v : Int, v = vals j := ⟨_, rfl⟩
    have hev : spTold (spQe blk len s j) K = v := by rw [hv, hvals]
    rw [hev] at b1
    rw [← hv] at hvj
    refine ⟨h', ?_, fun z z1 z2 z3 z4 => by rw [w2 z z1 z2 z3 z4, ez z z1 z2 z3 z4]⟩
    refine (jloop_l (s' := (spAns vals 3 (j + 1), spAns vals 2 (j + 1), spAns vals 0 (j + 1), spAns vals 1 (j + 1), spAns vals 4 (j + 1), spAns vals 5 (j + 1), (((j + 1 : Nat)) : Int), h3)) ?_).trans w1
    show G_answer_B24 h o0 (kd : Int) fo (spAns vals 3 j) (spAns vals 2 j) (spAns vals 0 j) (spAns vals 1 j) (spAns vals 4 j) (spAns vals 5 j) (j : Int) = _
    rw [spAns_s, spAns_s, spAns_s, spAns_s, spAns_s, spAns_s, ← hv]
    generalize spAns vals 3 j = A3 at *
    generalize spAns vals 2 j = A2 at *
    generalize spAns vals 0 j = A0 at *
    generalize spAns vals 1 j = A1 at *
    generalize spAns vals 4 j = A4 at *
    generalize spAns vals 5 j = A5 at *
    unfold G_answer_B24 G_answer_p94
    rw [h2, if_pos (by omega), a1, Option.bind_some, b1, Option.bind_some]
    dsimp only
    rw [pv (x := A3 + v) (by omega) (by omega), pw (x := A2 + 1) (by omega) (by omega), pw (x := (j : Int) + 1) (by omega) (by omega)]
    unfold spAcc
    by_cases c0 : v = 0
    · rw [if_pos c0]
      simp [c0]
    · rw [if_neg c0]
      by_cases c1 : A0 = -1
      · rw [if_pos c1]
        simp [c0, c1]
      · rw [if_neg c1]
        simp [c0, c1]
end ANS
