/-! giving up: the spec, the class -/
def spSum (g : Nat → Int) : Nat → Int
  | 0 => 0
  | n + 1 => spSum g n + g n
theorem spSum_split {g : Nat → Int} {s : Nat} : ∀ n, spSum g n = (if s < n then g s else 0) + spSum (fun i => if i = s then 0 else g i) n := by
  intro n
  induction n with
  | zero => simp [spSum]
  | succ n ih =>
    show spSum g n + g n = _ + (spSum (fun i => if i = s then 0 else g i) n + (if n = s then 0 else g n))
    rw [ih]
    by_cases a : n = s
    · subst a
      rw [if_neg (by omega), if_pos (by omega), if_pos rfl]; omega
    · by_cases b : s < n
      · rw [if_pos b, if_pos (by omega), if_neg a]; omega
      · rw [if_neg b, if_neg (by omega), if_neg a]; omega
theorem spSum_congr {g g' : Nat → Int} : ∀ n, (∀ i, i < n → g i = g' i) → spSum g n = spSum g' n := by
  intro n
  induction n with
  | zero => intro _; rfl
  | succ n ih => intro h; show spSum g n + g n = spSum g' n + g' n; rw [ih (fun i hi => h i (by omega)), h n (by omega)]
/-- from which byte on a segment is given up -/
def spGk (D : Nat → Nat → Int) (len : Nat) (ser : Int) (sg at' i : Nat) : Nat := if ser = 0 then 0 else if i = sg then at' else if spHead (D i) = true ∧ ser < spSer (D i) then 0 else len
def spGw (k : Nat → Nat) (f : Nat → Nat → Int) : Nat → Nat → Int := fun s j => if k s ≤ j then 0 else f s j
def spGc (D : Nat → Nat → Int) (len : Nat) (k : Nat → Nat) (i : Nat) : Int := spNz (D i) (len - k i) (k i)
/-- the state given up, and how many bytes were -/
def spGiv (ns len : Nat) : spSt → spSt × Int
  | ((D, C), f, (q, fl, first), w, t, (sg, at', ser, gr, hl, tk)) =>
    if ser = 0 then (((spArrD (spOut 0 0 (spHdB (wr (gr + 1)) first)) (spGw (spGk D len ser sg at') D), spArrC (spOut 0 0 (spHdB (wr (gr + 1)) first)) (spGw (spGk D len ser sg at') C)), f, (q, fl, first), w, t, (0, 5, wr (gr + 1), wr (gr + 1), false, tk)), spSum (spGc D len (spGk D len ser sg at')) ns)
    else (((spGw (spGk D len ser sg at') D, spGw (spGk D len ser sg at') C), f, (q, fl, first), w, t, (sg, at', ser, gr, false, tk)), spSum (spGc D len (spGk D len ser sg at')) ns)
/-- a halted state holds no records -/
def spHal : spSt → Prop
  | (_, (F, _), (q, _, _), _, (_, _, _, tops), (_, _, ser, _, hl, _)) => hl = true → q = [] ∧ F = [] ∧ (ser = 0 → tops 0 = -1)
section GIV
variable {ns blk len : Nat}
theorem CD.ext {h : jH} {o : Nat} {D C D' C' : Nat → Nat → Int} (hc : CD h o ns blk len D C) (e1 : ∀ s k, s < ns → k < len → D' s k = D s k) (e2 : ∀ s k, s < ns → k < len → C' s k = C s k) : CD h o ns blk len D' C' := by
  obtain ⟨x1, x2, x3, x4, x5, x6⟩ := hc
  exact ⟨x1, x2, x3, fun s k h1 h2 => by rw [e1 s k h1 h2]; exact x4 s k h1 h2, fun s k h1 h2 => by rw [e2 s k h1 h2]; exact x5 s k h1 h2, x6⟩
theorem MD.ext {h : jH} {o : Nat} {D C D' C' : Nat → Nat → Int} (hc : MD h o ns blk len D C) (e1 : ∀ s k, s < ns → k < len → D' s k = D s k) (e2 : ∀ s k, s < ns → k < len → C' s k = C s k) : MD h o ns blk len D' C' := by
  obtain ⟨x1, x2, x3, x4, x5, x6⟩ := hc
  exact ⟨x1, x2, x3, fun s k h1 h2 => by rw [e1 s k h1 h2]; exact x4 s k h1 h2, fun s k h1 h2 => by rw [e2 s k h1 h2]; exact x5 s k h1 h2, x6⟩
theorem spGk_le {D : Nat → Nat → Int} {ser : Int} {sg at' i : Nat} (h : at' ≤ len) : spGk D len ser sg at' i ≤ len := by
  unfold spGk
  split
  · omega
  · split
    · exact h
    · split <;> omega
/-- what is wiped when so many segments are behind (and, at once, another) -/
def spGp (k : Nat → Nat) (i : Nat) (x : Nat → Bool) (f : Nat → Nat → Int) : Nat → Nat → Int := fun s j => if (s < i ∨ x s = true) ∧ k s ≤ j then 0 else f s j
theorem spGp_step {k : Nat → Nat} {i : Nat} {x : Nat → Bool} {f : Nat → Nat → Int} : spWipe (spGp k i x f) i (k i) = spGp k (i + 1) x f := by
  funext s j
  unfold spWipe spGp
  by_cases a : s = i
  · subst a
    by_cases b : k s ≤ j
    · rw [if_pos ⟨rfl, b⟩, if_pos ⟨Or.inl (by omega), b⟩]
    · rw [if_neg (fun h => b h.2), if_neg (fun h => b h.2), if_neg (fun h => b h.2)]
  · rw [if_neg (fun h => a h.1)]
    by_cases b : (s < i ∨ x s = true) ∧ k s ≤ j
    · rw [if_pos b, if_pos ⟨b.1.elim (fun h => Or.inl (by omega)) Or.inr, b.2⟩]
    · rw [if_neg b, if_neg (fun h => b ⟨h.1.elim (fun h => Or.inl (by omega)) Or.inr, h.2⟩)]
theorem spGp_skip {k : Nat → Nat} {i : Nat} {x : Nat → Bool} {f : Nat → Nat → Int} (h : len ≤ k i ∨ x i = true) {s j : Nat} (hj : j < len) : spGp k (i + 1) x f s j = spGp k i x f s j := by
  unfold spGp
  by_cases b : (s < i ∨ x s = true) ∧ k s ≤ j
  · rw [if_pos b, if_pos ⟨b.1.elim (fun h => Or.inl (by omega)) Or.inr, b.2⟩]
  · rw [if_neg b, if_neg]
    intro hh
    refine b ⟨?_, hh.2⟩
    rcases hh.1 with h1 | h1
    · by_cases e : s = i
      · subst e
        rcases h with h2 | h2
        · omega
        · exact Or.inr h2
      · exact Or.inl (by omega)
    · exact Or.inr h1
theorem spGp_all {k : Nat → Nat} {n : Nat} {x : Nat → Bool} {f : Nat → Nat → Int} {s j : Nat} (hs : s < n) : spGw k f s j = spGp k n x f s j := by
  unfold spGw spGp
  by_cases a : k s ≤ j
  · rw [if_pos a, if_pos ⟨Or.inl hs, a⟩]
  · rw [if_neg a, if_neg (fun h => a h.2)]
theorem spGp_row {k : Nat → Nat} {i : Nat} {x : Nat → Bool} {f : Nat → Nat → Int} (h : x i = false) : spGp k i x f i = f i := by
  funext j
  unfold spGp
  rw [if_neg]
  intro hh
  rcases hh.1 with h1 | h1
  · omega
  · rw [h] at h1; cases h1
theorem spGp_by {k : Nat → Nat} {i : Nat} {x : Nat → Bool} {f : Nat → Nat → Int} (hy : spByD ns len f) : spByD ns len (spGp k i x f) := by
  intro s hs j hj
  unfold spGp
  split
  · omega
  · exact hy s hs j hj
/-- the class's loop -/
theorem c_givL {o sg at' : Nat} {ser v1 : Int} {D C : Nat → Nat → Int} {x : Nat → Bool} (hd0 : spDim ns blk len) (hat : at' ≤ len) (hy : spByD ns len D) (hv1 : v1 = if ser = 0 then 0 else 1) (hx : ∀ i, x i = (!decide (ser = 0) && decide (i = sg))) : ∀ (m i : Nat) (h : jH) (acc : Int), i + m = ns → CD h (o + 1) ns blk len (spGp (spGk D len ser sg at') i x D) (spGp (spGk D len ser sg at') i x C) → h o 10 = (sg : Int) → h o 12 = ser → 0 ≤ acc → acc + 128 * (m : Int) ≤ 100000 →
    ∃ h', St_giveUpRest_L44 h o v1 acc (i : Int) = (if v1 = 0 then Option.bind (St_openAtOnce h' o (h' (o + 7) 4)) (fun b11 => some (acc + (spSum (fun i => if x i = true then 0 else spGc D len (spGk D len ser sg at') i) ns - spSum (fun i => if x i = true then 0 else spGc D len (spGk D len ser sg at') i) i), b11)) else some (acc + (spSum (fun i => if x i = true then 0 else spGc D len (spGk D len ser sg at') i) ns - spSum (fun i => if x i = true then 0 else spGc D len (spGk D len ser sg at') i) i), h')) ∧ (∀ z, z ≠ o + 2 → z ≠ o + 3 → h' z = h z) ∧ CD h' (o + 1) ns blk len (spGp (spGk D len ser sg at') ns x D) (spGp (spGk D len ser sg at') ns x C) := by
  have hl := hd0.len
  have hn4 := hd0.2.1
  unfold St_giveUpRest_L44
  intro m
  induction m with
  | zero =>
    intro i h acc hi hc h10 h12 h0 h1
    obtain rfl : i = ns := by omega
    refine ⟨h, ?_, fun _ _ _ => rfl, hc⟩
    rw [Int.sub_self, Int.add_zero]
    refine jloop_x ?_
    show St_giveUpRest_B44 h o v1 acc (i : Int) = _
    unfold St_giveUpRest_B44
    rw [hc.1, if_neg (by omega)]
  | succ m ih =>
    intro i h acc hi hc h10 h12 h0 h1
    have hi' : i < ns := by omega
    obtain ⟨S, hS⟩ : ∃ S : Nat → Int, S = (fun i => if x i = true then 0 else spGc D len (spGk D len ser sg at') i) := ⟨_, rfl⟩
    have hSi : spSum S (i + 1) = spSum S i + S i := rfl
    have hyp := spGp_by (k := spGk D len ser sg at') (i := i) (x := x) hy
    -- what the body does
    have wipe : S i = spNz (spGp (spGk D len ser sg at') i x D i) (len - spGk D len ser sg at' i) (spGk D len ser sg at' i) → spGk D len ser sg at' i = 0 → St_giveUpRest_B44 h o v1 acc (i : Int) = St_giveUpRest_p105 h o v1 acc (i : Int) → ∃ h', jloop (fun s : (Int × Int × jH) => St_giveUpRest_B44 s.2.2 o v1 s.1 s.2.1) (acc, (i : Int), h) = (if v1 = 0 then Option.bind (St_openAtOnce h' o (h' (o + 7) 4)) (fun b11 => some (acc + (spSum S ns - spSum S i), b11)) else some (acc + (spSum S ns - spSum S i), h')) ∧ (∀ z, z ≠ o + 2 → z ≠ o + 3 → h' z = h z) ∧ CD h' (o + 1) ns blk len (spGp (spGk D len ser sg at') ns x D) (spGp (spGk D len ser sg at') ns x C) := by
      intro hSe hk0 hB
      obtain ⟨g, e1, e2, e3⟩ := c_wipe (od := o + 1) (s := i) (k := 0) hd0 hi' (by omega) hc
      rw [hk0] at hSe
      rw [← hSe] at e1
      rw [← hk0, spGp_step, spGp_step] at e3
      have hb := spNz_in (b := spGp (spGk D len ser sg at') i x D i) (len - 0) 0
      rw [← hSe] at hb
      obtain ⟨h', w1, w2, w3⟩ := ih (i + 1) g (acc + S i) (by omega) e3 (by rw [e2 o (by omega) (by omega)]; exact h10) (by rw [e2 o (by omega) (by omega)]; exact h12) (by omega) (by omega)
      rw [← hS, hSi, show acc + S i + (spSum S ns - (spSum S i + S i)) = acc + (spSum S ns - spSum S i) by omega] at w1
      refine ⟨h', (jloop_l (s' := (acc + S i, ((i + 1 : Nat) : Int), g)) ?_).trans w1, fun z z1 z2 => (w2 z z1 z2).trans (e2 z (by omega) (by omega)), w3⟩
      dsimp only
      rw [hB]
      unfold St_giveUpRest_p105
      rw [show Di_wipe h (o + 1) (i : Int) 0 = some (S i, g) from e1]
      simp only [Option.bind_some]
      rw [pw (by omega) (by omega), pw (by omega) (by omega)]
      rfl
    have skip : S i = 0 → (len ≤ spGk D len ser sg at' i ∨ x i = true) → St_giveUpRest_B44 h o v1 acc (i : Int) = some (.inl (acc, ((i + 1 : Nat) : Int), h)) → ∃ h', jloop (fun s : (Int × Int × jH) => St_giveUpRest_B44 s.2.2 o v1 s.1 s.2.1) (acc, (i : Int), h) = (if v1 = 0 then Option.bind (St_openAtOnce h' o (h' (o + 7) 4)) (fun b11 => some (acc + (spSum S ns - spSum S i), b11)) else some (acc + (spSum S ns - spSum S i), h')) ∧ (∀ z, z ≠ o + 2 → z ≠ o + 3 → h' z = h z) ∧ CD h' (o + 1) ns blk len (spGp (spGk D len ser sg at') ns x D) (spGp (spGk D len ser sg at') ns x C) := by
      intro hSe hkk hB
      obtain ⟨h', w1, w2, w3⟩ := ih (i + 1) h acc (by omega) (hc.ext (fun s k _ h2 => spGp_skip hkk h2) (fun s k _ h2 => spGp_skip hkk h2)) h10 h12 (by omega) (by omega)
      rw [← hS, hSi, hSe, Int.add_zero] at w1
      exact ⟨h', (jloop_l (s' := (acc, ((i + 1 : Nat) : Int), h)) hB).trans w1, w2, w3⟩
    rw [← hS]
    have hB0 : St_giveUpRest_B44 h o v1 acc (i : Int) = (if (i : Int) = (sg : Int) then St_giveUpRest_p94 h o v1 acc (i : Int) 0 else if spHead (spGp (spGk D len ser sg at') i x D i) = true ∧ ser < spSer (spGp (spGk D len ser sg at') i x D i) then St_giveUpRest_p94 h o v1 acc (i : Int) 1 else St_giveUpRest_p94 h o v1 acc (i : Int) 0) := by
      unfold St_giveUpRest_B44 St_giveUpRest_p93
      rw [hc.1, if_pos (by omega), h10]
      by_cases a : (i : Int) = (sg : Int)
      · rw [if_pos a, if_pos a]
      · rw [if_neg a, if_neg a, c_head hd0 hc hyp hi']
        simp only [Option.bind_some]
        by_cases b : spHead (spGp (spGk D len ser sg at') i x D i) = true
        · rw [if_pos b, if_neg (by decide), c_ser hd0 hc hyp hi']
          simp only [Option.bind_some]
          rw [h12]
          by_cases c : ser < spSer (spGp (spGk D len ser sg at') i x D i)
          · rw [if_pos c, if_pos ⟨b, c⟩]
          · rw [if_neg c, if_neg (fun h => c h.2)]
        · rw [if_neg b, if_pos rfl, if_neg (fun h => b h.1)]
    have p94 : ∀ w : Int, St_giveUpRest_p94 h o v1 acc (i : Int) w = if v1 = 0 then St_giveUpRest_p105 h o v1 acc (i : Int) else if w = 0 then some (.inl (acc, ((i + 1 : Nat) : Int), h)) else St_giveUpRest_p105 h o v1 acc (i : Int) := by
      intro w
      unfold St_giveUpRest_p94
      rw [pw (x := (i : Int) + 1) (by omega) (by omega)]
      rfl
    by_cases z : ser = 0
    · have hv : v1 = 0 := by rw [hv1, if_pos z]
      have hxf : x i = false := by rw [hx, z]; rfl
      have hk0 : spGk D len ser sg at' i = 0 := by unfold spGk; rw [if_pos z]
      refine wipe (by rw [hS]; dsimp only; rw [hxf, if_neg (by decide), spGp_row hxf]; rfl) hk0 ?_
      rw [hB0, p94, p94, if_pos hv, if_pos hv]
      split
      · rfl
      · split <;> rfl
    · have hv : ¬ v1 = 0 := by rw [hv1, if_neg z]; decide
      by_cases a : i = sg
      · have hxt : x i = true := by rw [hx]; simp [z, a]
        refine skip (by rw [hS]; dsimp only; rw [if_pos hxt]) (Or.inr hxt) ?_
        rw [hB0, if_pos (by omega), p94, if_neg hv, if_pos rfl]
      · have hxf : x i = false := by rw [hx]; simp [a]
        rw [spGp_row hxf] at hB0
        rw [if_neg (by omega)] at hB0
        by_cases b : spHead (D i) = true ∧ ser < spSer (D i)
        · have hk0 : spGk D len ser sg at' i = 0 := by unfold spGk; rw [if_neg z, if_neg a, if_pos b]
          refine wipe (by rw [hS]; dsimp only; rw [hxf, if_neg (by decide), spGp_row hxf]; rfl) hk0 ?_
          rw [hB0, if_pos b, p94, if_neg hv, if_neg (by decide)]
        · have hk0 : spGk D len ser sg at' i = len := by unfold spGk; rw [if_neg z, if_neg a, if_neg b]
          refine skip (by rw [hS]; dsimp only; rw [hxf, if_neg (by decide)]; unfold spGc; rw [hk0, Nat.sub_self]; rfl) (Or.inl (by omega)) ?_
          rw [hB0, if_neg b, p94, if_neg hv, if_pos rfl]
end GIV
