/-! a wait by the reference; a flip, on both sides -/
section ACV
variable {ns blk len o : Nat}
theorem spAw_app2 (wt : spWt) (who : Nat) (num : Int) (x : Nat) (h : ∀ e ∈ wt, e.1 ≠ (who : Int)) : spAw (wt ++ [((who : Int), num)]) (x : Int) = if (who : Int) = (x : Int) then num else spAw wt (x : Int) := by
  induction wt with
  | nil => rfl
  | cons e r ih =>
    show (if e.1 = (x : Int) then e.2 else spAw (r ++ [((who : Int), num)]) (x : Int)) = if (who : Int) = (x : Int) then num else (if e.1 = (x : Int) then e.2 else spAw r (x : Int))
    rw [ih (fun e he => h e (List.mem_cons_of_mem _ he))]
    have := h e List.mem_cons_self
    by_cases a : e.1 = (x : Int)
    · rw [if_pos a, if_neg (by omega), if_pos a]
    · rw [if_neg a, if_neg a]
theorem m_wai {h : jH} {who : Nat} {num b : Int} {kpm : spKp} {s : spSt} (hs : MS h o ns blk len kpm s) (hI : spInv ns blk len b s) (hw : who < 8) (ha : spAw s.2.2.2.1.1 (who : Int) = -1) : MS (jup (jup (jup h (o + 33) (184 + who) num) (o + 33) (176 + s.2.2.2.1.1.length) (who : Int)) (o + 33) 12 ((s.2.2.2.1.1.length : Int) + 1)) o ns blk len kpm (spWai (who : Int) num s) := by
  have hl := spWai_len hI (by omega) ha
  obtain ⟨g, hg⟩ : ∃ g : jH, g = (jup (jup (jup h (o + 33) (184 + who) num) (o + 33) (176 + s.2.2.2.1.1.length) (who : Int)) (o + 33) 12 ((s.2.2.2.1.1.length : Int) + 1)) := ⟨_, rfl⟩
  rw [← hg]
  obtain ⟨⟨D, C⟩, ⟨F, lf⟩, ⟨q, fl, first⟩, ⟨wt, kp⟩, ⟨tab, stab, snap, tops⟩, ⟨sg, at', ser, gr, hl', tk⟩⟩ := s
  obtain ⟨i1, i2, i3, i4, i5, i6, i7⟩ := hI
  obtain ⟨c1, ⟨c2, c2'⟩, c3, ⟨c4, c4', c4''⟩, c5, ⟨t1, t2, t3, t4⟩, p1, p2, p3, p4, p5, p6, p7⟩ := hs
  dsimp only at hl hg
  have go : ∀ z, z ≠ o + 33 → g z = h z := fun z hz => by rw [hg, jup_ne hz, jup_ne hz, jup_ne hz]
  have gw : ∀ i, g (o + 33) i = if i = 12 then (wt.length : Int) + 1 else if i = 176 + wt.length then (who : Int) else if i = 184 + who then num else h (o + 33) i := fun i => by rw [hg, ju_if, ju_if, ju_if]
  have kk : ∀ i, i ≠ 12 → ¬ (176 ≤ i ∧ i < 192) → g (o + 33) i = h (o + 33) i := fun i i1 i2 => by rw [gw, if_neg i1, if_neg (by omega), if_neg (by omega)]
  refine ⟨c1.fr i1.1 (go _ (by omega)) (fun i _ _ => kk i (by omega) (by omega)), ⟨⟨by rw [kk _ (by omega) (by omega)]; exact c2.1, fun i e he => ?_⟩, by rw [kk _ (by omega) (by omega)]; exact c2'⟩, ⟨by rw [kk _ (by omega) (by omega)]; exact c3.1, by rw [kk _ (by omega) (by omega)]; exact c3.2.1, by rw [kk _ (by omega) (by omega)]; exact c3.2.2.1, c3.2.2.2.1, c3.2.2.2.2.1, fun i r hr => ?_⟩, ⟨by rw [gw, if_pos rfl, List.length_append]; simp, fun i e he => ?_, fun x hx => ?_⟩, ⟨by rw [kk _ (by omega) (by omega)]; exact c5.1, c5.2.1, fun i e he => ?_⟩, ⟨fun i hi => by rw [kk _ (by omega) (by omega)]; exact t1 i hi, fun i hi => by rw [kk _ (by omega) (by omega)]; exact t2 i hi, by rw [kk _ (by omega) (by omega)]; exact t3, fun i hi => by rw [kk _ (by omega) (by omega)]; exact t4 i hi⟩, by rw [kk _ (by omega) (by omega)]; exact p1, by rw [kk _ (by omega) (by omega)]; exact p2, by rw [kk _ (by omega) (by omega)]; exact p3, by rw [kk _ (by omega) (by omega)]; exact p4, by rw [kk _ (by omega) (by omega)]; exact p5, by rw [kk _ (by omega) (by omega)]; exact p6, by rw [kk _ (by omega) (by omega)]; exact p7⟩
  · rw [kk _ (by omega) (by omega), kk _ (by omega) (by omega)]; exact c2.2 i e he
  · have hm : ((first + (i : Int)) % 32).toNat < 32 := by omega
    rw [kk _ (by omega) (by omega), kk _ (by omega) (by omega), kk _ (by omega) (by omega), kk _ (by omega) (by omega)]; exact c3.2.2.2.2.2 i r hr
  · rw [Nat.zero_add]
    rw [List.getElem?_append] at he
    by_cases hi : i < wt.length
    · rw [if_pos hi] at he
      rw [gw, if_neg (by omega), if_neg (by omega), if_neg (by omega)]
      have := c4' i e he
      rw [Nat.zero_add] at this
      exact this
    · rw [if_neg hi] at he
      have h0 : i - wt.length = 0 := by
        have := (List.getElem?_eq_some_iff.mp he).1
        simp at this
        omega
      rw [h0] at he
      have := Option.some.inj he
      rw [gw, if_neg (by omega), if_pos (by omega), ← this]
  · rw [spAw_app2 wt who num x hl.2.2]
    by_cases hx2 : x = who
    · rw [if_pos (by omega), gw, if_neg (by omega), if_neg (by omega), if_pos (by omega)]
    · rw [if_neg (by omega), gw, if_neg (by omega), if_neg (by omega), if_neg (by omega)]
      exact c4'' x hx
  · rw [kk _ (by omega) (by omega), kk _ (by omega) (by omega), kk _ (by omega) (by omega)]; exact c5.2.2 i e he
/-- a byte turned round -/
def spFlp (s k : Nat) : spSt → spSt
  | ((D, C), r) => ((up2 D s k (255 - D s k), up2 C s k (1 - C s k)), r)
theorem spInv_flp {b : Int} {s : spSt} {sg k : Nat} (hsg : sg < ns) (hk : k < len) (hI : spInv ns blk len b s) : spInv ns blk len b (spFlp sg k s) := by
  obtain ⟨⟨D, C⟩, ⟨F, lf⟩, ⟨q, fl, first⟩, ⟨wt, kp⟩, ⟨tab, stab, snap, tops⟩, ⟨sg', at', ser, gr, hl, tk⟩⟩ := s
  obtain ⟨i1, i2⟩ := hI
  refine ⟨⟨i1.1, fun s' hs' k' hk' => ?_, fun s' k' hs' hk' => ?_⟩, i2⟩
  · unfold up2
    have := i1.2.1 sg hsg k hk
    split
    · omega
    · exact i1.2.1 s' hs' k' hk'
  · unfold up2
    have := i1.2.2 sg k hsg hk
    split
    · omega
    · exact i1.2.2 s' k' hs' hk'
theorem c_turn {h : jH} {od s k : Nat} {D C : Nat → Nat → Int} (hd0 : spDim ns blk len) (hs : s < ns) (hk : k < len) (hy : spByD ns len D) (hC : ∀ s k, s < ns → k < len → 0 ≤ C s k ∧ C s k ≤ 1) (hc : CD h od ns blk len D C) : ∃ h', Di_turn h od ((s * len + k : Nat) : Int) = some h' ∧ (∀ q, q ≠ od + 1 → q ≠ od + 2 → h' q = h q) ∧ CD h' od ns blk len (up2 D s k (255 - D s k)) (up2 C s k (1 - C s k)) := by
  have hadr := hd0.adr hs hk
  obtain ⟨c1, c2, c3, c4, c5, c6⟩ := hc
  have hb := hy s hs k hk
  have hb2 := hC s k hs hk
  unfold Di_turn
  rw [g_cellN (by omega), c4 s k hs hk]
  simp only [Option.bind_some]
  rw [pw (by omega) (by omega), g_putN (by omega)]
  simp only [Option.bind_some]
  rw [g_cellN (by omega), jup_ne (by omega), c5 s k hs hk]
  simp only [Option.bind_some]
  rw [pw (by omega) (by omega), g_putN (by omega)]
  simp only [Option.bind_some]
  refine ⟨_, rfl, fun q q1 q2 => by rw [jup_ne q2, jup_ne q1], by rw [jup_ne (by omega), jup_ne (by omega)]; exact c1, by rw [jup_ne (by omega), jup_ne (by omega)]; exact c2, by rw [jup_ne (by omega), jup_ne (by omega)]; exact c3, fun s' k' hs' hk' => ?_, fun s' k' hs' hk' => ?_, fun i h1 h2 => ?_⟩
  · rw [jup_ne (by omega), ju_if]
    unfold up2
    by_cases a : s' = s ∧ k' = k
    · rw [if_pos a, if_pos (by rw [a.1, a.2])]
    · rw [if_neg a, if_neg (fun e => a (sp_adr_inj hk' hk e))]
      exact c4 s' k' hs' hk'
  · rw [ju_if, jup_ne (by omega)]
    unfold up2
    by_cases a : s' = s ∧ k' = k
    · rw [if_pos a, if_pos (by rw [a.1, a.2])]
    · rw [if_neg a, if_neg (fun e => a (sp_adr_inj hk' hk e))]
      exact c5 s' k' hs' hk'
  · rw [ju_ne (by omega), jup_ne (by omega)]
    exact c6 i h1 h2
theorem c_flp {h : jH} {n s' k : Nat} {b : Int} {s : spSt} (hs' : s' < ns) (hk : k < len) (hs : CS h o ns blk len n s) (hI : spInv ns blk len b s) : ∃ h', Di_turn h (o + 1) ((s' * len + k : Nat) : Int) = some h' ∧ (∀ q, q ≠ o + 2 → q ≠ o + 3 → h' q = h q) ∧ CS h' o ns blk len n (spFlp s' k s) := by
  obtain ⟨⟨D, C⟩, ⟨F, lf⟩, ⟨q, fl, first⟩, ⟨wt, kp⟩, ⟨tab, stab, snap, tops⟩, ⟨sg, at', ser, gr, hl, tk⟩⟩ := s
  obtain ⟨i1, i2, i3, i4, i5, i6, i7⟩ := hI
  obtain ⟨c1, ⟨c2, c2'⟩, c3, ⟨c4, c4'⟩, ⟨t1, t2, t3, t4⟩, p1, p2, p3, p4, p5, p6⟩ := hs
  obtain ⟨g, e1, e2, e3⟩ := c_turn i1.1 hs' hk i1.2.1 i1.2.2 c1
  have go : ∀ z, z ≠ o + 2 → z ≠ o + 3 → g z = h z := fun z z1 z2 => e2 z (by omega) (by omega)
  refine ⟨g, e1, go, e3, ⟨?_, by rw [go _ (by omega) (by omega)]; exact c2'⟩, c3.of (fun z z1 z2 => go z (by omega) (by omega)), ⟨?_, ?_⟩, ⟨?_, ?_, by rw [go _ (by omega) (by omega)]; exact t3, ?_⟩, by rw [go _ (by omega) (by omega)]; exact p1, by rw [go _ (by omega) (by omega)]; exact p2, by rw [go _ (by omega) (by omega)]; exact p3, by rw [go _ (by omega) (by omega)]; exact p4, by rw [go _ (by omega) (by omega)]; exact p5, by rw [go _ (by omega) (by omega)]; exact p6⟩
  · unfold CF; rw [go _ (by omega) (by omega), go _ (by omega) (by omega), go _ (by omega) (by omega)]; exact c2
  · unfold CW CWa; rw [go _ (by omega) (by omega), go _ (by omega) (by omega), go _ (by omega) (by omega)]; exact c4
  · unfold CKn; rw [go _ (by omega) (by omega), go _ (by omega) (by omega), go _ (by omega) (by omega), go _ (by omega) (by omega)]; exact c4'
  · rw [go _ (by omega) (by omega)]; exact t1
  · rw [go _ (by omega) (by omega)]; exact t2
  · rw [go _ (by omega) (by omega)]; exact t4
theorem m_flp {h : jH} {s' k : Nat} {b : Int} {kpm : spKp} {s : spSt} (hs' : s' < ns) (hk : k < len) (hs : MS h o ns blk len kpm s) (hI : spInv ns blk len b s) : ∃ h', M_turns h o ((128 * s' + k : Nat) : Int) = some h' ∧ (∀ q, q ≠ o + 33 → h' q = h q) ∧ MS h' o ns blk len kpm (spFlp s' k s) := by
  obtain ⟨⟨D, C⟩, ⟨F, lf⟩, ⟨q, fl, first⟩, ⟨wt, kp⟩, ⟨tab, stab, snap, tops⟩, ⟨sg, at', ser, gr, hl, tk⟩⟩ := s
  obtain ⟨i1, i2, i3, i4, i5, i6, i7⟩ := hI
  obtain ⟨c1, ⟨c2, c2'⟩, c3, ⟨c4, c4', c4''⟩, c5, ⟨t1, t2, t3, t4⟩, p1, p2, p3, p4, p5, p6, p7⟩ := hs
  have hl := i1.1.len
  have hn4 := i1.1.2.1
  obtain ⟨x1, x2, x3, x4, x5, x6⟩ := c1
  have hb := i1.2.1 s' hs' k hk
  have hb2 := i1.2.2 s' k hs' hk
  unfold M_turns
  rw [pw (x := 708 + ((128 * s' + k : Nat) : Int)) (by omega) (by omega), pw (x := 196 + ((128 * s' + k : Nat) : Int)) (by omega) (by omega), if_pos (by omega), if_pos (by omega), if_pos (by omega), if_pos (by omega), show (708 + ((128 * s' + k : Nat) : Int)).toNat = 708 + 128 * s' + k by omega, show (196 + ((128 * s' + k : Nat) : Int)).toNat = 196 + 128 * s' + k by omega, x4 s' k hs' hk, ju_ne (by omega), x5 s' k hs' hk, pw (by omega) (by omega), pw (by omega) (by omega)]
  obtain ⟨g, hg⟩ : ∃ g : jH, g = jup (jup h (o + 33) (708 + 128 * s' + k) (255 - D s' k)) (o + 33) (196 + 128 * s' + k) (1 - C s' k) := ⟨_, rfl⟩
  rw [← hg]
  have go : ∀ z, z ≠ o + 33 → g z = h z := fun z hz => by rw [hg, jup_ne hz, jup_ne hz]
  have gw : ∀ i, g (o + 33) i = if i = 196 + 128 * s' + k then 1 - C s' k else if i = 708 + 128 * s' + k then 255 - D s' k else h (o + 33) i := fun i => by rw [hg, ju_if, ju_if]
  have kk : ∀ i, (i < 196 ∨ 1220 ≤ i) → g (o + 33) i = h (o + 33) i := fun i i1 => by rw [gw, if_neg (by omega), if_neg (by omega)]
  refine ⟨g, rfl, go, ⟨by rw [go _ (by omega)]; exact x1, by rw [go _ (by omega)]; exact x2, by rw [go _ (by omega)]; exact x3, fun s k2 h1 h2 => ?_, fun s k2 h1 h2 => ?_, fun s k2 h1 h2 h3 => ?_⟩, ⟨⟨by rw [kk _ (by omega)]; exact c2.1, fun i e he => ?_⟩, by rw [kk _ (by omega)]; exact c2'⟩, ⟨by rw [kk _ (by omega)]; exact c3.1, by rw [kk _ (by omega)]; exact c3.2.1, by rw [kk _ (by omega)]; exact c3.2.2.1, c3.2.2.2.1, c3.2.2.2.2.1, fun i r hr => ?_⟩, ⟨by rw [kk _ (by omega)]; exact c4, fun i e he => ?_, fun x hx => by rw [kk _ (by omega)]; exact c4'' x hx⟩, ⟨by rw [kk _ (by omega)]; exact c5.1, c5.2.1, fun i e he => ?_⟩, ⟨fun i hi => by rw [kk _ (by omega)]; exact t1 i hi, fun i hi => by rw [kk _ (by omega)]; exact t2 i hi, by rw [kk _ (by omega)]; exact t3, fun i hi => by rw [kk _ (by omega)]; exact t4 i hi⟩, by rw [kk _ (by omega)]; exact p1, by rw [kk _ (by omega)]; exact p2, by rw [kk _ (by omega)]; exact p3, by rw [kk _ (by omega)]; exact p4, by rw [kk _ (by omega)]; exact p5, by rw [kk _ (by omega)]; exact p6, by rw [kk _ (by omega)]; exact p7⟩
  · unfold up2
    rw [gw, if_neg (by omega)]
    by_cases a : s = s' ∧ k2 = k
    · rw [if_pos a, if_pos (by omega)]
    · rw [if_neg a, if_neg (by omega)]; exact x4 s k2 h1 h2
  · unfold up2
    rw [gw]
    by_cases a : s = s' ∧ k2 = k
    · rw [if_pos a, if_pos (by omega)]
    · rw [if_neg a, if_neg (by omega), if_neg (by omega)]; exact x5 s k2 h1 h2
  · rw [gw, if_neg (by omega), if_neg (by omega)]; exact x6 s k2 h1 h2 h3
  · rw [kk _ (by omega), kk _ (by omega)]; exact c2.2 i e he
  · have hm : ((first + (i : Int)) % 32).toNat < 32 := by omega
    rw [kk _ (by omega), kk _ (by omega), kk _ (by omega), kk _ (by omega)]; exact c3.2.2.2.2.2 i r hr
  · have hi := (List.getElem?_eq_some_iff.mp he).1
    have := i4.1
    rw [kk _ (by omega)]; exact c4' i e he
  · have hi := (List.getElem?_eq_some_iff.mp he).1
    rw [kk _ (by omega), kk _ (by omega), kk _ (by omega)]; exact c5.2.2 i e he
end ACV
