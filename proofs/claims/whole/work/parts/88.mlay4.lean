/-! the reference lays a group; room -/
theorem spOne_vis {ns blk len : Nat} {tp : Nat → Int} {snap num : Int} {st : Nat} {r : spRec} {x y : spL} (h : spOne ns blk len tp snap r num x = some y) (hst : x.1.2.2.2.2 st = true) : y.1.2.2.2.2 st = true := by
  unfold spOne at h
  split at h
  · cases h
  · rename_i q hg
    obtain ⟨eq, -⟩ := spGoes_same hg
    rw [← Option.some.inj h, eq]
    exact hst
  · rename_i q hg
    obtain ⟨t, _, _, _, eq, -⟩ := spGoes_new hg
    rw [← Option.some.inj h, eq]
    show spVis _ _ _ = true
    unfold spVis
    rw [hst]
    simp
section MAL
variable {o ns blk len : Nat} {D C : Nat → Nat → Int}
theorem m_p87 {h : jH} {v : Int} (hv : v = 0 ∨ v = 1) : ∃ h', M_areLaid_p87 h o v = some (v, h') ∧ (∀ q, q ≠ o + 33 → h' q = h q) ∧ (v = 1 → ∀ i, h' (o + 33) i = if i = 13 then 0 else h (o + 33) i) ∧ (v = 0 → ∀ i, h' (o + 33) i = if i < 2244 then h (o + 35) i else h (o + 33) i) := by
  unfold M_areLaid_p87
  rw [if_pos (by decide), show ((13 : Int)).toNat = 13 from rfl]
  unfold M_areLaid_L98
  rcases hv with rfl | rfl
  · obtain ⟨⟨k, h1⟩, ⟨e1, e2, e3⟩, e4⟩ := jloop_k (f := fun s : (Int × jH) => M_areLaid_B98 s.2 o 0 s.1) (fun k s => s.1 = (k : Int) ∧ (∀ q, q ≠ o + 33 → s.2 q = h q) ∧ (∀ i, s.2 (o + 33) i = if i < k then h (o + 35) i else (jup h (o + 33) 13 0) (o + 33) i)) 2244 (fun k s hk hp => by
      obtain ⟨x, g⟩ := s
      obtain ⟨p1, p2, p3⟩ := hp
      dsimp only at p1 p2 p3
      subst p1
      refine ⟨(((k + 1 : Nat) : Int), jup g (o + 33) k (h (o + 35) k)), ?_, rfl, fun q hq => (jup_ne hq).trans (p2 q hq), fun i => ?_⟩
      · show M_areLaid_B98 g o 0 (k : Int) = _
        unfold M_areLaid_B98
        rw [if_pos (by omega), if_pos rfl, if_pos (by omega), if_pos (by omega), pw (by omega) (by omega), Int.toNat_natCast, p2 _ (by omega)]
        rfl
      · show jup g (o + 33) k (h (o + 35) k) (o + 33) i = _
        rw [ju_if, p3 i]
        by_cases a : i = k
        · rw [if_pos a, if_pos (by omega), a]
        · rw [if_neg a]
          by_cases b : i < k
          · rw [if_pos b, if_pos (by omega)]
          · rw [if_neg b, if_neg (by omega)]) (k := 0) (s := ((0 : Int), jup h (o + 33) 13 0)) (by omega) ⟨rfl, fun q hq => jup_ne hq, fun i => rfl⟩
    dsimp only at e1 e2 e3
    subst e1
    rw [e4]
    refine ⟨h1, jloop_r ?_, e2, fun h => absurd h (by decide), fun _ i => ?_⟩
    · show M_areLaid_B98 h1 o 0 2244 = _
      unfold M_areLaid_B98
      rw [if_neg (by omega), if_pos (Or.inl rfl)]
      rfl
    · rw [e3 i]
      by_cases a : i < 2244
      · rw [if_pos a, if_pos a]
      · rw [if_neg a, if_neg a, ju_ne (by omega)]
  · refine ⟨jup h (o + 33) 13 0, jloop_r ?_, fun q hq => jup_ne hq, fun _ i => ju_if, fun h => absurd h (by decide)⟩
    show M_areLaid_B98 _ o 1 0 = _
    unfold M_areLaid_B98
    rw [if_pos (by omega), if_neg (by decide), if_pos (Or.inr rfl)]
    rfl
/-- the records' cells, by their numbers -/
def MQu (w : Nat → Int) (q : List spRec) (fl : Nat) (first : Int) : Prop := w 2 = first ∧ w 1 = first + (q.length : Int) ∧ w 11 = (q.length : Int) - (fl : Int) ∧ q.length ≤ 32 ∧ fl ≤ q.length ∧ ∀ (i : Nat) (r : spRec), q[i]? = some r → w (16 + 4 * ((first + i) % 32).toNat) = r.1 ∧ w (16 + 4 * ((first + i) % 32).toNat + 1) = r.2.1 ∧ w (16 + 4 * ((first + i) % 32).toNat + 2) = r.2.2.1 ∧ w (16 + 4 * ((first + i) % 32).toNat + 3) = r.2.2.2
theorem MQu.r {w : Nat → Int} {q : List spRec} {fl : Nat} {first : Int} (h : MQu w q fl first) {i : Nat} {r : spRec} (hi : q[i]? = some r) : MQr w (first + i) r := by
  have := h.2.2.2.2.2 i r hi
  exact ⟨this.1, this.2.1, this.2.2.1⟩
theorem m_allL {tp : Nat → Int} {snap first : Int} {st : Nat} {q : List spRec} {nn : Nat} (hd0 : spDim ns blk len) (hrk : ∀ r ∈ q, spRok r) (hf : 0 ≤ first ∧ first ≤ 2000000000) (hnq : nn ≤ q.length) (hq32 : q.length ≤ 32) : ∀ (m i : Nat) (h : jH) (x : spL), i + m = nn → MD h o ns blk len D C → MX (h (o + 33)) x → spLI ns len tp snap st x → x.1.2.2.2.2 st = true → h (o + 33) 13 = (st : Int) + 1 → h (o + 33) 9 = snap → (∀ (j : Nat) r, q[j]? = some r → MQr (h (o + 33)) (first + j) r) →
    ∃ h1, M_areLaid_L62 h o (nn : Int) 1 first (i : Int) = M_areLaid_p87 h1 o (if spAll ns blk len tp snap ((q.drop i).take m) (first + i) x = none then 0 else 1) ∧ MLg o h h1 ∧ ∀ y, spAll ns blk len tp snap ((q.drop i).take m) (first + i) x = some y → MX (h1 (o + 33)) y ∧ spLI ns len tp snap st y := by
  have stop : ∀ (h : jH) (v i : Int), (v = 0 ∨ ¬ i < (nn : Int)) → M_areLaid_L62 h o (nn : Int) v first i = M_areLaid_p87 h o v := by
    intro h v i hv
    unfold M_areLaid_L62
    refine jloop_x ?_
    show M_areLaid_B62 h o (nn : Int) v first i = _
    unfold M_areLaid_B62
    by_cases a : i < (nn : Int)
    · rw [if_pos a, if_pos (by rcases hv with h | h; exact h; exact absurd a h)]
    · rw [if_neg a]
  intro m
  induction m with
  | zero =>
    intro i h x hi hc hx hI hst h13 h9 hq
    rw [List.take_zero]
    refine ⟨h, stop h 1 _ (Or.inr (by omega)), MLg.rf, fun y hy => ?_⟩
    rw [← Option.some.inj hy]
    exact ⟨hx, hI⟩
  | succ m ih =>
    intro i h x hi hc hx hI hst h13 h9 hq
    obtain ⟨r, hr⟩ : ∃ r, q[i]? = some r := ⟨q[i], List.getElem?_eq_getElem (by omega)⟩
    have hrok := hrk r (List.mem_of_getElem? hr)
    rw [spDrop_take hr]
    obtain ⟨h1, e1, e2, e3⟩ := m_one (num := first + i) hrok hd0 hc hx hI hst h13 h9 (hq i r hr) (by unfold jI32; omega)
    have hstep : ∀ v : Int, M_isLaid h o (first + i) = some (v, h1) → M_areLaid_L62 h o (nn : Int) 1 first (i : Int) = M_areLaid_L62 h1 o (nn : Int) v first ((i + 1 : Nat) : Int) := by
      intro v hv
      unfold M_areLaid_L62
      refine jloop_l ?_
      show M_areLaid_B62 h o (nn : Int) 1 first (i : Int) = _
      unfold M_areLaid_B62
      rw [if_pos (by omega), if_neg (by decide), pw (by omega) (by omega), hv]
      simp only [Option.bind_some]
      rw [pw (by omega) (by omega)]
      rfl
    unfold spAll
    cases ho : spOne ns blk len tp snap r (first + i) x with
    | none =>
      rw [ho, if_pos rfl] at e1
      refine ⟨h1, ?_, e2, fun y hy => by cases hy⟩
      rw [hstep 0 e1, stop h1 0 _ (Or.inl rfl)]
      rfl
    | some y =>
      rw [ho, if_neg (by simp)] at e1
      have e4 := e3 y ho
      obtain ⟨h2, w1, w2, w3⟩ := ih (i + 1) h1 y (by omega) (e2.md hd0 hc) e4.1 (spOne_LI hd0 ho hI).1 e4.2 (by rw [e2.2.2 13 (by omega) (by omega) (by omega) (by omega) (by omega) (by omega) (by omega)]; exact h13) (by rw [e2.2.2 9 (by omega) (by omega) (by omega) (by omega) (by omega) (by omega) (by omega)]; exact h9) (fun j r hj => e2.qr (hq j r hj))
      rw [show first + ((i + 1 : Nat) : Int) = first + i + 1 by omega] at w1 w3
      refine ⟨h2, ?_, e2.tr w2, fun z hz => w3 z hz⟩
      rw [hstep 1 e1, w1]
theorem m_areLaid {h : jH} {tp : Nat → Int} {snap first : Int} {q : List spRec} {nn : Nat} {x : spL} (hd0 : spDim ns blk len) (hc : MD h o ns blk len D C) (hrk : ∀ r ∈ q, spRok r) (hf : 0 ≤ first ∧ first ≤ 2000000000) (hnq : nn ≤ q.length) (hq : MQu (h (o + 33)) q 0 first) (hx : MX (h (o + 33)) x) (hI : spLI ns len tp snap x.1.1 x) (h9 : h (o + 33) 9 = snap) (h13 : h (o + 33) 13 = 0) :
    ∃ h', M_areLaid h o (nn : Int) = some (if spAll ns blk len tp snap (q.take nn) first x = none then 0 else 1, h') ∧ (∀ z, z ≠ o → z ≠ o + 33 → z ≠ o + 34 → z ≠ o + 35 → h' z = h z) ∧ (∀ f, f ≠ 50 → h' o f = h o f) ∧ (spAll ns blk len tp snap (q.take nn) first x = none → ∀ i, h' (o + 33) i = h (o + 33) i) ∧ ∀ y, spAll ns blk len tp snap (q.take nn) first x = some y → MX (h' (o + 33)) y ∧ spLI ns len tp snap x.1.1 y ∧ (∀ i, i ≠ 4 → i ≠ 5 → i ≠ 6 → i ≠ 7 → i ≠ 8 → ¬ (192 ≤ i ∧ i < 196) → (i < 1220 ∨ 2244 ≤ i) → h' (o + 33) i = h (o + 33) i) := by
  have hn4 := hd0.2.1
  unfold M_areLaid M_areLaid_L2
  obtain ⟨⟨k, h1⟩, ⟨e1, e2, e3⟩, e4⟩ := jloop_k (f := fun s : (Int × jH) => M_areLaid_B2 s.2 o (nn : Int) s.1) (fun k s => s.1 = (k : Int) ∧ (∀ q, q ≠ o + 35 → s.2 q = h q) ∧ (∀ i, i < k → s.2 (o + 35) i = h (o + 33) i)) 2244 (fun k s hk hp => by
    obtain ⟨z, g⟩ := s
    obtain ⟨p1, p2, p3⟩ := hp
    dsimp only at p1 p2 p3
    subst p1
    refine ⟨(((k + 1 : Nat) : Int), jup g (o + 35) k (h (o + 33) k)), ?_, rfl, fun q hq => (jup_ne hq).trans (p2 q hq), fun i hi => ?_⟩
    · show M_areLaid_B2 g o (nn : Int) (k : Int) = _
      unfold M_areLaid_B2
      rw [if_pos (by omega), if_pos (by omega), if_pos (by omega), pw (by omega) (by omega), Int.toNat_natCast, p2 _ (by omega)]
      rfl
    · show jup g (o + 35) k (h (o + 33) k) (o + 35) i = _
      rw [ju_if]
      by_cases a : i = k
      · rw [if_pos a, a]
      · rw [if_neg a]; exact p3 i (by omega)) (k := 0) (s := ((0 : Int), h)) (by omega) ⟨rfl, fun _ _ => rfl, fun i hi => by omega⟩
  dsimp only at e1 e2 e3
  subst e1
  rw [e4]
  obtain ⟨h2, hh2⟩ : ∃ h2 : jH, h2 = jup h1 (o + 33) 13 ((x.1.1 : Int) + 1) := ⟨_, rfl⟩
  have x1 : jloop (fun s : (Int × jH) => M_areLaid_B2 s.2 o (nn : Int) s.1) (((2244 : Nat) : Int), h1) = M_areLaid_L62 h2 o (nn : Int) 1 first 0 := jloop_x (by
    show M_areLaid_B2 h1 o (nn : Int) 2244 = _
    unfold M_areLaid_B2
    have hI1 := hI.1
    rw [if_neg (by omega), if_pos (by decide), if_pos (by decide), if_pos (by decide), if_pos (by decide)]
    rw [show ((13 : Int)).toNat = 13 from rfl, show ((5 : Int)).toNat = 5 from rfl, show ((1 : Int)).toNat = 1 from rfl, show ((11 : Int)).toNat = 11 from rfl, e2 (o + 33) (by omega), hx.1, hq.2.1, hq.2.2.1, pw (by omega) (by omega), pw (by omega) (by omega), ← hh2]
    congr 2
    omega)
  rw [x1]
  have w2 : ∀ i, i ≠ 13 → h2 (o + 33) i = h (o + 33) i := fun i hi => by rw [hh2, ju_ne hi, e2 _ (by omega)]
  have q2 : ∀ z, z ≠ o + 33 → z ≠ o + 35 → h2 z = h z := fun z z1 z2 => by rw [hh2, jup_ne z1, e2 z z2]
  have hc2 : MD h2 o ns blk len D C := hc.fr hd0 (q2 _ (by omega) (by omega)) (fun i _ _ => w2 i (by omega))
  have hx2 : MX (h2 (o + 33)) x := by
    obtain ⟨a1, a2, a3, a4, a5, a6⟩ := hx
    refine ⟨by rw [w2 _ (by omega)]; exact a1, by rw [w2 _ (by omega)]; exact a2, by rw [w2 _ (by omega)]; exact a3, by rw [w2 _ (by omega)]; exact a4, ⟨by rw [w2 _ (by omega)]; exact a5.1, fun i e he => ?_⟩, fun i hi => by rw [w2 _ (by omega)]; exact a6 i hi⟩
    rw [w2 _ (by omega), w2 _ (by omega)]
    exact a5.2 i e he
  have hqr : ∀ (j : Nat) r, q[j]? = some r → MQr (h2 (o + 33)) (first + j) r := by
    intro j r hj
    have := hq.r hj
    unfold MQr at this ⊢
    rw [w2 _ (by omega), w2 _ (by omega), w2 _ (by omega)]
    exact this
  obtain ⟨h3, a1, a2, a3⟩ := m_allL (tp := tp) (snap := snap) (st := x.1.1) (q := q) (nn := nn) hd0 hrk hf hnq hq.2.2.2.1 nn 0 h2 x (by omega) hc2 hx2 hI hI.2.2.1 (by rw [hh2, ju_eq]) (by rw [w2 9 (by omega)]; exact h9) hqr
  rw [List.drop_zero, show first + ((0 : Nat) : Int) = first by omega] at a1 a3
  rw [show (0 : Int) = ((0 : Nat) : Int) from rfl, a1]
  obtain ⟨h4, b1, b2, b3, b4⟩ := m_p87 (h := h3) (o := o) (v := if spAll ns blk len tp snap (q.take nn) first x = none then 0 else 1) (by split; exact Or.inl rfl; exact Or.inr rfl)
  refine ⟨h4, b1, fun z z1 z2 z3 z4 => by rw [b2 z z2, a2.1 z z1 z2 z3, q2 z z2 z4], fun f hf => by rw [b2 o (by omega), a2.2.1 f hf, q2 o (by omega) (by omega)], fun hnone i => ?_, fun y hy => ?_⟩
  · rw [b4 (by rw [if_pos hnone]) i]
    by_cases a : i < 2244
    · rw [if_pos a, a2.1 _ (by omega) (by omega) (by omega), hh2, jup_ne (by omega), e3 i a]
    · rw [if_neg a, a2.2.2 i (by omega) (by omega) (by omega) (by omega) (by omega) (by omega) (by omega), w2 i (by omega)]
  · have hv1 : (if spAll ns blk len tp snap (q.take nn) first x = none then (0 : Int) else 1) = 1 := by rw [hy]; rfl
    have c1 := b3 hv1
    have c2 := a3 y hy
    have w4 : ∀ i, i ≠ 13 → h4 (o + 33) i = h3 (o + 33) i := fun i hi => by rw [c1 i, if_neg hi]
    obtain ⟨⟨d1, d2, d3, d4, d5, d6⟩, d7⟩ := c2
    refine ⟨⟨by rw [w4 _ (by omega)]; exact d1, by rw [w4 _ (by omega)]; exact d2, by rw [w4 _ (by omega)]; exact d3, by rw [w4 _ (by omega)]; exact d4, ⟨by rw [w4 _ (by omega)]; exact d5.1, fun i e he => ?_⟩, fun i hi => by rw [w4 _ (by omega)]; exact d6 i hi⟩, d7, fun i i4 i5 i6 i7 i8 it ib => ?_⟩
    · rw [w4 _ (by omega), w4 _ (by omega)]
      exact d5.2 i e he
    · by_cases a : i = 13
      · rw [c1 i, if_pos a, a]; exact h13.symm
      · rw [w4 i a, a2.2.2 i i4 i5 i6 i7 i8 it ib, w2 i a]
end MAL
