/-! the reference lays records -/
def MX (w : Nat → Int) (x : spL) : Prop := w 5 = (x.1.1 : Int) ∧ w 6 = (x.1.2.1 : Int) ∧ w 7 = x.1.2.2.1 ∧ w 8 = x.1.2.2.2.1 ∧ MF w x.2.1 ∧ ∀ i, i < 4 → w (192 + i) = x.2.2 i
def MQr (w : Nat → Int) (num : Int) (r : spRec) : Prop := w (16 + 4 * (num % 32).toNat) = r.1 ∧ w (16 + 4 * (num % 32).toNat + 1) = r.2.1 ∧ w (16 + 4 * (num % 32).toNat + 2) = r.2.2.1
def MFr (h : jH) (o : Nat) (l : List Int) : Prop := h o 50 = (l.length : Int) ∧ ∀ j v, l[j]? = some v → h (o + 34) j = v
section MLZ
variable {o ns blk len : Nat} {D C : Nat → Nat → Int}
theorem m_recOf {h : jH} {num : Int} {j : Nat} (hj : j < 4) : M_recordOf h o num (j : Int) = some (h (o + 33) (16 + 4 * (num % 32).toNat + j)) := by
  unfold M_recordOf
  rw [pj_31, pw (x := 4 * (num % 32)) (by omega) (by omega), pw (x := 16 + 4 * (num % 32)) (by omega) (by omega), pw (by omega) (by omega), if_pos (by omega), show (16 + 4 * (num % 32) + (j : Int)).toNat = 16 + 4 * (num % 32).toNat + j by omega]
theorem m_payOf {h : jH} {num : Int} {r : spRec} (hr : spRok r) (hq : MQr (h (o + 33)) num r) : M_payloadOf h o num = some (spSz r : Int) := by
  unfold M_payloadOf
  rw [show (2 : Int) = ((2 : Nat) : Int) from rfl, m_recOf (by decide), hq.2.2]
  unfold spRok at hr
  unfold spSz
  simp only [Option.bind_some]
  rw [pw (by omega) (by omega)]
  congr 1
  omega
theorem m_payAt {h : jH} {num : Int} {r : spRec} (hr : spRok r) (hq : MQr (h (o + 33)) num r) {i : Nat} (hi : i < 200) : M_payloadAt h o num (i : Int) = some (spPay r i) := by
  have h0 : M_recordOf h o num 0 = some r.1 := by
    rw [show (0 : Int) = ((0 : Nat) : Int) from rfl, m_recOf (by decide)]
    exact congrArg some hq.1
  have h1 : M_recordOf h o num 1 = some r.2.1 := by
    rw [show (1 : Int) = ((1 : Nat) : Int) from rfl, m_recOf (by decide)]
    exact congrArg some hq.2.1
  unfold spRok at hr
  unfold M_payloadAt spPay
  rw [h1, h0]
  simp only [Option.bind_some]
  match i with
  | 0 => rfl
  | 1 => rw [if_neg (by decide), if_pos (by decide), pj_shr8 (by omega) (by omega)]; rfl
  | 2 => rw [if_neg (by decide), if_neg (by decide), if_pos (by decide), pj_255]; rfl
  | i + 3 =>
    rw [if_neg (by omega), if_neg (by omega), if_neg (by omega), pw (x := ((i + 3 : Nat) : Int) - 3) (by omega) (by omega), pw (x := 7 * (((i + 3 : Nat) : Int) - 3)) (by omega) (by omega), pw (by omega) (by omega), pj_255, if_neg (by omega), if_neg (by omega), if_neg (by omega)]
theorem m_free {h : jH} {tp : Nat → Int} {snap : Int} {st : Nat} {x : spL} (hd0 : spDim ns blk len) (hx : MX (h (o + 33)) x) (hI : spLI ns len tp snap st x) (hst : x.1.2.2.2.2 st = true) (h13 : h (o + 33) 13 = (st : Int) + 1) (h9 : h (o + 33) 9 = snap) {s : Nat} (hs : s < ns) : M_isFree h o (s : Int) = some (if spIsF tp snap x.1.2.2.2.2 s = true then 1 else 0) := by
  have hl := hd0.len
  have hn := hd0.2.1
  have hlen := spLI_len hd0 hI
  obtain ⟨x1, x2, x3, x4, x5, x6, x7, x8, x9⟩ := hI
  obtain ⟨y, e1, e2⟩ := m_onWay (s := s) hx.2.2.2.2.1 hlen (fun e he => by have := x6 e he; omega)
  unfold M_isFree M_isFree_p55
  rw [if_pos (by decide), show ((5 : Int)).toNat = 5 from rfl, show ((13 : Int)).toNat = 13 from rfl, show ((9 : Int)).toNat = 9 from rfl, hx.1, h13, h9, e1]
  simp only [Option.bind_some]
  unfold spIsF
  by_cases a : x.1.1 = s
  · rw [if_pos (by omega), ← a, x3]; simp
  · rw [if_neg (by omega), if_pos (by decide), pw (x := (s : Int) + 1) (by omega) (by omega)]
    by_cases b : st = s
    · rw [if_pos (by omega), ← b, hst]; simp
    · rw [if_neg (by omega)]
      rcases e2 with ⟨rfl, e, e3, e4⟩ | ⟨rfl, e3⟩
      · rw [if_neg (by decide)]
        have := (x6 e e3).2.2
        rw [e4] at this
        rcases this with h | h
        · rw [h]; simp
        · have : ¬ tp s < snap := by omega
          simp [this]
      · rw [if_pos rfl, pw (by omega) (by omega), if_pos (by omega), if_pos (by decide), show (192 + (s : Int)).toNat = 192 + s by omega, hx.2.2.2.2.2 s (by omega)]
        have hv : x.1.2.2.2.2 s = false := by
          cases hv : x.1.2.2.2.2 s with
          | false => rfl
          | true =>
            rcases x7 s (by omega) hv with h | h
            · exact absurd h.symm b
            · exact absurd h e3
        rw [x4 s (by omega) hv, hv]
        by_cases c : tp s < snap
        · simp [c]
        · simp [c]
theorem m_freeOne {h : jH} {tp : Nat → Int} {snap : Int} {st : Nat} {x : spL} (hd0 : spDim ns blk len) (hc : MD h o ns blk len D C) (hx : MX (h (o + 33)) x) (hI : spLI ns len tp snap st x) (hst : x.1.2.2.2.2 st = true) (h13 : h (o + 33) 13 = (st : Int) + 1) (h9 : h (o + 33) 9 = snap) : M_freeOne h o = some (spFirst (spIsF tp snap x.1.2.2.2.2) ns 0) := by
  have hn := hd0.2.1
  have key : ∀ m i, i + m = ns → M_freeOne_L2 h o (i : Int) = some (spFirst (spIsF tp snap x.1.2.2.2.2) m i) := by
    unfold M_freeOne_L2
    intro m
    induction m with
    | zero =>
      intro i hi
      refine jloop_r ?_
      show M_freeOne_B2 h o (i : Int) = _
      unfold M_freeOne_B2
      rw [m_seg hc]
      simp only [Option.bind_some]
      rw [if_neg (by omega)]
      rfl
    | succ m ih =>
      intro i hi
      have hB : M_freeOne_B2 h o (i : Int) = (if spIsF tp snap x.1.2.2.2.2 i = true then some (.inr (i : Int)) else some (.inl ((i + 1 : Nat) : Int))) := by
        unfold M_freeOne_B2
        rw [m_seg hc]
        simp only [Option.bind_some]
        rw [if_pos (by omega), m_free hd0 hx hI hst h13 h9 (show i < ns by omega), pw (by omega) (by omega)]
        by_cases a : spIsF tp snap x.1.2.2.2.2 i = true
        · simp [a]
        · simp [a]
      unfold spFirst
      by_cases a : spIsF tp snap x.1.2.2.2.2 i = true
      · rw [if_pos a]
        rw [if_pos a] at hB
        exact jloop_r hB
      · rw [if_neg a]
        rw [if_neg a] at hB
        exact (jloop_l hB).trans (ih (i + 1) (by omega))
  unfold M_freeOne
  exact key ns 0 (by omega)
theorem m_push {h : jH} {l : List Int} {v : Int} (hf : MFr h o l) (hl : l.length < 64) : ∃ h', M_frames h o v = some h' ∧ (∀ q, q ≠ o → q ≠ o + 34 → h' q = h q) ∧ (∀ f, f ≠ 50 → h' o f = h o f) ∧ MFr h' o (l ++ [v]) := by
  obtain ⟨f1, f2⟩ := hf
  unfold M_frames
  rw [f1, if_pos (by omega), Int.toNat_natCast, show (jup h (o + 34) l.length v) o 50 = (l.length : Int) by rw [jup_ne (by omega), f1], pw (by omega) (by omega)]
  refine ⟨_, rfl, fun q q1 q2 => by rw [jup_ne q1, jup_ne q2], fun f hf => by rw [ju_ne hf, jup_ne (by omega)], ?_, fun j w hj => ?_⟩
  · rw [ju_eq, List.length_append]; rfl
  · rw [jup_ne (by omega), ju_if]
    rw [List.getElem?_append] at hj
    split at hj
    · rename_i hi
      rw [if_neg (by omega)]
      exact f2 j w hj
    · rename_i hi
      have : j = l.length := by
        by_cases z : j = l.length
        · exact z
        · obtain ⟨t, ht⟩ : ∃ t, j - l.length = t + 1 := ⟨j - l.length - 1, by omega⟩
          rw [ht] at hj
          cases hj
      subst this
      rw [Nat.sub_self] at hj
      rw [if_pos rfl]
      exact Option.some.inj hj
/-- what is framed goes out -/
theorem m_outL {s : Nat} {l : List Int} (hs : s < 4) (hl : l.length ≤ 60) : ∀ (m i k : Nat) (h : jH) (F : spFl), i + m = l.length → MFr h o l → MF (h (o + 33)) F → F.length + m ≤ 512 → h (o + 33) 5 = (s : Int) → h (o + 33) 6 = (k : Int) → k + m ≤ 128 →
    ∃ h', M_frameGoes_L144 h o (i : Int) = some h' ∧ MLf o h h' ∧ MF (h' (o + 33)) (F ++ spOut s k (l.drop i)) ∧ h' (o + 33) 6 = ((k + m : Nat) : Int) := by
  unfold M_frameGoes_L144
  intro m
  induction m with
  | zero =>
    intro i k h F hi hf hF hn h5 h6 hk
    refine ⟨h, jloop_r ?_, MLf.rf, ?_, by rw [h6]; rfl⟩
    · show M_frameGoes_B144 h o (i : Int) = _
      unfold M_frameGoes_B144
      rw [hf.1, if_neg (by omega)]
      rfl
    · rw [List.drop_of_length_le (by omega)]
      simpa [spOut] using hF
  | succ m ih =>
    intro i k h F hi hf hF hn h5 h6 hk
    have hlt : i < l.length := by omega
    obtain ⟨h1, a1, a2, a3, a4, a5, a6⟩ := m_out (v := l[i]) hF (by omega) h5 h6 hs (by omega)
    have hf1 : MFr h1 o l := by unfold MFr; rw [a5, a6]; exact hf
    obtain ⟨h', e1, e2, e3, e4⟩ := ih (i + 1) (k + 1) h1 _ (by omega) hf1 a3 (by rw [List.length_append]; simp; omega) (by rw [a2.2.2 5 (by omega) (by omega) (by omega), h5]) a4 (by omega)
    refine ⟨h', (jloop_l (s' := (((i + 1 : Nat) : Int), h1)) ?_).trans e1, a2.tr e2, ?_, by rw [e4]; congr 1; omega⟩
    · show M_frameGoes_B144 h o (i : Int) = _
      unfold M_frameGoes_B144
      rw [hf.1, if_pos (by omega), if_pos (by omega), Int.toNat_natCast, hf.2 i l[i] (List.getElem?_eq_getElem hlt), a1]
      simp only [Option.bind_some]
      rw [pw (by omega) (by omega)]
      rfl
    · rw [List.drop_eq_getElem_cons hlt]
      show MF (h' (o + 33)) (F ++ (s, k, l[i]) :: spOut s (k + 1) (l.drop (i + 1)))
      rw [List.append_assoc] at e3
      exact e3
theorem m_ckL {h : jH} {l : List Int} (hl : l.length ≤ 60) (hf : MFr h o l) (hr : ∀ v ∈ l, 0 ≤ v ∧ v < 256) : ∀ (m i : Nat) (c : Int), i + m = l.length → 0 ≤ c → c < 251 → M_frameGoes_L106 h o c (i : Int) = Option.bind (M_goesOut h o (spCk (l.drop i) c)) (fun b15 => M_frameGoes_L144 b15 o 0) := by
  unfold M_frameGoes_L106
  intro m
  induction m with
  | zero =>
    intro i c hi h0 h1
    refine jloop_x ?_
    show M_frameGoes_B106 h o c (i : Int) = _
    unfold M_frameGoes_B106
    rw [hf.1, if_neg (by omega), List.drop_of_length_le (by omega)]
    rfl
  | succ m ih =>
    intro i c hi h0 h1
    have hlt : i < l.length := by omega
    have y := hr _ (List.getElem_mem hlt)
    refine (jloop_l (s' := ((3 * c + l[i]) % 251, ((i + 1 : Nat) : Int))) ?_).trans ((ih (i + 1) _ (by omega) (by omega) (by omega)).trans ?_)
    · show M_frameGoes_B106 h o c (i : Int) = _
      unfold M_frameGoes_B106
      rw [hf.1, if_pos (by omega), if_pos (by omega), Int.toNat_natCast, hf.2 i l[i] (List.getElem?_eq_getElem hlt), m_by c _ h0 h1 y.1 y.2]
      simp only [Option.bind_some]
      rw [pw (by omega) (by omega)]
      rfl
    · rw [List.drop_eq_getElem_cons hlt]
      rfl
theorem m_fpL {num : Int} {r : spRec} {fr n : Nat} (hr : spRok r) (hfr : fr + n ≤ 100) (hn : n ≤ 40) {l0 : List Int} (hl0 : l0.length = 3) : ∀ (m i : Nat) (h : jH), i + m = n → MFr h o (l0 ++ spPays r i fr) → MQr (h (o + 33)) num r →
    ∃ h', M_frameGoes_L74 h o num (fr : Int) (n : Int) (i : Int) = M_frameGoes_L106 h' o 7 0 ∧ (∀ q, q ≠ o → q ≠ o + 34 → h' q = h q) ∧ (∀ f, f ≠ 50 → h' o f = h o f) ∧ MFr h' o (l0 ++ spPays r n fr) := by
  unfold M_frameGoes_L74
  intro m
  induction m with
  | zero =>
    intro i h hi hf hq
    obtain rfl : i = n := by omega
    refine ⟨h, jloop_x ?_, fun _ _ _ => rfl, fun _ _ => rfl, hf⟩
    show M_frameGoes_B74 h o num (fr : Int) (i : Int) (i : Int) = _
    unfold M_frameGoes_B74
    rw [if_neg (by omega)]
  | succ m ih =>
    intro i h hi hf hq
    obtain ⟨h1, a1, a2, a3, a4⟩ := m_push (v := spPay r (fr + i)) hf (by rw [List.length_append, spPays_len, hl0]; omega)
    rw [List.append_assoc, ← spPays_snoc] at a4
    obtain ⟨h', e1, e2, e3, e4⟩ := ih (i + 1) h1 (by omega) a4 (by rw [a2 _ (by omega) (by omega)]; exact hq)
    refine ⟨h', (jloop_l (s' := (((i + 1 : Nat) : Int), h1)) ?_).trans e1, fun q q1 q2 => (e2 q q1 q2).trans (a2 q q1 q2), fun f hf => (e3 f hf).trans (a3 f hf), e4⟩
    show M_frameGoes_B74 h o num (fr : Int) (n : Int) (i : Int) = _
    unfold M_frameGoes_B74
    rw [if_pos (by omega), pw (by omega) (by omega), show (fr : Int) + (i : Int) = ((fr + i : Nat) : Int) by omega, m_payAt hr hq (by omega)]
    simp only [Option.bind_some]
    rw [a1]
    simp only [Option.bind_some]
    rw [pw (by omega) (by omega)]
    rfl
/-- a frame goes out -/
theorem m_frGo {h : jH} {num ser : Int} {r : spRec} {fr n s k : Nat} {F : spFl} (hr : spRok r) (hfr : fr + n ≤ spSz r) (hn : n ≤ 40) (hs : s < 4) (hq : MQr (h (o + 33)) num r) (hF : MF (h (o + 33)) F) (hl : F.length + 4 + n ≤ 512) (h5 : h (o + 33) 5 = (s : Int)) (h6 : h (o + 33) 6 = (k : Int)) (h7 : h (o + 33) 7 = ser) (hk : k + 4 + n ≤ 128) :
    ∃ h', M_frameGoes h o num (fr : Int) (n : Int) = some h' ∧ MLf o h h' ∧ MF (h' (o + 33)) (F ++ spOut s k (spCk (spFrB r fr n (ser % 256)) 7 :: spFrB r fr n (ser % 256))) ∧ h' (o + 33) 6 = ((k + 4 + n : Nat) : Int) := by
  have hsz := spSz_le hr
  have hgo : M_frameGoes h o num (fr : Int) (n : Int) = M_frameGoes_p38 h o num (fr : Int) (n : Int) (spKind (spSz r) fr n) := by
    unfold M_frameGoes
    rw [m_payOf hr hq]
    simp only [Option.bind_some]
    rw [pw (by omega) (by omega)]
    unfold spKind
    by_cases a : n = spSz r
    · rw [if_pos (by omega), if_pos a]
    · rw [if_neg (by omega), if_neg a]
      by_cases b : fr = 0
      · rw [if_pos (by omega), if_pos b]
      · rw [if_neg (by omega), if_neg b]
        by_cases c : fr + n = spSz r
        · rw [if_pos (by omega), if_pos c]
        · rw [if_neg (by omega), if_neg c]
  rw [hgo]
  unfold M_frameGoes_p38
  have m0 : MFr (jup h o 50 0) o [] := ⟨ju_eq, fun j v hj => by cases hj⟩
  obtain ⟨h1, a1, a2, a3, a4⟩ := m_push (v := spKind (spSz r) fr n) m0 (by decide)
  rw [a1]
  simp only [Option.bind_some]
  obtain ⟨h2, b1, b2, b3, b4⟩ := m_push (v := (n : Int)) a4 (by simp)
  rw [b1]
  simp only [Option.bind_some]
  have w2 : h2 (o + 33) = h (o + 33) := by rw [b2 _ (by omega) (by omega), a2 _ (by omega) (by omega), jup_ne (by omega)]
  rw [if_pos (by decide), show ((7 : Int)).toNat = 7 from rfl, w2, h7, pj_255]
  obtain ⟨h3, c1, c2, c3, c4⟩ := m_push (v := ser % 256) b4 (by simp)
  rw [c1]
  simp only [Option.bind_some]
  have w3 : h3 (o + 33) = h (o + 33) := by rw [c2 _ (by omega) (by omega), w2]
  have el : (([] ++ [spKind (spSz r) fr n]) ++ [(n : Int)]) ++ [ser % 256] = [spKind (spSz r) fr n, (n : Int), ser % 256] ++ spPays r 0 fr := rfl
  rw [el] at c4
  obtain ⟨h4, d1, d2, d3, d4⟩ := m_fpL (num := num) (fr := fr) (n := n) hr (by omega) hn (l0 := [spKind (spSz r) fr n, (n : Int), ser % 256]) rfl n 0 h3 (by omega) c4 (by rw [w3]; exact hq)
  have w4 : h4 (o + 33) = h (o + 33) := by rw [d2 _ (by omega) (by omega), w3]
  change MFr h4 o (spFrB r fr n (ser % 256)) at d4
  have hll : (spFrB r fr n (ser % 256)).length ≤ 60 := by rw [spFrB_len]; omega
  have hck := m_ckL hll d4 (spFrB_in hr (by omega) (by omega) (by omega)) (spFrB r fr n (ser % 256)).length 0 7 (by omega) (by omega) (by omega)
  rw [List.drop_zero] at hck
  rw [show (0 : Int) = ((0 : Nat) : Int) from rfl, d1, show (0 : Int) = ((0 : Nat) : Int) from rfl, hck]
  obtain ⟨h5', e1, e2, e3, e4, e5, e6⟩ := m_out (h := h4) (o := o) (F := F) (s := s) (k := k) (v := spCk (spFrB r fr n (ser % 256)) 7) (by rw [w4]; exact hF) (by omega) (by rw [w4]; exact h5) (by rw [w4]; exact h6) hs (by omega)
  rw [e1]
  simp only [Option.bind_some]
  obtain ⟨h6', g1, g2, g3, g4⟩ := m_outL (l := spFrB r fr n (ser % 256)) hs hll (spFrB r fr n (ser % 256)).length 0 (k + 1) h5' _ (by omega) (by unfold MFr; rw [e5, e6]; exact d4) e3 (by rw [List.length_append, spFrB_len]; simp; omega) (by rw [e2.2.2 5 (by omega) (by omega) (by omega), w4]; exact h5) e4 (by rw [spFrB_len]; omega)
  refine ⟨h6', g1, ?_, ?_, by rw [g4, spFrB_len]; congr 1; omega⟩
  · have f4 : MLf o h h4 := by
      refine ⟨fun q q1 q2 q3 => by rw [d2 q q1 q3, c2 q q1 q3, b2 q q1 q3, a2 q q1 q3, jup_ne q1], fun f hf => by rw [d3 f hf, c3 f hf, b3 f hf, a3 f hf, ju_ne hf], fun i _ _ _ => by rw [w4]⟩
    exact f4.tr (e2.tr g2)
  · rw [List.drop_zero, List.append_assoc] at g3
    exact g3
end MLZ
