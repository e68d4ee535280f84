/-! the reference's laying, whole -/
def MLg (o : Nat) (h h' : jH) : Prop := (∀ q, q ≠ o → q ≠ o + 33 → q ≠ o + 34 → h' q = h q) ∧ (∀ f, f ≠ 50 → h' o f = h o f) ∧ ∀ i, i ≠ 4 → i ≠ 5 → i ≠ 6 → i ≠ 7 → i ≠ 8 → ¬ (192 ≤ i ∧ i < 196) → (i < 1220 ∨ 2244 ≤ i) → h' (o + 33) i = h (o + 33) i
theorem MLg.rf {o : Nat} {h : jH} : MLg o h h := ⟨fun _ _ _ _ => rfl, fun _ _ => rfl, fun _ _ _ _ _ _ _ _ => rfl⟩
theorem MLg.tr {o : Nat} {h h1 h2 : jH} (a : MLg o h h1) (b : MLg o h1 h2) : MLg o h h2 := ⟨fun q x y z => (b.1 q x y z).trans (a.1 q x y z), fun f x => (b.2.1 f x).trans (a.2.1 f x), fun i x1 x2 x3 x4 x5 x6 x7 => (b.2.2 i x1 x2 x3 x4 x5 x6 x7).trans (a.2.2 i x1 x2 x3 x4 x5 x6 x7)⟩
theorem MLf.g {o : Nat} {h h' : jH} (a : MLf o h h') : MLg o h h' := ⟨a.1, a.2.1, fun i x1 _ x3 _ _ _ x7 => a.2.2 i x1 x3 x7⟩
section MLW
variable {o ns blk len : Nat} {D C : Nat → Nat → Int}
theorem MLg.md {h h' : jH} (a : MLg o h h') (hd : spDim ns blk len) (hc : MD h o ns blk len D C) : MD h' o ns blk len D C := hc.fr hd (a.1 _ (by omega) (by omega) (by omega)) (fun i h0 h1 => a.2.2 i (by omega) (by omega) (by omega) (by omega) (by omega) (by omega) (by omega))
theorem MLg.qr {h h' : jH} (a : MLg o h h') {num : Int} {r : spRec} (hq : MQr (h (o + 33)) num r) : MQr (h' (o + 33)) num r := by
  unfold MQr
  have hb : (num % 32).toNat < 32 := by omega
  rw [a.2.2 _ (by omega) (by omega) (by omega) (by omega) (by omega) (by omega) (by omega), a.2.2 _ (by omega) (by omega) (by omega) (by omega) (by omega) (by omega) (by omega), a.2.2 _ (by omega) (by omega) (by omega) (by omega) (by omega) (by omega) (by omega)]
  exact hq
theorem m_padL {num fr : Int} {s : Nat} (hs : s < 4) : ∀ (m i k n : Nat) (h : jH) (F : spFl), i + m = n → n ≤ 4 → MF (h (o + 33)) F → F.length + m ≤ 512 → h (o + 33) 5 = (s : Int) → h (o + 33) 6 = (k : Int) → k + m ≤ 128 →
    ∃ h', M_isLaid_L124 h o num fr (n : Int) (i : Int) = some (.inl (fr, h')) ∧ MLf o h h' ∧ MF (h' (o + 33)) (F ++ spOut s k (List.replicate m 0)) ∧ h' (o + 33) 6 = ((k + m : Nat) : Int) := by
  unfold M_isLaid_L124
  intro m
  induction m with
  | zero =>
    intro i k n h F hi hn4 hF hn h5 h6 hk
    refine ⟨h, jloop_r ?_, MLf.rf, by simpa [spOut] using hF, by rw [h6]; rfl⟩
    show M_isLaid_B124 h o num fr (n : Int) (i : Int) = _
    unfold M_isLaid_B124
    rw [if_neg (by omega)]
    rfl
  | succ m ih =>
    intro i k n h F hi hn4 hF hn h5 h6 hk
    obtain ⟨h1, a1, a2, a3, a4, -, -⟩ := m_out (v := 0) hF (by omega) h5 h6 hs (by omega)
    obtain ⟨h', e1, e2, e3, e4⟩ := ih (i + 1) (k + 1) n h1 _ (by omega) hn4 a3 (by rw [List.length_append]; simp; omega) (by rw [a2.2.2 5 (by omega) (by omega) (by omega), h5]) a4 (by omega)
    refine ⟨h', (jloop_l (s' := (((i + 1 : Nat) : Int), h1)) ?_).trans e1, a2.tr e2, ?_, by rw [e4]; congr 1; omega⟩
    · show M_isLaid_B124 h o num fr (n : Int) (i : Int) = _
      unfold M_isLaid_B124
      rw [if_pos (by omega), a1]
      simp only [Option.bind_some]
      rw [pw (by omega) (by omega)]
      rfl
    · rw [List.append_assoc] at e3
      exact e3
theorem m_recL {num ser : Int} {r : spRec} {s : Nat} (hr : spRok r) (hd0 : spDim ns blk len) (hs : s < ns) : ∀ (f k fr e : Nat) (h : jH) (F : spFl), fr ≤ spSz r → k ≤ len → spBeh blk len f k (spSz r - fr) = some e → MD h o ns blk len D C → MQr (h (o + 33)) num r → MF (h (o + 33)) F → F.length + (spLayB blk r (ser % 256) f k fr).length ≤ 512 → h (o + 33) 5 = (s : Int) → h (o + 33) 6 = (k : Int) → h (o + 33) 7 = ser →
    ∃ h1, M_isLaid_L89 h o num (fr : Int) = some (1, jup h1 (o + 33) (192 + s) num) ∧ MLf o h h1 ∧ MF (h1 (o + 33)) (F ++ spOut s k (spLayB blk r (ser % 256) f k fr)) ∧ h1 (o + 33) 6 = (e : Int) := by
  have hl := hd0.len
  have b0 : 0 < blk := by have := hd0.2.2.1; omega
  have b1 := hd0.2.2.1
  have b2 := hd0.2.2.2.1
  have hs4 : s < 4 := by have := hd0.2.1; omega
  have hsz := spSz_le hr
  intro f
  induction f with
  | zero => intro k fr e h F _ _ hb; cases hb
  | succ f ih =>
    intro k fr e h F hfr hk hb hc hq hF hn h5 h6 h7
    have hst := spStart_le b0 hl.2.2.2 hk
    have hge := spEnd_gt (blk := blk) (k := k) b0
    conv at hn => lhs; unfold spLayB
    conv => enter [1, h1, 2, 2]; unfold spLayB
    unfold spBeh at hb
    by_cases a : spSz r ≤ fr
    · rw [if_pos (by omega)] at hb
      rw [if_pos a]
      have : k = e := Option.some.inj hb
      refine ⟨h, ?_, MLf.rf, by simpa [spOut] using hF, by rw [h6, this]⟩
      unfold M_isLaid_L89
      refine jloop_r ?_
      show M_isLaid_B89 h o num (fr : Int) = _
      unfold M_isLaid_B89
      rw [m_payOf hr hq]
      simp only [Option.bind_some]
      rw [if_neg (by omega), if_pos (by decide), show ((5 : Int)).toNat = 5 from rfl, h5, pw (by omega) (by omega), if_pos (by omega), show (192 + (s : Int)).toNat = 192 + s by omega]
      rfl
    · rw [if_neg (by omega)] at hb
      rw [if_neg a]
      rw [if_neg a] at hn
      by_cases b : len ≤ spStart blk k
      · rw [if_pos b] at hb; cases hb
      rw [if_neg b] at hb
      -- the padding, where there is some
      obtain ⟨g, p1, p2, p3, p4⟩ : ∃ g, M_isLaid_L89 h o num (fr : Int) = M_isLaid_L89 g o num (fr : Int) ∧ MLf o h g ∧ MF (g (o + 33)) (F ++ spOut s k (List.replicate (spStart blk k - k) 0)) ∧ g (o + 33) 6 = (spStart blk k : Int) := by
        by_cases c : spEnd blk k - k ≤ 4
        · have hsk : spStart blk k = spEnd blk k := by unfold spStart; rw [if_pos c]
          rw [hsk] at hn b ⊢
          rw [List.length_append, List.length_append, List.length_replicate] at hn
          obtain ⟨g, e1, e2, e3, e4⟩ := m_padL (num := num) (fr := (fr : Int)) hs4 (spEnd blk k - k) 0 k (spEnd blk k - k) h F (by omega) c hF (by omega) h5 h6 (by omega)
          refine ⟨g, ?_, e2, e3, by rw [e4]; congr 1; omega⟩
          unfold M_isLaid_L89
          refine jloop_l ?_
          show M_isLaid_B89 h o num (fr : Int) = _
          unfold M_isLaid_B89
          rw [m_payOf hr hq, m_blk hc]
          simp only [Option.bind_some]
          rw [if_pos (by omega), if_pos (by decide), if_pos (by omega), show ((6 : Int)).toNat = 6 from rfl, h6, m_room hd0, if_neg (by omega)]
          exact e1
        · have hsk : spStart blk k = k := by unfold spStart; rw [if_neg c]
          rw [hsk]
          exact ⟨h, rfl, MLf.rf, by simpa [spOut] using hF, h6⟩
      have hr2 := spStart_room (blk := blk) (k := k) (by omega)
      have he2 := spEnd_le b0 hl.2.2.2 (show spStart blk k < len by omega)
      have hge2 := spEnd_gt (blk := blk) (k := spStart blk k) b0
      generalize spStart blk k = j at hb hst b hr2 he2 hn hge2 p3 p4 ⊢
      generalize hnn : min (spSz r - fr) (spEnd blk j - j - 4) = n at hb hn ⊢
      rw [show spSz r - fr - n = spSz r - (fr + n) by omega] at hb
      rw [List.length_append, List.length_append, List.length_replicate, List.length_cons, spFrB_len] at hn
      have hcg := p2.g.md hd0 hc
      have hqg := p2.g.qr hq
      obtain ⟨g2, w1, w2, w3, w4⟩ := m_frGo (num := num) (ser := ser) (fr := fr) (n := n) (s := s) (k := j) hr (by omega) (by omega) hs4 hqg p3 (by rw [List.length_append, spOut_len, List.length_replicate]; omega) (by rw [p2.2.2 5 (by omega) (by omega) (by omega), h5]) p4 (by rw [p2.2.2 7 (by omega) (by omega) (by omega), h7]) (by omega)
      have hstep : M_isLaid_B89 g o num (fr : Int) = some (.inl (((fr + n : Nat) : Int), g2)) := by
        unfold M_isLaid_B89
        rw [m_payOf hr hqg, m_blk hcg]
        simp only [Option.bind_some]
        rw [if_pos (by omega), if_pos (by decide), if_pos (by omega), show ((6 : Int)).toNat = 6 from rfl, p4, m_room hd0, if_pos (by omega), pw (x := (spSz r : Int) - (fr : Int)) (by omega) (by omega), pw (x := ((spEnd blk j - j : Nat) : Int) - 4) (by omega) (by omega)]
        have e1 : (if (spSz r : Int) - (fr : Int) < ((spEnd blk j - j : Nat) : Int) - 4 then M_isLaid_p169 g o num (fr : Int) ((spSz r : Int) - (fr : Int)) else M_isLaid_p169 g o num (fr : Int) (((spEnd blk j - j : Nat) : Int) - 4)) = M_isLaid_p169 g o num (fr : Int) (n : Int) := by
          by_cases c : (spSz r : Int) - (fr : Int) < ((spEnd blk j - j : Nat) : Int) - 4
          · rw [if_pos c]; congr 1; omega
          · rw [if_neg c]; congr 1; omega
        rw [e1]
        unfold M_isLaid_p169
        rw [w1]
        simp only [Option.bind_some]
        rw [pw (by omega) (by omega)]
        rfl
      obtain ⟨h1, x1, x2, x3, x4⟩ := ih (j + 4 + n) (fr + n) e g2 _ (by omega) (by omega) hb (w2.g.md hd0 hcg) (w2.g.qr hqg) w3 (by rw [List.length_append, List.length_append, spOut_len, spOut_len, List.length_replicate, List.length_cons, spFrB_len]; omega) (by rw [w2.2.2 5 (by omega) (by omega) (by omega), p2.2.2 5 (by omega) (by omega) (by omega), h5]) w4 (by rw [w2.2.2 7 (by omega) (by omega) (by omega), p2.2.2 7 (by omega) (by omega) (by omega), h7])
      refine ⟨h1, p1.trans (Eq.trans ?_ x1), p2.tr (w2.tr x2), ?_, x4⟩
      · unfold M_isLaid_L89
        exact jloop_l hstep
      · have e1 : F ++ spOut s k (List.replicate (j - k) 0 ++ spCk (spFrB r fr n (ser % 256)) 7 :: spFrB r fr n (ser % 256) ++ spLayB blk r (ser % 256) f (j + 4 + n) (fr + n)) = F ++ spOut s k (List.replicate (j - k) 0) ++ spOut s j (spCk (spFrB r fr n (ser % 256)) 7 :: spFrB r fr n (ser % 256)) ++ spOut s (j + 4 + n) (spLayB blk r (ser % 256) f (j + 4 + n) (fr + n)) := by
          rw [spOut_app, spOut_app, List.length_append, List.length_replicate, List.length_cons, spFrB_len, show k + (j - k) = j by omega, show k + (j - k + (3 + n + 1)) = j + 4 + n by omega]
          simp only [List.append_assoc]
        rw [e1]
        exact x3
theorem m_opens {h : jH} {t : Nat} {gr : Int} (ht : t < 4) (h8 : h (o + 33) 8 = gr) : ∃ h', M_opens h o (t : Int) = some h' ∧ (∀ q, q ≠ o + 33 → h' q = h q) ∧ h' (o + 33) 8 = wr (gr + 1) ∧ h' (o + 33) 5 = (t : Int) ∧ h' (o + 33) 6 = 0 ∧ h' (o + 33) 7 = wr (gr + 1) ∧ ∀ i, i ≠ 5 → i ≠ 6 → i ≠ 7 → i ≠ 8 → i ≠ 192 + t → h' (o + 33) i = h (o + 33) i := by
  obtain ⟨h', hh⟩ : ∃ h' : jH, h' = jup (jup (jup (jup (jup h (o + 33) 8 (wr (gr + 1))) (o + 33) 5 (t : Int)) (o + 33) 6 0) (o + 33) 7 (wr (gr + 1))) (o + 33) (192 + t) (-1) := ⟨_, rfl⟩
  have hgo : M_opens h o (t : Int) = some h' := by
    unfold M_opens
    simp only [show ((8 : Int)).toNat = 8 from rfl, show ((5 : Int)).toNat = 5 from rfl, show ((6 : Int)).toNat = 6 from rfl, show ((7 : Int)).toNat = 7 from rfl]
    rw [h8, pw (x := 192 + (t : Int)) (by omega) (by omega), show (192 + (t : Int)).toNat = 192 + t by omega]
    rw [show (jup (jup (jup h (o + 33) 8 (wr (gr + 1))) (o + 33) 5 (t : Int)) (o + 33) 6 0) (o + 33) 8 = wr (gr + 1) by rw [ju_ne (by omega), ju_ne (by omega), ju_eq]]
    rw [if_pos (by omega), if_pos (by omega), if_pos (by omega), if_pos (by omega), if_pos (by omega), if_pos (by omega), if_pos (by omega), hh]
  refine ⟨h', hgo, fun q hq => by rw [hh, jup_ne hq, jup_ne hq, jup_ne hq, jup_ne hq, jup_ne hq], ?_, ?_, ?_, ?_, fun i i5 i6 i7 i8 it => by rw [hh, ju_ne it, ju_ne i7, ju_ne i6, ju_ne i5, ju_ne i8]⟩
  · rw [hh, ju_ne (by omega), ju_ne (by omega), ju_ne (by omega), ju_ne (by omega), ju_eq]
  · rw [hh, ju_ne (by omega), ju_ne (by omega), ju_ne (by omega), ju_eq]
  · rw [hh, ju_ne (by omega), ju_ne (by omega), ju_eq]
  · rw [hh, ju_ne (by omega), ju_eq]
theorem m_hdL {num ser : Int} {s : Nat} (hs : s < 4) (hser : jI32 ser) (hnum : jI32 num) : ∀ (m i : Nat) (h : jH) (F : spFl), i + m = 5 → MF (h (o + 33)) F → F.length + m ≤ 512 → h (o + 33) 5 = (s : Int) → h (o + 33) 6 = (i : Int) → h (o + 33) 7 = ser →
    ∃ h', M_isLaid_L38 h o num (i : Int) = M_isLaid_p66 h' o num ∧ MLf o h h' ∧ MF (h' (o + 33)) (F ++ spOut s i ((spHdB ser num).drop i)) ∧ h' (o + 33) 6 = 5 := by
  unfold M_isLaid_L38
  intro m
  induction m with
  | zero =>
    intro i h F hi hF hn h5 h6 h7
    obtain rfl : i = 5 := by omega
    refine ⟨h, jloop_x ?_, MLf.rf, ?_, h6⟩
    · show M_isLaid_B38 h o num 5 = _
      unfold M_isLaid_B38
      rw [if_neg (by omega)]
    · rw [List.drop_of_length_le (by rw [spHdB_len]; exact Nat.le_refl _)]
      simpa [spOut] using hF
  | succ m ih =>
    intro i h F hi hF hn h5 h6 h7
    obtain ⟨v, v1, v2⟩ := m_headB (o := o) hser hnum (show i < 5 by omega)
    obtain ⟨h1, a1, a2, a3, a4, -, -⟩ := m_out (v := v) hF (by omega) h5 h6 hs (by omega)
    obtain ⟨h', e1, e2, e3, e4⟩ := ih (i + 1) h1 _ (by omega) a3 (by rw [List.length_append]; simp; omega) (by rw [a2.2.2 5 (by omega) (by omega) (by omega), h5]) a4 (by rw [a2.2.2 7 (by omega) (by omega) (by omega), h7])
    refine ⟨h', (jloop_l (s' := (((i + 1 : Nat) : Int), h1)) ?_).trans e1, a2.tr e2, ?_, e4⟩
    · show M_isLaid_B38 h o num (i : Int) = _
      unfold M_isLaid_B38
      rw [if_pos (by omega), if_pos (by decide), show ((7 : Int)).toNat = 7 from rfl, h7, v1]
      simp only [Option.bind_some]
      rw [a1]
      simp only [Option.bind_some]
      rw [pw (by omega) (by omega)]
      rfl
    · obtain ⟨hi2, hv⟩ := List.getElem?_eq_some_iff.mp v2
      rw [List.drop_eq_getElem_cons hi2, hv]
      rw [List.append_assoc] at e3
      exact e3
theorem MX.tops {w : Nat → Int} {x : spL} (h : MX w x) : ∀ i, i < 4 → w (192 + i) = x.2.2 i := h.2.2.2.2.2
/-- one record is laid, or none is -/
theorem m_one {h : jH} {tp : Nat → Int} {snap num : Int} {st : Nat} {r : spRec} {x : spL} (hr : spRok r) (hd0 : spDim ns blk len) (hc : MD h o ns blk len D C) (hx : MX (h (o + 33)) x) (hI : spLI ns len tp snap st x) (hst : x.1.2.2.2.2 st = true) (h13 : h (o + 33) 13 = (st : Int) + 1) (h9 : h (o + 33) 9 = snap) (hq : MQr (h (o + 33)) num r) (hnum : jI32 num) :
    ∃ h', M_isLaid h o num = some (if spOne ns blk len tp snap r num x = none then 0 else 1, h') ∧ MLg o h h' ∧ ∀ y, spOne ns blk len tp snap r num x = some y → MX (h' (o + 33)) y ∧ y.1.2.2.2.2 st = true := by
  have hl := hd0.len
  have b4 : 4 < blk := by have := hd0.2.2.1; omega
  have hn4 := hd0.2.1
  have hsz := spSz_le hr
  have hlenx := spLI_len hd0 hI
  have hfree := m_freeOne hd0 hc hx hI hst h13 h9
  have hI' := hI
  obtain ⟨x1, x2, x3, x4, ⟨u, u1, u2, u3, u4, u5⟩, x6, x7, x8, x9⟩ := hI
  have hhas := m_hasRoom (k := x.1.2.1) (left := spSz r) hd0 hc x2 (by omega)
  have hx' := hx
  obtain ⟨w5, w6, w7, w8, wF, wT⟩ := hx
  -- with room: the record's frames
  have fin : ∀ (g : jH) (s k e : Nat) (ser : Int) (F : spFl), MLg o h g → s < ns → k ≤ len → spBeh blk len 6 k (spSz r) = some e → MF (g (o + 33)) F → F.length + (spLayB blk r (ser % 256) 6 k 0).length ≤ 512 → g (o + 33) 5 = (s : Int) → g (o + 33) 6 = (k : Int) → g (o + 33) 7 = ser →
      ∃ h1, M_isLaid_p66 g o num = some (1, jup h1 (o + 33) (192 + s) num) ∧ MLf o g h1 ∧ MF (h1 (o + 33)) (F ++ spOut s k (spLayB blk r (ser % 256) 6 k 0)) ∧ h1 (o + 33) 6 = (e : Int) := by
    intro g s k e ser F hg hs hk he hF hn g5 g6 g7
    have gc := hg.md hd0 hc
    have gq := hg.qr hq
    have gh := m_hasRoom (k := k) (left := spSz r) hd0 gc hk (by omega)
    rw [he, if_neg (by simp)] at gh
    obtain ⟨h1, e1, e2, e3, e4⟩ := m_recL (num := num) (ser := ser) (s := s) hr hd0 hs 6 k 0 e g F (by omega) hk he gc gq hF hn g5 g6 g7
    refine ⟨h1, ?_, e2, e3, e4⟩
    unfold M_isLaid_p66
    rw [if_pos (by decide), m_payOf hr gq]
    simp only [Option.bind_some]
    rw [show ((6 : Int)).toNat = 6 from rfl, g6, gh]
    simp only [Option.bind_some]
    rw [if_neg (by decide)]
    exact e1
  have fup : ∀ (g : jH) (s : Nat), s < 4 → MLg o g (jup g (o + 33) (192 + s) num) := fun g s hs => ⟨fun q _ q2 _ => jup_ne q2, fun f _ => by rw [jup_ne (by omega)], fun i _ _ _ _ _ i6 _ => ju_ne (by omega)⟩
  have mfup : ∀ (g : jH) (s : Nat) (F : spFl), s < 4 → MF (g (o + 33)) F → F.length ≤ 512 → MF ((jup g (o + 33) (192 + s) num) (o + 33)) F := by
    intro g s F hs hF hn
    refine ⟨by rw [ju_ne (by omega)]; exact hF.1, fun i e he => ?_⟩
    have hi : i < F.length := (List.getElem?_eq_some_iff.mp he).1
    rw [ju_ne (by omega), ju_ne (by omega)]
    exact hF.2 i e he
  cases hg : spGoes ns blk len tp snap (spSz r) x.1 with
  | none =>
    have ho : spOne ns blk len tp snap r num x = none := by unfold spOne; rw [hg]
    rw [ho, if_pos rfl]
    unfold spGoes at hg
    have hbn : spBeh blk len 6 x.1.2.1 (spSz r) = none := by
      cases hb : spBeh blk len 6 x.1.2.1 (spSz r) with
      | none => rfl
      | some e => rw [hb, if_pos (by simp)] at hg; cases hg
    rw [hbn, if_neg (by simp)] at hg
    rw [hbn, if_pos rfl] at hhas
    have hL : M_isLaid h o num = (if spFirst (spIsF tp snap x.1.2.2.2.2) ns 0 = -1 then some (0, h) else Option.bind (M_opens h o (spFirst (spIsF tp snap x.1.2.2.2.2) ns 0)) (fun b7 => M_isLaid_L38 b7 o num 0)) := by
      unfold M_isLaid
      rw [if_pos (by decide), m_payOf hr hq]
      simp only [Option.bind_some]
      rw [show ((6 : Int)).toNat = 6 from rfl, w6, hhas]
      simp only [Option.bind_some]
      rw [if_pos trivial, hfree]
      rfl
    rw [hL]
    rcases spFirst_in (p := spIsF tp snap x.1.2.2.2.2) ns 0 with hf | ⟨t, hf, _, ht2, ht3⟩
    · rw [hf, if_pos rfl]
      exact ⟨h, rfl, MLg.rf, fun y hy => by cases hy⟩
    · rw [hf, if_neg (by omega)]
      rw [hf, if_neg (by omega)] at hg
      have hb5 : spBeh blk len 6 5 (spSz r) = none := by
        cases hb : spBeh blk len 6 5 (spSz r) with
        | none => rfl
        | some e => rw [hb, if_neg (by simp)] at hg; cases hg
      unfold spIsF at ht3
      simp at ht3
      have t4 : t < 4 := by omega
      have t0 : u t = 0 := u3 t t4 ht3.1 ht3.2
      have hlen5 : x.2.1.length + 5 ≤ 512 := by
        have := u1 0; have := u1 1; have := u1 2; have := u1 3
        have : t = 0 ∨ t = 1 ∨ t = 2 ∨ t = 3 := by omega
        rcases this with h | h | h | h <;> rw [h] at t0 <;> omega
      obtain ⟨g1, a1, a2, a3, a4, a5, a6, a7⟩ := m_opens (h := h) (o := o) (t := t) t4 w8
      rw [a1]
      simp only [Option.bind_some]
      have f1 : MLg o h g1 := ⟨fun q _ q2 _ => a2 q q2, fun f _ => by rw [a2 o (by omega)], fun i _ i5 i6 i7 i8 i9 _ => a7 i i5 i6 i7 i8 (by omega)⟩
      have hF1 : MF (g1 (o + 33)) x.2.1 := by
        refine ⟨by rw [a7 4 (by omega) (by omega) (by omega) (by omega) (by omega)]; exact wF.1, fun i e he => ?_⟩
        rw [a7 _ (by omega) (by omega) (by omega) (by omega) (by omega), a7 _ (by omega) (by omega) (by omega) (by omega) (by omega)]
        exact wF.2 i e he
      obtain ⟨g2, b1, b2, b3, b5⟩ := m_hdL (o := o) (num := num) (ser := wr (x.1.2.2.2.1 + 1)) (s := t) t4 (wr_in _) hnum 5 0 g1 x.2.1 (by omega) hF1 (by omega) a4 a5 a6
      rw [show (0 : Int) = ((0 : Nat) : Int) from rfl, b1]
      have f2 := f1.tr b2.g
      have gh := m_hasRoom (k := 5) (left := spSz r) hd0 (f2.md hd0 hc) (by omega) (by omega)
      rw [hb5, if_pos rfl] at gh
      refine ⟨g2, ?_, f2, fun y hy => by cases hy⟩
      unfold M_isLaid_p66
      rw [if_pos (by decide), m_payOf hr (f2.qr hq)]
      simp only [Option.bind_some]
      rw [show ((6 : Int)).toNat = 6 from rfl, b5, show (5 : Int) = ((5 : Nat) : Int) from rfl, gh]
      rfl
  | some yo =>
    obtain ⟨y', op⟩ := yo
    cases op with
    | false =>
      obtain ⟨eq, e, he⟩ := spGoes_same hg
      have ho : spOne ns blk len tp snap r num x = some ((y'.1, y'.2.1 + (spLayB blk r (y'.2.2.1 % 256) 6 y'.2.1 0).length, y'.2.2), x.2.1 ++ spOut y'.1 y'.2.1 (spLayB blk r (y'.2.2.1 % 256) 6 y'.2.1 0), pu x.2.2 y'.1 num) := by unfold spOne; rw [hg]
      have hlen := spLI_len hd0 (spOne_LI hd0 ho hI').1
      rw [eq] at ho hlen
      dsimp only at hlen
      rw [List.length_append, spOut_len] at hlen
      have hB := spLayB_len (r := r) (sl := x.1.2.2.1 % 256) b4 hl.2.2.2 6 x.1.2.1 0 e (by omega) x2 he
      rw [he, if_neg (by simp)] at hhas
      obtain ⟨h1, e1, e2, e3, e4⟩ := fin h x.1.1 x.1.2.1 e x.1.2.2.1 x.2.1 MLg.rf x1 x2 he wF hlen w5 w6 w7
      refine ⟨jup h1 (o + 33) (192 + x.1.1) num, ?_, e2.g.tr (fup h1 x.1.1 (by omega)), fun y hy => ?_⟩
      · rw [ho, if_neg (by simp)]
        unfold M_isLaid
        rw [if_pos (by decide), m_payOf hr hq]
        simp only [Option.bind_some]
        rw [show ((6 : Int)).toNat = 6 from rfl, w6, hhas]
        simp only [Option.bind_some]
        rw [if_neg (by decide)]
        exact e1
      · rw [ho] at hy
        rw [← Option.some.inj hy]
        refine ⟨⟨?_, ?_, ?_, ?_, mfup h1 x.1.1 _ (by omega) e3 (by rw [List.length_append, spOut_len]; omega), fun i hi => ?_⟩, hst⟩
        · rw [ju_ne (by omega), e2.2.2 5 (by omega) (by omega) (by omega)]; exact w5
        · rw [ju_ne (by omega), e4]; dsimp only; omega
        · rw [ju_ne (by omega), e2.2.2 7 (by omega) (by omega) (by omega)]; exact w7
        · rw [ju_ne (by omega), e2.2.2 8 (by omega) (by omega) (by omega)]; exact w8
        · rw [ju_if]
          show _ = pu x.2.2 x.1.1 num i
          unfold pu
          by_cases c : i = x.1.1
          · rw [if_pos (by omega), if_pos c]
          · rw [if_neg (by omega), if_neg c, e2.2.2 _ (by omega) (by omega) (by omega)]; exact wT i hi
    | true =>
      obtain ⟨t, t1, t2, t3, eq, e, he⟩ := spGoes_new hg
      have ho : spOne ns blk len tp snap r num x = some ((y'.1, y'.2.1 + (spLayB blk r (y'.2.2.1 % 256) 6 y'.2.1 0).length, y'.2.2), x.2.1 ++ spOut y'.1 0 (spHdB y'.2.2.1 num ++ spLayB blk r (y'.2.2.1 % 256) 6 y'.2.1 0), pu x.2.2 y'.1 num) := by unfold spOne; rw [hg]
      have hlen := spLI_len hd0 (spOne_LI hd0 ho hI').1
      rw [eq] at ho hlen
      dsimp only at ho hlen
      rw [List.length_append, spOut_len, List.length_append, spHdB_len] at hlen
      have t4 : t < 4 := by omega
      obtain ⟨sr, hsr⟩ : ∃ sr, sr = wr (x.1.2.2.2.1 + 1) := ⟨_, rfl⟩
      rw [← hsr] at ho hlen
      have hsr32 : jI32 sr := by rw [hsr]; exact wr_in _
      have hB := spLayB_len (r := r) (sl := sr % 256) b4 hl.2.2.2 6 5 0 e (by omega) (by omega) he
      have hff : spFirst (spIsF tp snap x.1.2.2.2.2) ns 0 = (t : Int) ∧ spBeh blk len 6 x.1.2.1 (spSz r) = none := by
        unfold spGoes at hg
        by_cases c : spBeh blk len 6 x.1.2.1 (spSz r) = none
        · refine ⟨?_, c⟩
          rw [c, if_neg (by simp)] at hg
          by_cases d : spFirst (spIsF tp snap x.1.2.2.2.2) ns 0 = -1
          · rw [if_pos d] at hg; cases hg
          · rw [if_neg d, he, if_neg (by simp), eq] at hg
            have := congrArg (fun z => (Prod.fst z).1) (Option.some.inj hg)
            dsimp only at this
            rcases spFirst_in (p := spIsF tp snap x.1.2.2.2.2) ns 0 with hf | ⟨t', hf, _⟩
            · exact absurd hf d
            · rw [hf] at this ⊢
              rw [Int.toNat_natCast] at this
              rw [this]
        · rw [if_pos c] at hg
          cases (congrArg Prod.snd (Option.some.inj hg))
      rw [hff.2, if_pos rfl] at hhas
      obtain ⟨g1, a1, a2, a3, a4, a5, a6, a7⟩ := m_opens (h := h) (o := o) (t := t) t4 w8
      rw [← hsr] at a3 a6
      have f1 : MLg o h g1 := ⟨fun q _ q2 _ => a2 q q2, fun f _ => by rw [a2 o (by omega)], fun i _ i5 i6 i7 i8 i9 _ => a7 i i5 i6 i7 i8 (by omega)⟩
      have hF1 : MF (g1 (o + 33)) x.2.1 := by
        refine ⟨by rw [a7 4 (by omega) (by omega) (by omega) (by omega) (by omega)]; exact wF.1, fun i e he => ?_⟩
        rw [a7 _ (by omega) (by omega) (by omega) (by omega) (by omega), a7 _ (by omega) (by omega) (by omega) (by omega) (by omega)]
        exact wF.2 i e he
      obtain ⟨g2, b1, b2, b3, b5⟩ := m_hdL (o := o) (num := num) (ser := sr) (s := t) t4 hsr32 hnum 5 0 g1 x.2.1 (by omega) hF1 (by omega) a4 a5 a6
      rw [List.drop_zero] at b3
      have f2 := f1.tr b2.g
      obtain ⟨h1, e1, e2, e3, e4⟩ := fin g2 t 5 e sr (x.2.1 ++ spOut t 0 (spHdB sr num)) f2 t1 (by omega) he b3 (by rw [List.length_append, spOut_len, spHdB_len]; omega) (by rw [b2.2.2 5 (by omega) (by omega) (by omega)]; exact a4) b5 (by rw [b2.2.2 7 (by omega) (by omega) (by omega)]; exact a6)
      refine ⟨jup h1 (o + 33) (192 + t) num, ?_, f2.tr (e2.g.tr (fup h1 t t4)), fun y hy => ?_⟩
      · rw [ho, if_neg (by simp)]
        unfold M_isLaid
        rw [if_pos (by decide), m_payOf hr hq]
        simp only [Option.bind_some]
        rw [show ((6 : Int)).toNat = 6 from rfl, w6, hhas]
        simp only [Option.bind_some]
        rw [if_pos trivial, hfree, hff.1]
        simp only [Option.bind_some]
        rw [if_neg (by omega), a1]
        simp only [Option.bind_some]
        rw [show (0 : Int) = ((0 : Nat) : Int) from rfl, b1]
        exact e1
      · rw [ho] at hy
        rw [← Option.some.inj hy]
        refine ⟨⟨?_, ?_, ?_, ?_, ?_, fun i hi => ?_⟩, ?_⟩
        · rw [ju_ne (by omega), e2.2.2 5 (by omega) (by omega) (by omega), b2.2.2 5 (by omega) (by omega) (by omega)]; exact a4
        · rw [ju_ne (by omega), e4]; dsimp only; omega
        · rw [ju_ne (by omega), e2.2.2 7 (by omega) (by omega) (by omega), b2.2.2 7 (by omega) (by omega) (by omega)]; exact a6
        · rw [ju_ne (by omega), e2.2.2 8 (by omega) (by omega) (by omega), b2.2.2 8 (by omega) (by omega) (by omega)]; exact a3
        · have := mfup h1 t _ t4 e3 (by rw [List.length_append, List.length_append, spOut_len, spOut_len, spHdB_len]; omega)
          dsimp only
          rw [spOut_app, spHdB_len, ← List.append_assoc]
          exact this
        · rw [ju_if]
          show _ = pu x.2.2 t num i
          unfold pu
          by_cases c : i = t
          · rw [if_pos (by omega), if_pos c]
          · rw [if_neg (by omega), if_neg c, e2.2.2 _ (by omega) (by omega) (by omega), b2.2.2 _ (by omega) (by omega) (by omega), a7 _ (by omega) (by omega) (by omega) (by omega) (by omega)]; exact wT i hi
        · show spVis x.1.2.2.2.2 t st = true
          unfold spVis
          rw [hst]
          simp
end MLW
