/-! the class's recovery -/
section CRE2
variable {od rc ns blk len s : Nat} {D C : Nat → Nat → Int}
theorem spW_go {blk len : Nat} {b : Nat → Int} {f k : Nat} {ins : Bool} {pay : Nat} {hd : Int} {e : Nat} (h1 : spStart blk k < len) (h2 : spGo blk len b (spStart blk k) ins pay hd = true) :
    spWalk blk len b (f + 1) k ins pay hd e = spCons (spStart blk k) (if spLast b (spStart blk k) = true then [(spH b (spStart blk k) pay hd / 65536, spH b (spStart blk k) pay hd % 65536)] else []) (spWalk blk len b f (spStart blk k + 4 + spN b (spStart blk k)) (!(spLast b (spStart blk k))) (if spLast b (spStart blk k) = true then 0 else pay + spN b (spStart blk k)) (if spLast b (spStart blk k) = true then 0 else spH b (spStart blk k) pay hd) (if spLast b (spStart blk k) = true then spStart blk k + 4 + spN b (spStart blk k) else e)) := by
  conv => lhs; unfold spWalk
  rw [if_neg (by omega), if_neg (by rw [h2]; decide)]
  cases hL : spLast b (spStart blk k) with
  | true => simp
  | false => simp
theorem spW_no {blk len : Nat} {b : Nat → Int} {f k : Nat} {ins : Bool} {pay : Nat} {hd : Int} {e : Nat} (hb : 0 < blk) (hb4 : 4 < blk) (hl : len % blk = 0) (hk : k ≤ len) (h : len ≤ spStart blk k ∨ spGo blk len b (spStart blk k) ins pay hd = false) :
    spWalk blk len b (f + 1) k ins pay hd e = ([], [], e, spStart blk k) := by
  have hst := spStart_le hb hl hk
  unfold spWalk
  by_cases a : len ≤ spStart blk k
  · rw [if_pos a, hst.2.2.2 ⟨a, hb4⟩]
  · rcases h with h | h
    · exact absurd h a
    · rw [if_neg a, if_pos h]
theorem spOk_of {pay : Nat} {hd : Int} (h : spOk pay hd = true) : 3 ≤ pay ∧ hd / 65536 < 16 ∧ hd % 65536 < 1000 := by
  unfold spOk at h
  simp at h
  omega
theorem spHd_nn {b : Nat → Int} {len : Nat} (hy : spBy b len) : ∀ (n i : Nat) (hd : Int), 0 ≤ hd → i + n ≤ len → 0 ≤ spHd b n i hd := by
  intro n
  induction n with
  | zero => intro i hd h _; exact h
  | succ n ih => intro i hd h hi; have := hy i (by omega); exact ih _ _ (by omega) (by omega)
theorem spH_nn {blk len : Nat} {b : Nat → Int} {j pay : Nat} {hd : Int} (hy : spBy b len) (h0 : 0 ≤ hd) (hj : j + 4 + spN b j ≤ len) : 0 ≤ spH b j pay hd := spHd_nn hy _ _ _ h0 (by omega)
/-- a segment's records are taken -/
theorem c_rsL (hd0 : spDim ns blk len) (hy : spByD ns len D) (hs : s < ns) (hn : nin rc od) {snap : Int} : ∀ (f : Nat) (h : jH) (k pay : Nat) (ins : Bool) (hd : Int) (e i : Nat) (n : Int) (tab tops : Nat → Int), CD h od ns blk len D C → CR h (rc + 1) s k (spSer (D s)) ins pay hd → k ≤ len → len ≤ k + f → pay ≤ k → i + 5 ≤ k →
    h rc 3 = n → h rc 5 = (e : Int) → (∀ q, q < 16 → h (rc + 2) q = tab q) → (∀ q, q < 4 → h (rc + 3) q = tops q) → 0 ≤ n → n + (f : Int) ≤ 1000000 →
    ∃ h', Re_readSegment_L31 h rc od (s : Int) snap (i : Int) = some h' ∧ (∀ q, (q < rc ∨ rc + 3 < q) → h' q = h q) ∧ h' rc 3 = n + ((spWalk blk len (D s) f k ins pay hd e).2.1.length : Int) ∧ h' rc 4 = h rc 4 ∧ h' rc 5 = ((spWalk blk len (D s) f k ins pay hd e).2.2.1 : Int) ∧ h' rc 6 = h rc 6 ∧ (∀ q, q < 16 → h' (rc + 2) q = spRecs snap (spWalk blk len (D s) f k ins pay hd e).2.1 n tab q) ∧ (∀ q, q < 4 → h' (rc + 3) q = spTopR s (spWalk blk len (D s) f k ins pay hd e).2.1 n tops q) ∧ h' (rc + 1) 3 = ((spWalk blk len (D s) f k ins pay hd e).2.2.2 : Int) ∧ h' (rc + 1) 6 = (s : Int) ∧ h' (rc + 1) 7 = spSer (D s) := by
  have hl := hd0.len
  have b0 : 0 < blk := by have := hd0.2.2.1; omega
  have b1 := hd0.2.2.1
  have hs4 : s < 4 := by have := hd0.2.1; omega
  unfold Re_readSegment_L31
  intro f
  induction f with
  | zero =>
    intro h k pay ins hd e i n tab tops hc hR hk hf hp hi h3 h5 ht htp hn0 hn1
    have hst := spStart_le b0 hl.2.2.2 hk
    obtain ⟨h', y, e1, e2, e6, e7, ⟨rfl, -, e8⟩ | ⟨-, e3, -⟩⟩ := c_adv hd0 hc hy hs (r := rc + 1) (by unfold nin at hn; omega) hk hp hR
    · refine ⟨h', jloop_r ?_, fun q hq => e2 q (by omega), ?_, ?_, ?_, ?_, ?_, ?_, ?_, e6, e7⟩
      · show Re_readSegment_B31 h rc od _ _ (i : Int) = _
        unfold Re_readSegment_B31
        rw [if_pos (by omega), e1]
        rfl
      · rw [e2 _ (by omega), h3]; unfold spWalk; simp
      · rw [e2 _ (by omega)]
      · rw [e2 _ (by omega), h5]; unfold spWalk; rfl
      · rw [e2 _ (by omega)]
      · intro q hq; rw [e2 _ (by omega), ht q hq]; unfold spWalk; rfl
      · intro q hq; rw [e2 _ (by omega), htp q hq]; unfold spWalk; rfl
      · rw [e8]; unfold spWalk; have : len ≤ spStart blk k := by omega
        rw [hst.2.2.2 ⟨this, by omega⟩]
    · omega
  | succ f ih =>
    intro h k pay ins hd e i n tab tops hc hR hk hf hp hi h3 h5 ht htp hn0 hn1
    have hst := spStart_le b0 hl.2.2.2 hk
    obtain ⟨h', y, e1, e2, e6, e7, ⟨rfl, e3, e8⟩ | ⟨rfl, e3, e4, -, ek, -, e5, elst⟩⟩ := c_adv hd0 hc hy hs (r := rc + 1) (by unfold nin at hn; omega) hk hp hR
    · refine ⟨h', jloop_r ?_, fun q hq => e2 q (by omega), ?_, ?_, ?_, ?_, ?_, ?_, ?_, e6, e7⟩
      · show Re_readSegment_B31 h rc od _ _ (i : Int) = _
        unfold Re_readSegment_B31
        rw [if_pos (by omega), e1]
        rfl
      all_goals try rw [spW_no b0 (by omega) hl.2.2.2 hk e3]
      · rw [e2 _ (by omega), h3]; simp
      · rw [e2 _ (by omega)]
      · rw [e2 _ (by omega), h5]
      · rw [e2 _ (by omega)]
      · intro q hq; rw [e2 _ (by omega), ht q hq]; rfl
      · intro q hq; rw [e2 _ (by omega), htp q hq]; rfl
      · rw [e8]
    · have e9 := spFrame_in b0 hl.2.2.2 (spGo_frame e4).1
      have hc' : CD h' od ns blk len D C := hc.fr4 hn (fun q hq => e2 q (by omega))
      have hpp : (if spLast (D s) (spStart blk k) = true then 0 else pay + spN (D s) (spStart blk k)) ≤ spStart blk k + 4 + spN (D s) (spStart blk k) := by split <;> omega
      rw [spW_go e3 e4]
      have hisl : FR_isLast h' (rc + 1) = some (if spLast (D s) (spStart blk k) = true then 1 else 0) := by
        rw [FR_isLast_eq, ek]
        unfold spLast
        simp
      cases hL : spLast (D s) (spStart blk k) with
      | false =>
        rw [hL] at e5 hisl hpp
        simp only [if_neg (show ¬ false = true by decide)] at e5 hisl hpp ⊢
        obtain ⟨h'', w1, w2, w3, w4, w5, w6, w7, w8, w9, w10, w11⟩ := ih h' _ _ _ _ e (i + 1) n tab tops hc' e5 (by omega) (by omega) hpp (by omega) (by rw [e2 _ (by omega), h3]) (by rw [e2 _ (by omega), h5]) (fun q hq => by rw [e2 _ (by omega), ht q hq]) (fun q hq => by rw [e2 _ (by omega), htp q hq]) hn0 (by omega)
        refine ⟨h'', ?_, fun q hq => (w2 q hq).trans (e2 q (by omega)), w3, by rw [w4, e2 _ (by omega)], w5, by rw [w6, e2 _ (by omega)], w7, w8, w9, w10, w11⟩
        refine (jloop_l (s' := (((i + 1 : Nat) : Int), h')) ?_).trans w1
        show Re_readSegment_B31 h rc od _ _ (i : Int) = _
        unfold Re_readSegment_B31
        rw [if_pos (by omega), e1]
        simp only [Option.bind_some, if_neg (show ¬ (1 : Int) = 0 by decide)]
        rw [hisl]
        simp only [Option.bind_some, if_true]
        rw [pw (by omega) (by omega)]
        rfl
      | true =>
        rw [hL] at e5 hisl hpp
        have e10 := elst hL
        have e11 := spOk_of ((spGo_frame e4).2.2 hL)
        have e12 : 0 ≤ spH (D s) (spStart blk k) pay hd := spH_nn (blk := blk) (hy s hs) hR.2.2.2.2.2.2.1 e9.2.2.1
        generalize hH : spH (D s) (spStart blk k) pay hd = H at e10 e11 e12
        obtain ⟨ky, hky⟩ : ∃ ky : Nat, H / 65536 = ky := ⟨(H / 65536).toNat, by omega⟩
        simp only [if_true] at e5 hisl hpp ⊢
        -- the heap behind this record
        obtain ⟨h2, g1, g2, g3⟩ : ∃ h2, (if h' rc 3 < snap then Re_readSegment_p89 h' rc od (s : Int) snap (i : Int) else Option.bind (G_put h' (rc + 2) 16 (h' (rc + 1) 4) (h' (rc + 1) 5)) (fun b9 => Re_readSegment_p89 b9 rc od (s : Int) snap (i : Int))) = Re_readSegment_p89 h2 rc od (s : Int) snap (i : Int) ∧ (∀ q, q ≠ rc + 2 → h2 q = h' q) ∧ (∀ q, q < 16 → h2 (rc + 2) q = (if snap ≤ n then pu tab (H / 65536).toNat (H % 65536) else tab) q) := by
          by_cases a : n < snap
          · refine ⟨h', by rw [e2 rc (by omega), h3, if_pos a], fun _ _ => rfl, fun q hq => ?_⟩
            rw [if_neg (by omega), e2 _ (by omega), ht q hq]
          · refine ⟨jup h' (rc + 2) ky (H % 65536), ?_, fun q hq => jup_ne hq, fun q hq => ?_⟩
            · rw [e2 rc (by omega), h3, if_neg a, e10.1, e10.2, hky, g_putN (by omega)]
              rfl
            · rw [if_pos (by omega), hky, ju_if, Int.toNat_natCast, e2 _ (by omega), ht q hq]
              rfl
        have hc2 : CD (jup (jup (jup h2 (rc + 3) s n) rc 3 (n + 1)) rc 5 ((spStart blk k + 4 + spN (D s) (spStart blk k) : Nat) : Int)) od ns blk len D C := hc'.fr4 hn (fun q hq => by rw [jup_ne (by omega), jup_ne (by omega), jup_ne (by omega), g2 q (by omega)])
        have hR2 : CR (jup (jup (jup h2 (rc + 3) s n) rc 3 (n + 1)) rc 5 ((spStart blk k + 4 + spN (D s) (spStart blk k) : Nat) : Int)) (rc + 1) s (spStart blk k + 4 + spN (D s) (spStart blk k)) (spSer (D s)) (!true) 0 0 := by
          unfold CR
          rw [jup_ne (by omega), jup_ne (by omega), jup_ne (by omega), g2 _ (by omega)]
          exact e5
        obtain ⟨h'', w1, w2, w3, w4, w5, w6, w7, w8, w9, w10, w11⟩ := ih _ _ _ _ _ (spStart blk k + 4 + spN (D s) (spStart blk k)) (i + 1) (n + 1) (if snap ≤ n then pu tab (H / 65536).toNat (H % 65536) else tab) (pu tops s n) hc2 hR2 (by omega) (by omega) hpp (by omega) (by rw [ju_ne (by decide), ju_eq]) (by rw [ju_eq]) (fun q hq => by rw [jup_ne (by omega), jup_ne (by omega), jup_ne (by omega), g3 q hq]) (fun q hq => by
          rw [jup_ne (by omega), jup_ne (by omega), ju_if, g2 _ (by omega), e2 _ (by omega), htp q hq]; rfl) (by omega) (by omega)
        refine ⟨h'', ?_, fun q hq => ?_, ?_, ?_, ?_, ?_, ?_, ?_, ?_, w10, w11⟩
        · refine (jloop_l (s' := (((i + 1 : Nat) : Int), _)) ?_).trans w1
          show Re_readSegment_B31 h rc od _ _ (i : Int) = _
          unfold Re_readSegment_B31
          rw [if_pos (by omega), e1]
          simp only [Option.bind_some, if_neg (show ¬ (1 : Int) = 0 by decide)]
          rw [hisl]
          simp only [Option.bind_some, if_neg (show ¬ (1 : Int) = 0 by decide)]
          rw [g1]
          unfold Re_readSegment_p89
          rw [g_putN hs4]
          simp only [Option.bind_some]
          rw [g2 rc (by omega), e2 rc (by omega), h3, jup_ne (show rc ≠ rc + 3 by omega), g2 rc (by omega), e2 rc (by omega), h3, pw (by omega) (by omega), pw (by omega) (by omega)]
          rw [jup_ne (show rc + 1 ≠ rc by omega), jup_ne (show rc + 1 ≠ rc + 3 by omega), g2 (rc + 1) (by omega), e5.1]
          rfl
        · rw [w2 q hq, jup_ne (by omega), jup_ne (by omega), jup_ne (by omega), g2 q (by omega), e2 q (by omega)]
        · rw [w3]; unfold spCons; simp; omega
        · rw [w4, ju_ne (by decide), ju_ne (by decide), jup_ne (by omega), g2 _ (by omega), e2 _ (by omega)]
        · rw [w5]; rfl
        · rw [w6, ju_ne (by decide), ju_ne (by decide), jup_ne (by omega), g2 _ (by omega), e2 _ (by omega)]
        · intro q hq; rw [w7 q hq]; rfl
        · intro q hq; rw [w8 q hq]; rfl
        · rw [w9]; rfl
theorem c_rs {h : jH} (hd0 : spDim ns blk len) (hc : CD h od ns blk len D C) (hy : spByD ns len D) (hs : s < ns) (hn : nin rc od) {snap n : Int} {tab tops : Nat → Int} (h3 : h rc 3 = n) (ht : ∀ q, q < 16 → h (rc + 2) q = tab q) (htp : ∀ q, q < 4 → h (rc + 3) q = tops q) (hn0 : 0 ≤ n) (hn1 : n ≤ 900000) :
    ∃ h', Re_readSegment h rc od (s : Int) snap = some h' ∧ (∀ q, (q < rc ∨ rc + 3 < q) → h' q = h q) ∧ h' rc 3 = (spRd D blk len snap s (n, tab, tops)).1 ∧ h' rc 4 = (s : Int) ∧ h' rc 5 = ((spWk blk len (D s)).2.2.1 : Int) ∧ h' rc 6 = spSer (D s) ∧ (∀ q, q < 16 → h' (rc + 2) q = (spRd D blk len snap s (n, tab, tops)).2.1 q) ∧ (∀ q, q < 4 → h' (rc + 3) q = (spRd D blk len snap s (n, tab, tops)).2.2 q) ∧ h' (rc + 1) 3 = ((spWk blk len (D s)).2.2.2 : Int) ∧ h' (rc + 1) 6 = (s : Int) ∧ h' (rc + 1) 7 = spSer (D s) := by
  have hl := hd0.len
  unfold Re_readSegment
  have hc1 : CD (jup h rc 4 (s : Int)) od ns blk len D C := hc.fr4 hn (fun q hq => jup_ne (by omega))
  rw [c_ser hd0 hc1 hy hs]
  simp only [Option.bind_some]
  have hc2 : CD (jup (jup (jup h rc 4 (s : Int)) rc 6 (spSer (D s))) rc 5 5) od ns blk len D C := hc.fr4 hn (fun q hq => by rw [jup_ne (by omega), jup_ne (by omega), jup_ne (by omega)])
  obtain ⟨h1, e1, e2, e3⟩ := c_open hd0 hc2 hy hs (r := rc + 1) (by unfold nin at hn; omega)
  have hc3 : CD h1 od ns blk len D C := hc2.fr4 hn (fun q hq => e2 q (by omega))
  have f2 : ∀ q, q ≠ rc → q ≠ rc + 1 → h1 q = h q := fun q hq hq2 => by rw [e2 q hq2, jup_ne hq, jup_ne hq, jup_ne hq]
  rw [e1]
  obtain ⟨h2, w1, w2, w3, w4, w5, w6, w7, w8, w9, w10, w11⟩ := c_rsL (snap := snap) hd0 hy hs hn 128 h1 5 0 false 0 5 0 n tab tops hc3 e3 (by omega) (by omega) (by omega) (by omega) (by rw [e2 _ (by omega)]; simp [ju_if, h3]) (by rw [e2 _ (by omega)]; simp [ju_if]) (fun q hq => by rw [f2 _ (by omega) (by omega), ht q hq]) (fun q hq => by rw [f2 _ (by omega) (by omega), htp q hq]) hn0 (by omega)
  refine ⟨h2, w1, fun q hq => by rw [w2 q hq, f2 q (by omega) (by omega)], w3, ?_, w5, ?_, w7, w8, w9, w10, w11⟩
  · rw [w4, e2 _ (by omega)]; simp [ju_if]
  · rw [w6, e2 _ (by omega)]; simp [ju_if]
theorem c_grL {h : jH} (hd0 : spDim ns blk len) (hc : CD h od ns blk len D C) (hy : spByD ns len D) : ∀ m i (g : Int), i + m = ns → 0 ≤ g → (∀ x, 0 ≤ x → (x < g ↔ spAny (fun i => spHead (D i) && decide (x < spSer (D i))) i = true)) → ∃ g', Di_greatestSerial_L4 h od g (i : Int) = some g' ∧ 0 ≤ g' ∧ ∀ x, 0 ≤ x → (x < g' ↔ spAny (fun i => spHead (D i) && decide (x < spSer (D i))) ns = true) := by
  have hn := hd0.2.1
  have hl := hd0.len
  unfold Di_greatestSerial_L4
  intro m
  induction m with
  | zero =>
    intro i g hi hg hx
    obtain rfl : i = ns := by omega
    refine ⟨g, jloop_r ?_, hg, hx⟩
    show Di_greatestSerial_B4 h od _ _ = _
    unfold Di_greatestSerial_B4
    rw [hc.1, if_neg (by omega)]
    rfl
  | succ m ih =>
    intro i g hi hg hx
    have hi2 : i < ns := by omega
    have y := spSer_in (hy i hi2) (by omega)
    obtain ⟨g', e1, e2⟩ := ih (i + 1) (if spHead (D i) = true then max g (spSer (D i)) else g) (by omega) (by split <;> omega) (fun x h0 => by
      have := hx x h0
      unfold spAny
      by_cases a : spHead (D i) = true
      · rw [if_pos a]
        simp [a]
        rw [← this]
        omega
      · rw [if_neg a]
        simp [a]
        exact this)
    refine ⟨g', (jloop_l ?_).trans e1, e2⟩
    show Di_greatestSerial_B4 h od _ _ = _
    unfold Di_greatestSerial_B4
    rw [hc.1, if_pos (by omega), c_head hd0 hc hy hi2, c_ser hd0 hc hy hi2, pw (by omega) (by omega)]
    by_cases a : spHead (D i) = true
    · simp [a]
    · simp [a]
theorem c_gr {h : jH} (hd0 : spDim ns blk len) (hc : CD h od ns blk len D C) (hy : spByD ns len D) : ∃ g, Di_greatestSerial h od = some g ∧ 0 ≤ g ∧ ∀ x, 0 ≤ x → (x < g ↔ spAny (fun i => spHead (D i) && decide (x < spSer (D i))) ns = true) := by
  unfold Di_greatestSerial
  exact c_grL hd0 hc hy ns 0 0 (by omega) (by omega) (fun x h0 => by unfold spAny; simp; omega)
theorem spAny_of {p : Nat → Bool} : ∀ {n : Nat}, spAny p n = true ↔ ∃ k, k < n ∧ p k = true := by
  intro n
  induction n with
  | zero => unfold spAny; simp
  | succ n ih =>
    unfold spAny
    rw [Bool.or_eq_true, ih]
    constructor
    · rintro (⟨k, h1, h2⟩ | h)
      · exact ⟨k, by omega, h2⟩
      · exact ⟨n, by omega, h⟩
    · rintro ⟨k, h1, h2⟩
      by_cases a : k = n
      · right; rw [← a]; exact h2
      · left; exact ⟨k, by omega, h2⟩
theorem c_anyL {h : jH} (hd0 : spDim ns blk len) (hc : CD h od ns blk len D C) (hy : spByD ns len D) (hs : s < ns) {r : Nat} (h6 : h r 6 = (s : Int)) (h7 : h r 7 = spSer (D s)) : ∀ m k, k + m = len ∨ (m = 0 ∧ k = len + 1) → ∃ y, FR_anyBehind_L7 h r od (k : Int) = some y ∧ ((y = 1 ∧ ∃ j, k ≤ j ∧ j < len ∧ spFrame blk len (D s) j = true ∧ 1 ≤ D s (j + 1) ∧ D s (j + 1) ≤ 4) ∨ (y = 0 ∧ ¬ ∃ j, k ≤ j ∧ j < len ∧ spFrame blk len (D s) j = true ∧ 1 ≤ D s (j + 1) ∧ D s (j + 1) ≤ 4)) := by
  have hl := hd0.len
  unfold FR_anyBehind_L7
  intro m
  induction m with
  | zero =>
    intro k hk
    refine ⟨0, jloop_r ?_, Or.inr ⟨rfl, by rintro ⟨j, h1, h2, -⟩; omega⟩⟩
    show FR_anyBehind_B7 h r od _ = _
    unfold FR_anyBehind_B7
    rw [hc.2.1, if_neg (by omega)]
    rfl
  | succ m ih =>
    intro k hk
    have hk2 : k < len := by omega
    by_cases a : spFrame blk len (D s) k = true ∧ 1 ≤ D s (k + 1) ∧ D s (k + 1) ≤ 4
    · refine ⟨1, jloop_r ?_, Or.inl ⟨rfl, k, by omega, hk2, a⟩⟩
      show FR_anyBehind_B7 h r od _ = _
      unfold FR_anyBehind_B7
      rw [hc.2.1, if_pos (by omega), h6, h7, c_frame hd0 hc hy hs (by omega), if_pos a]
      rfl
    · obtain ⟨y, e1, e2⟩ := ih (k + 1) (by omega)
      have : (∃ j, k + 1 ≤ j ∧ j < len ∧ spFrame blk len (D s) j = true ∧ 1 ≤ D s (j + 1) ∧ D s (j + 1) ≤ 4) ↔ (∃ j, k ≤ j ∧ j < len ∧ spFrame blk len (D s) j = true ∧ 1 ≤ D s (j + 1) ∧ D s (j + 1) ≤ 4) := by
        constructor
        · rintro ⟨j, h1, h2⟩; exact ⟨j, by omega, h2⟩
        · rintro ⟨j, h1, h2⟩
          refine ⟨j, ?_, h2⟩
          by_cases e : j = k
          · subst e; exact absurd h2.2 a
          · omega
      rw [this] at e2
      refine ⟨y, (jloop_l (s' := ((k + 1 : Nat) : Int)) ?_).trans e1, e2⟩
      show FR_anyBehind_B7 h r od _ = _
      unfold FR_anyBehind_B7
      rw [hc.2.1, if_pos (by omega), h6, h7, c_frame hd0 hc hy hs (by omega), if_neg a, pw (by omega) (by omega)]
      rfl
theorem spDam_iff : spDam D ns blk len s = true ↔ (spAny (fun i => spHead (D i) && decide (spSer (D s) < spSer (D i))) ns = true ∨ ∃ j, (spWk blk len (D s)).2.2.2 + 1 ≤ j ∧ j < len ∧ spFrame blk len (D s) j = true ∧ 1 ≤ D s (j + 1) ∧ D s (j + 1) ≤ 4) := by
  unfold spDam
  rw [Bool.or_eq_true, spAny_of (p := fun k => decide ((spWk blk len (D s)).2.2.2 < k) && spFrame blk len (D s) k && decide (1 ≤ D s (k + 1)) && decide (D s (k + 1) ≤ 4))]
  constructor
  · rintro (h | ⟨k, h1, h2⟩)
    · exact Or.inl h
    · right
      simp at h2
      exact ⟨k, by omega, h1, h2.1.1.2, h2.1.2, h2.2⟩
  · rintro (h | ⟨k, h1, h2, h3, h4, h5⟩)
    · exact Or.inl h
    · right
      refine ⟨k, h2, ?_⟩
      simp [h3, h4, h5]
      omega
theorem spWalk_stop {blk len : Nat} {b : Nat → Int} (hb : 4 < blk) (hl : len % blk = 0) : ∀ (f k : Nat) (ins : Bool) (pay : Nat) (hd : Int) (e : Nat), k ≤ len → (spWalk blk len b f k ins pay hd e).2.2.2 ≤ len := by
  intro f
  induction f with
  | zero => intro k ins pay hd e hk; unfold spWalk; exact Nat.le_refl _
  | succ f ih =>
    intro k ins pay hd e hk
    have hst := spStart_le (show 0 < blk by omega) hl hk
    by_cases a : len ≤ spStart blk k ∨ spGo blk len b (spStart blk k) ins pay hd = false
    · rw [spW_no (by omega) hb hl hk a]
      show spStart blk k ≤ len
      omega
    · have a1 : spStart blk k < len := by omega
      have a2 : spGo blk len b (spStart blk k) ins pay hd = true := by
        cases hq : spGo blk len b (spStart blk k) ins pay hd with
        | true => rfl
        | false => exact absurd (Or.inr hq) a
      rw [spW_go a1 a2]
      have e9 := spFrame_in (by omega) hl (spGo_frame a2).1
      exact ih _ _ _ _ _ (by omega)
end CRE2
