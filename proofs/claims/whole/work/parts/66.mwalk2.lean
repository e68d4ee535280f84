/-! the reference's walk, whole -/
section MWK2
variable {o ns blk len s : Nat} {D C : Nat → Nat → Int}
def MRm (h : jH) (o : Nat) (rec : Bool) (snap n : Int) (tab tops : Nat → Int) : Prop :=
  h (o + 33) 9 = snap ∧ (rec = true → h o 65 = 1 ∧ h o 62 = n ∧ (∀ q, q < 16 → h (o + 33) (144 + q) = tab q) ∧ ∀ q, q < 4 → h (o + 33) (192 + q) = tops q) ∧ (rec = false → h o 65 = 0)
/-- what a walk may change -/
def MWf (o : Nat) (rec : Bool) (h h' : jH) : Prop := (∀ q, q ≠ o → q ≠ o + 33 → q ≠ o + 37 → h' q = h q) ∧ (∀ f, (f < 59 ∨ 64 < f) → h' o f = h o f) ∧ ∀ i, (rec = false ∨ (¬ (144 ≤ i ∧ i < 160) ∧ ¬ (192 ≤ i ∧ i < 196))) → h' (o + 33) i = h (o + 33) i
theorem MWf.rf {o : Nat} {rec : Bool} {h : jH} : MWf o rec h h := ⟨fun _ _ _ _ => rfl, fun _ _ => rfl, fun _ _ => rfl⟩
theorem MWf.tr {o : Nat} {rec : Bool} {h h1 h2 : jH} (a : MWf o rec h h1) (b : MWf o rec h1 h2) : MWf o rec h h2 := ⟨fun q x y z => (b.1 q x y z).trans (a.1 q x y z), fun f x => (b.2.1 f x).trans (a.2.1 f x), fun i x => (b.2.2 i x).trans (a.2.2 i x)⟩
theorem MWf.md {rec : Bool} {h h' : jH} (a : MWf o rec h h') (hd : spDim ns blk len) (hc : MD h o ns blk len D C) : MD h' o ns blk len D C := hc.fr hd (a.1 _ (by omega) (by omega) (by omega)) (fun i h0 h1 => a.2.2 i (Or.inr (by omega)))
def MWs (h : jH) (o cnt e pay : Nat) (hd : Int) : Prop := h o 59 = (cnt : Int) ∧ h o 60 = (e : Int) ∧ h o 61 = -1 ∧ h o 63 = (pay : Int) ∧ h o 64 = hd
theorem m_walk_end {h : jH} (hd0 : spDim ns blk len) (hc : MD h o ns blk len D C) {v k : Int} (hk : ¬ k < (len : Int) ∨ h o 61 ≠ -1) : M_walks_L29 h o (s : Int) v k = some (if h o 61 = -1 then jup h o 61 (len : Int) else h) := by
  unfold M_walks_L29
  refine jloop_x (X := some (if h o 61 = -1 then jup h o 61 (len : Int) else h)) ?_
  show M_walks_B29 h o (s : Int) v k = _
  unfold M_walks_B29 M_walks_p207
  rw [m_len hc hd0]
  simp only [Option.bind_some]
  by_cases a : k < (len : Int)
  · have b : h o 61 ≠ -1 := by rcases hk with h | h; exact absurd a h; exact h
    rw [if_pos a]
    simp [b]
  · rw [if_neg a]
    by_cases b : h o 61 = -1
    · simp [b]
    · simp [b]
theorem m_walk_pad {h : jH} (hd0 : spDim ns blk len) (hc : MD h o ns blk len D C) (h61 : h o 61 = -1) {v : Int} {k : Nat} (hk : k ≤ len) : M_walks_L29 h o (s : Int) v (k : Int) = M_walks_L29 h o (s : Int) v (spStart blk k : Int) := by
  have hl := hd0.len
  have b0 : 0 < blk := by have := hd0.2.2.1; omega
  have b1 := hd0.2.2.1
  have h1 := spEnd_gt (blk := blk) (k := k) b0
  by_cases a : spEnd blk k - k ≤ 4
  · by_cases c : k < len
    · have h3 := spEnd_le b0 hl.2.2.2 c
      unfold M_walks_L29
      refine jloop_l ?_
      show M_walks_B29 h o (s : Int) v (k : Int) = _
      unfold M_walks_B29
      rw [m_len hc hd0, m_blk hc]
      simp only [Option.bind_some]
      rw [if_pos (by omega), if_pos h61, if_pos (by omega), m_room hd0, if_neg (by omega), pw (by omega) (by omega)]
      unfold spStart
      rw [if_pos a, show (k : Int) + ((spEnd blk k - k : Nat) : Int) = (spEnd blk k : Int) by omega]
    · have : k = len := by omega
      subst this
      have := spEnd_len hl.2.2.2
      omega
  · unfold spStart
    rw [if_neg a]
theorem m_walkL (hd0 : spDim ns blk len) (hy : spByD ns len D) (hs : s < ns) {rec : Bool} {snap : Int} : ∀ (f : Nat) (h : jH) (k pay cnt e : Nat) (ins : Bool) (hd n : Int) (tab tops : Nat → Int), MD h o ns blk len D C → MWs h o cnt e pay hd → spKM pay hd → MRm h o rec snap n tab tops → k ≤ len → len ≤ k + f → pay ≤ k → 5 * cnt + 5 ≤ k → 0 ≤ n → n + (f : Int) ≤ 1000000 → (ins = false → pay = 0 ∧ hd = 0) →
    ∃ h', M_walks_L29 h o (s : Int) (if ins = true then 1 else 0) (k : Int) = some h' ∧ MWf o rec h h' ∧ MRm h' o rec snap (n + ((spWalk blk len (D s) f k ins pay hd e).2.1.length : Int)) (spRecs snap (spWalk blk len (D s) f k ins pay hd e).2.1 n tab) (spTopR s (spWalk blk len (D s) f k ins pay hd e).2.1 n tops) ∧ h' o 59 = ((cnt + (spWalk blk len (D s) f k ins pay hd e).1.length : Nat) : Int) ∧ h' o 60 = ((spWalk blk len (D s) f k ins pay hd e).2.2.1 : Int) ∧ h' o 61 = ((spWalk blk len (D s) f k ins pay hd e).2.2.2 : Int) ∧ (∀ t, t < cnt → h' (o + 37) t = h (o + 37) t) ∧ (∀ t, t < (spWalk blk len (D s) f k ins pay hd e).1.length → h' (o + 37) (cnt + t) = ((spWalk blk len (D s) f k ins pay hd e).1.getD t 0 : Int)) := by
  have hl := hd0.len
  have b0 : 0 < blk := by have := hd0.2.2.1; omega
  have b1 := hd0.2.2.1
  have hs4 : s < 4 := by have := hd0.2.1; omega
  intro f
  induction f with
  | zero =>
    intro h k pay cnt e ins hd n tab tops hc hw hkm hrm hk hf hp hcn hn0 hn1 hins
    obtain ⟨w1, w2, w3, w4, w5⟩ := hw
    refine ⟨_, m_walk_end hd0 hc (Or.inl (by omega)), ?_, ?_, ?_, ?_, ?_, ?_, ?_⟩
    · rw [if_pos w3]
      exact ⟨fun q h1 _ _ => jup_ne h1, fun g hg => ju_ne (by omega), fun i _ => by rw [jup_ne (by omega)]⟩
    · rw [if_pos w3]
      unfold spWalk spRecs spTopR
      obtain ⟨a1, a2, a3⟩ := hrm
      refine ⟨by rw [jup_ne (by omega)]; exact a1, fun hr => ⟨by rw [ju_ne (by decide)]; exact (a2 hr).1, by rw [ju_ne (by decide), (a2 hr).2.1]; simp, fun q hq => by rw [jup_ne (by omega)]; exact (a2 hr).2.2.1 q hq, fun q hq => by rw [jup_ne (by omega)]; exact (a2 hr).2.2.2 q hq⟩, fun hr => by rw [ju_ne (by decide)]; exact a3 hr⟩
    · rw [if_pos w3, ju_ne (by decide), w1]; unfold spWalk; rfl
    · rw [if_pos w3, ju_ne (by decide), w2]; unfold spWalk; rfl
    · rw [if_pos w3, ju_eq]; unfold spWalk; rfl
    · intro t _; rw [if_pos w3, jup_ne (by omega)]
    · intro t ht; unfold spWalk at ht; simp at ht
  | succ f ih =>
    intro h k pay cnt e ins hd n tab tops hc hw hkm hrm hk hf hp hcn hn0 hn1 hins
    obtain ⟨w1, w2, w3, w4, w5⟩ := hw
    rw [m_walk_pad hd0 hc w3 hk]
    have hst := spStart_le b0 hl.2.2.2 hk
    have hrm4 := spStart_room (blk := blk) (k := k) (by omega)
    have hge := spEnd_gt (blk := blk) (k := spStart blk k) b0
    obtain ⟨a1, a2, a3⟩ := hrm
    by_cases q1 : len ≤ spStart blk k
    · rw [spW_no b0 (by omega) hl.2.2.2 hk (Or.inl q1)]
      refine ⟨_, m_walk_end hd0 hc (Or.inl (by omega)), ?_, ?_, ?_, ?_, ?_, ?_, ?_⟩
      · rw [if_pos w3]
        exact ⟨fun q h1 _ _ => jup_ne h1, fun g hg => ju_ne (by omega), fun i _ => by rw [jup_ne (by omega)]⟩
      · rw [if_pos w3]
        unfold spRecs spTopR
        refine ⟨by rw [jup_ne (by omega)]; exact a1, fun hr => ⟨by rw [ju_ne (by decide)]; exact (a2 hr).1, by rw [ju_ne (by decide), (a2 hr).2.1]; simp, fun q hq => by rw [jup_ne (by omega)]; exact (a2 hr).2.2.1 q hq, fun q hq => by rw [jup_ne (by omega)]; exact (a2 hr).2.2.2 q hq⟩, fun hr => by rw [ju_ne (by decide)]; exact a3 hr⟩
      · rw [if_pos w3, ju_ne (by decide), w1]; rfl
      · rw [if_pos w3, ju_ne (by decide), w2]
      · rw [if_pos w3, ju_eq, hst.2.2.2 ⟨q1, by omega⟩]
      · intro t _; rw [if_pos w3, jup_ne (by omega)]
      · intro t ht; simp at ht
    · have q2 : spStart blk k < len := by omega
      by_cases q3 : spGo blk len (D s) (spStart blk k) ins pay hd = true
      · -- a right frame
        obtain ⟨g1, g2, g3⟩ := spGo_frame q3
        have e9 := spFrame_in b0 hl.2.2.2 g1
        have y1 := hy s hs (spStart blk k + 1) (by omega)
        rw [spW_go q2 q3]
        generalize hj : spStart blk k = j at q2 q3 g1 g2 g3 e9 y1 hrm4 hge hst ⊢
        have hb : M_isBorne h o (s : Int) (j : Int) = some (1, jup (jup h o 63 ((pay + spN (D s) j : Nat) : Int)) o 64 (spH (D s) j pay hd)) := by
          rw [m_borne hd0 hc hy hs g1 (by omega) w4 w5 hkm, if_pos]
          unfold spGo at q3
          rw [g1, g2] at q3
          simpa using q3
        have hKM := spKM_H (hy s hs) hkm e9.2.2.1
        obtain ⟨h1, hh1⟩ : ∃ h1 : jH, h1 = jup (jup (jup (jup h o 63 ((pay + spN (D s) j : Nat) : Int)) o 64 (spH (D s) j pay hd)) (o + 37) cnt (j : Int)) o 59 ((cnt + 1 : Nat) : Int) := ⟨_, rfl⟩
        have f1 : MWf o rec h h1 := by
          rw [hh1]
          refine ⟨fun q x1 x2 x3 => by rw [jup_ne x1, jup_ne x3, jup_ne x1, jup_ne x1], fun g hg => ?_, fun i _ => by rw [jup_ne (by omega), jup_ne (by omega), jup_ne (by omega), jup_ne (by omega)]⟩
          rw [ju_ne (by omega), jup_ne (by omega), ju_ne (by omega), ju_ne (by omega)]
        have hc1 := f1.md hd0 hc
        have hstep : M_walks_B29 h o (s : Int) (if ins = true then 1 else 0) (j : Int) = (if spLast (D s) j = true then M_walks_p163 h1 o (s : Int) (j : Int) 0 else M_walks_p163 h1 o (s : Int) (j : Int) 1) := by
          unfold M_walks_B29
          rw [m_len hc hd0, m_blk hc]
          simp only [Option.bind_some]
          rw [if_pos (by omega), if_pos w3, if_pos (by omega), m_room hd0, if_pos (by omega), m_frame hd0 hc hy hs, if_pos g1]
          simp only [Option.bind_some]
          rw [if_neg (by decide), pw (by omega) (by omega), show (j : Int) + 1 = ((j + 1 : Nat) : Int) by omega, m_oct hd0 hc hs (by omega)]
          simp only [Option.bind_some]
          rw [m_can rfl, if_pos g2]
          simp only [Option.bind_some]
          rw [if_neg (by decide), hb]
          simp only [Option.bind_some]
          rw [if_neg (by decide)]
          have e1 : (jup (jup h o 63 ((pay + spN (D s) j : Nat) : Int)) o 64 (spH (D s) j pay hd)) o 59 = (cnt : Int) := by rw [ju_ne (by decide), ju_ne (by decide), w1]
          rw [e1, if_pos (by omega), Int.toNat_natCast]
          have e2 : (jup (jup (jup h o 63 ((pay + spN (D s) j : Nat) : Int)) o 64 (spH (D s) j pay hd)) (o + 37) cnt (j : Int)) o 59 = (cnt : Int) := by rw [jup_ne (by omega), e1]
          rw [e2, pw (by omega) (by omega), show (cnt : Int) + 1 = ((cnt + 1 : Nat) : Int) by omega, ← hh1, m_oct hd0 hc1 hs (by omega)]
          simp only [Option.bind_some]
          unfold M_walks_p158
          cases hL : spLast (D s) j with
          | true =>
            unfold spLast at hL
            simp at hL
            rw [if_neg (by omega), if_neg (by omega), if_pos rfl]
          | false =>
            have : D s (j + 1) = 2 ∨ D s (j + 1) = 3 := by
              unfold spLast at hL
              unfold spCan at g2
              simp at hL
              cases ins <;> simp at g2 <;> omega
            rcases this with h | h
            · rw [if_pos h, if_neg (by decide)]
            · rw [if_neg (by omega), if_pos h, if_neg (by decide)]
        have hk2 : wr ((j : Int) + wr (4 + D s (j + 2))) = ((j + 4 + spN (D s) j : Nat) : Int) := by
          rw [e9.2.2.2.2.1, pw (x := 4 + (spN (D s) j : Int)) (by omega) (by omega), pw (by omega) (by omega)]
          omega
        have hd2 : M_diskAt h1 o (s : Int) (wr ((j : Int) + 2)) = some (D s (j + 2)) := by
          rw [pw (by omega) (by omega), show (j : Int) + 2 = ((j + 2 : Nat) : Int) by omega, m_oct hd0 hc1 hs (by omega)]
        have m1 : MRm h1 o rec snap n tab tops := by
          have i33 : h1 (o + 33) = h (o + 33) := funext fun i => by rw [hh1, jup_ne (by omega), jup_ne (by omega), jup_ne (by omega), jup_ne (by omega)]
          refine ⟨by rw [i33]; exact a1, fun hr => ⟨by rw [f1.2.1 65 (by omega)]; exact (a2 hr).1, ?_, fun q hq => by rw [i33]; exact (a2 hr).2.2.1 q hq, fun q hq => by rw [i33]; exact (a2 hr).2.2.2 q hq⟩, fun hr => by rw [f1.2.1 65 (by omega)]; exact a3 hr⟩
          rw [hh1, ju_ne (by decide), jup_ne (by omega), ju_ne (by decide), ju_ne (by decide)]
          exact (a2 hr).2.1
        cases hL : spLast (D s) j with
        | false =>
          have s1 : MWs h1 o (cnt + 1) e (pay + spN (D s) j) (spH (D s) j pay hd) := by
            rw [hh1]
            refine ⟨ju_eq, ?_, ?_, ?_, ?_⟩
            · rw [ju_ne (by decide), jup_ne (by omega), ju_ne (by decide), ju_ne (by decide), w2]
            · rw [ju_ne (by decide), jup_ne (by omega), ju_ne (by decide), ju_ne (by decide), w3]
            · rw [ju_ne (by decide), jup_ne (by omega), ju_ne (by decide), ju_eq]
            · rw [ju_ne (by decide), jup_ne (by omega), ju_eq]
          obtain ⟨h', x1, x2, x3, x4, x5, x6, x7, x8⟩ := ih h1 (j + 4 + spN (D s) j) (pay + spN (D s) j) (cnt + 1) e true (spH (D s) j pay hd) n tab tops hc1 s1 hKM m1 (by omega) (by omega) (by omega) (by omega) hn0 (by omega) (fun h => by cases h)
          simp only [if_neg (show ¬ false = true by decide), Bool.not_false]
          refine ⟨h', ?_, f1.tr x2, x3, ?_, x5, x6, ?_, ?_⟩
          · unfold M_walks_L29
            refine (jloop_l (s' := ((1 : Int), ((j + 4 + spN (D s) j : Nat) : Int), h1)) ?_).trans x1
            show M_walks_B29 h o (s : Int) _ (j : Int) = _
            rw [hstep, hL, if_neg (by decide)]
            unfold M_walks_p163
            rw [hd2]
            simp only [Option.bind_some]
            rw [if_neg (by decide), hk2]
          · rw [x4]; unfold spCons; simp only [List.length_cons]; omega
          · intro t ht
            rw [x7 t (by omega), hh1, jup_ne (by omega), ju_ne (by omega), jup_ne (by omega), jup_ne (by omega)]
          · intro t ht
            cases t with
            | zero =>
              show h' (o + 37) cnt = _
              rw [x7 cnt (by omega), hh1, jup_ne (by omega), ju_eq]
              rfl
            | succ t =>
              rw [show cnt + (t + 1) = cnt + 1 + t by omega, x8 t (by unfold spCons at ht; simp only [List.length_cons] at ht; omega)]
              rfl
        | true =>
          have hok := spOk_of (g3 hL)
          have hH := hKM.2.2.2.2 hok.1
          have hH0 := hKM.1
          have i64 : h1 o 64 = spH (D s) j pay hd := by rw [hh1, ju_ne (by decide), jup_ne (by omega), ju_eq]
          obtain ⟨ky, hky⟩ : ∃ ky : Nat, spH (D s) j pay hd / 65536 = ky := ⟨(spH (D s) j pay hd / 65536).toNat, by omega⟩
          obtain ⟨h2, r1, r2, r3, r4, r5⟩ := m_rec (h := h1) (n := n) (key := ky) (snap := snap) hs4 m1.1 (by omega) (by rw [i64]; exact hky) rfl (by rw [i64]; omega)
          rw [i64] at r5
          obtain ⟨h3, hh3⟩ : ∃ h3 : jH, h3 = jup (jup (jup h2 o 60 ((j + 4 + spN (D s) j : Nat) : Int)) o 63 0) o 64 0 := ⟨_, rfl⟩
          have f3 : MWf o rec h1 h3 := by
            rw [hh3]
            refine ⟨fun q x1 x2 x3 => by rw [jup_ne x1, jup_ne x1, jup_ne x1, r2 q x1 x2], fun g hg => by rw [ju_ne (by omega), ju_ne (by omega), ju_ne (by omega), r3 g (by omega)], fun i hi => ?_⟩
            rw [jup_ne (by omega), jup_ne (by omega), jup_ne (by omega)]
            cases hrec : rec with
            | false => rw [r4 (m1.2.2 hrec)]
            | true =>
              have := m1.2.1 hrec
              rw [(r5 this.1 this.2.1 hn0 (by omega)).2 i]
              have hi2 : ¬ (144 ≤ i ∧ i < 160) ∧ ¬ (192 ≤ i ∧ i < 196) := by rcases hi with h | h; rw [hrec] at h; cases h; exact h
              unfold pu
              rw [if_neg (by omega)]
              split
              · show (if i = 144 + ky then _ else _) = _
                rw [if_neg (by omega)]
              · rfl
          have hc3 := f3.md hd0 hc1
          have m3 : MRm h3 o rec snap (n + 1) (if snap ≤ n then pu tab (spH (D s) j pay hd / 65536).toNat (spH (D s) j pay hd % 65536) else tab) (pu tops s n) := by
            refine ⟨by rw [f3.2.2 9 (Or.inr (by omega))]; exact m1.1, fun hr => ?_, fun hr => by rw [f3.2.1 65 (by omega)]; exact m1.2.2 hr⟩
            have z := m1.2.1 hr
            have zz := r5 z.1 z.2.1 hn0 (by omega)
            have i33 : h3 (o + 33) = h2 (o + 33) := by rw [hh3, jup_ne (by omega), jup_ne (by omega), jup_ne (by omega)]
            refine ⟨by rw [f3.2.1 65 (by omega)]; exact z.1, ?_, fun q hq => ?_, fun q hq => ?_⟩
            · rw [hh3, ju_ne (by decide), ju_ne (by decide), ju_ne (by decide), zz.1]
            · rw [i33, zz.2]
              unfold pu
              rw [if_neg (by omega), hky, Int.toNat_natCast]
              by_cases a : snap ≤ n
              · rw [if_pos a, if_pos a]
                by_cases b : q = ky
                · subst b; rw [if_pos rfl, if_pos rfl]
                · rw [if_neg (by omega), if_neg b]; exact z.2.2.1 q hq
              · rw [if_neg a, if_neg a]; exact z.2.2.1 q hq
            · rw [i33, zz.2]
              unfold pu
              by_cases b : q = s
              · subst b; rw [if_pos rfl, if_pos rfl]
              · rw [if_neg (by omega), if_neg b]
                split
                · show (if 192 + q = 144 + ky then _ else _) = _
                  rw [if_neg (by omega)]; exact z.2.2.2 q hq
                · exact z.2.2.2 q hq
          have s3 : MWs h3 o (cnt + 1) (j + 4 + spN (D s) j) 0 0 := by
            rw [hh3]
            refine ⟨?_, ?_, ?_, ?_, ju_eq⟩
            · rw [ju_ne (by decide), ju_ne (by decide), ju_ne (by decide), r3 59 (by decide), hh1, ju_eq]
            · rw [ju_ne (by decide), ju_ne (by decide), ju_eq]
            · rw [ju_ne (by decide), ju_ne (by decide), ju_ne (by decide), r3 61 (by decide), hh1, ju_ne (by decide), jup_ne (by omega), ju_ne (by decide), ju_ne (by decide), w3]
            · rw [ju_ne (by decide), ju_eq]; rfl
          obtain ⟨h', x1, x2, x3, x4, x5, x6, x7, x8⟩ := ih h3 (j + 4 + spN (D s) j) 0 (cnt + 1) (j + 4 + spN (D s) j) false 0 (n + 1) _ _ hc3 s3 ⟨Int.le_refl _, fun _ => rfl, fun e => absurd e (by decide), fun e => absurd e (by decide), fun e => absurd e (by decide)⟩ m3 (by omega) (by omega) (by omega) (by omega) (by omega) (by omega) (fun _ => ⟨rfl, rfl⟩)
          have i37 : h3 (o + 37) = h1 (o + 37) := by rw [hh3, jup_ne (by omega), jup_ne (by omega), jup_ne (by omega), r2 _ (by omega) (by omega)]
          simp only [if_true, Bool.not_true]
          refine ⟨h', ?_, f1.tr (f3.tr x2), ?_, ?_, x5, x6, ?_, ?_⟩
          · unfold M_walks_L29
            refine (jloop_l (s' := ((0 : Int), ((j + 4 + spN (D s) j : Nat) : Int), h3)) ?_).trans x1
            show M_walks_B29 h o (s : Int) _ (j : Int) = _
            rw [hstep, hL, if_pos rfl]
            unfold M_walks_p163
            rw [hd2]
            simp only [Option.bind_some]
            rw [if_pos trivial, r1]
            simp only [Option.bind_some]
            rw [hk2, ← hh3]
          · have e : n + ((spCons j [(spH (D s) j pay hd / 65536, spH (D s) j pay hd % 65536)] (spWalk blk len (D s) f (j + 4 + spN (D s) j) false 0 0 (j + 4 + spN (D s) j))).2.1.length : Int) = n + 1 + ((spWalk blk len (D s) f (j + 4 + spN (D s) j) false 0 0 (j + 4 + spN (D s) j)).2.1.length : Int) := by
              unfold spCons
              simp only [List.length_append, List.length_cons, List.length_nil]
              omega
            rw [e]
            exact x3
          · rw [x4]; unfold spCons; simp only [List.length_cons]; omega
          · intro t ht
            rw [x7 t (by omega), i37, hh1, jup_ne (by omega), ju_ne (by omega), jup_ne (by omega), jup_ne (by omega)]
          · intro t ht
            cases t with
            | zero =>
              show h' (o + 37) cnt = _
              rw [x7 cnt (by omega), i37, hh1, jup_ne (by omega), ju_eq]
              rfl
            | succ t =>
              rw [show cnt + (t + 1) = cnt + 1 + t by omega, x8 t (by unfold spCons at ht; simp only [List.length_cons] at ht; omega)]
              rfl
      · -- none: the walk stops here
        have q4 : spGo blk len (D s) (spStart blk k) ins pay hd = false := by
          cases hq : spGo blk len (D s) (spStart blk k) ins pay hd with
          | true => exact absurd hq q3
          | false => rfl
        rw [spW_no b0 (by omega) hl.2.2.2 hk (Or.inr q4)]
        generalize hj : spStart blk k = j at q2 q4 hrm4 hge hst ⊢
        have hstep : M_walks_B29 h o (s : Int) (if ins = true then 1 else 0) (j : Int) = some (.inl ((if ins = true then 1 else 0), (j : Int), jup h o 61 (j : Int))) := by
          unfold M_walks_B29 M_walks_p106
          rw [m_len hc hd0, m_blk hc]
          simp only [Option.bind_some]
          rw [if_pos (by omega), if_pos w3, if_pos (by omega), m_room hd0, if_pos (by omega), m_frame hd0 hc hy hs]
          simp only [Option.bind_some]
          by_cases g1 : spFrame blk len (D s) j = true
          · have e9 := spFrame_in b0 hl.2.2.2 g1
            rw [if_neg (by rw [if_pos g1]; decide), pw (by omega) (by omega), show (j : Int) + 1 = ((j + 1 : Nat) : Int) by omega, m_oct hd0 hc hs (by omega)]
            simp only [Option.bind_some]
            rw [m_can rfl]
            simp only [Option.bind_some]
            by_cases g2 : spCan (D s (j + 1)) ins = true
            · rw [if_neg (by rw [if_pos g2]; decide), m_borne hd0 hc hy hs g1 (by omega) w4 w5 hkm, if_neg]
              · simp only [Option.bind_some]
                rw [if_pos trivial]
              · intro hq
                unfold spGo at q4
                rw [g1, g2, hq] at q4
                cases q4
            · rw [if_pos (by rw [if_neg g2])]
          · rw [if_pos (by rw [if_neg g1])]
        have hc1 : MD (jup h o 61 (j : Int)) o ns blk len D C := hc.fr hd0 (jup_ne (by omega)) (fun i _ _ => by rw [jup_ne (by omega)])
        refine ⟨jup h o 61 (j : Int), ?_, ?_, ?_, ?_, ?_, ju_eq, ?_, ?_⟩
        · unfold M_walks_L29
          refine (jloop_l hstep).trans ?_
          refine (m_walk_end (h := jup h o 61 (j : Int)) hd0 hc1 (Or.inr (by rw [ju_eq]; omega))).trans ?_
          rw [if_neg (by rw [ju_eq]; omega)]
        · exact ⟨fun q h1 _ _ => jup_ne h1, fun g hg => ju_ne (by omega), fun i _ => by rw [jup_ne (by omega)]⟩
        · unfold spRecs spTopR
          refine ⟨by rw [jup_ne (by omega)]; exact a1, fun hr => ⟨by rw [ju_ne (by decide)]; exact (a2 hr).1, by rw [ju_ne (by decide), (a2 hr).2.1]; simp, fun q hq => by rw [jup_ne (by omega)]; exact (a2 hr).2.2.1 q hq, fun q hq => by rw [jup_ne (by omega)]; exact (a2 hr).2.2.2 q hq⟩, fun hr => by rw [ju_ne (by decide)]; exact a3 hr⟩
        · rw [ju_ne (by decide), w1]; rfl
        · rw [ju_ne (by decide), w2]
        · intro t _; rw [jup_ne (by omega)]
        · intro t ht; simp at ht
end MWK2
