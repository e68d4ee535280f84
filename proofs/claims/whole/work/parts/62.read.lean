/-! the class's recovery, whole -/
section CRE3
variable {od rc ns blk len : Nat} {D C : Nat → Nat → Int}
/-- how the recovery's objects bear what was read so far -/
def CRs (h : jH) (rc : Nat) (r : spR3) : Prop := h rc 3 = r.1 ∧ (∀ q, q < 16 → h (rc + 2) q = r.2.1 q) ∧ ∀ q, q < 4 → h (rc + 3) q = r.2.2 q
def CRl (h : jH) (rc blk len : Nat) (D : Nat → Nat → Int) (s : Nat) : Prop := h rc 4 = (s : Int) ∧ h rc 5 = ((spWk blk len (D s)).2.2.1 : Int) ∧ h rc 6 = spSer (D s) ∧ h (rc + 1) 3 = ((spWk blk len (D s)).2.2.2 : Int) ∧ h (rc + 1) 6 = (s : Int) ∧ h (rc + 1) 7 = spSer (D s)
theorem spWk_len {blk len : Nat} {b : Nat → Int} (hb : 4 < blk) (hl : len % blk = 0) : ∀ (f k : Nat) (ins : Bool) (pay : Nat) (hd : Int) (e : Nat), k ≤ len → 5 * (spWalk blk len b f k ins pay hd e).1.length + k ≤ len ∧ (spWalk blk len b f k ins pay hd e).2.1.length ≤ (spWalk blk len b f k ins pay hd e).1.length := by
  intro f
  induction f with
  | zero => intro k ins pay hd e hk; unfold spWalk; exact ⟨by simp; omega, Nat.le_refl _⟩
  | succ f ih =>
    intro k ins pay hd e hk
    have hst := spStart_le (show 0 < blk by omega) hl hk
    by_cases a : len ≤ spStart blk k ∨ spGo blk len b (spStart blk k) ins pay hd = false
    · rw [spW_no (by omega) hb hl hk a]
      exact ⟨by simp; omega, Nat.le_refl _⟩
    · have a1 : spStart blk k < len := by omega
      have a2 : spGo blk len b (spStart blk k) ins pay hd = true := by
        cases hq : spGo blk len b (spStart blk k) ins pay hd with
        | true => rfl
        | false => exact absurd (Or.inr hq) a
      rw [spW_go a1 a2]
      have e9 := spFrame_in (by omega) hl (spGo_frame a2).1
      have key : ∀ (W : spW) (rs : List (Int × Int)), rs.length ≤ 1 → 5 * W.1.length + (spStart blk k + 4 + spN b (spStart blk k)) ≤ len ∧ W.2.1.length ≤ W.1.length → 5 * (spCons (spStart blk k) rs W).1.length + k ≤ len ∧ (spCons (spStart blk k) rs W).2.1.length ≤ (spCons (spStart blk k) rs W).1.length := by
        intro W rs h0 h1
        unfold spCons
        simp only [List.length_cons, List.length_append]
        omega
      exact key _ _ (by split <;> simp) (ih _ _ _ _ _ (by omega))
theorem spRd_next {snap : Int} {s : Nat} {r : spR3} (hb : spDim ns blk len) : r.1 ≤ (spRd D blk len snap s r).1 ∧ (spRd D blk len snap s r).1 ≤ r.1 + 128 := by
  have hl := hb.len
  have := spWk_len (b := D s) (show 4 < blk by have := hb.2.2.1; omega) hl.2.2.2 128 5 false 0 0 5 (by omega)
  unfold spRd
  dsimp only
  have e : (spWk blk len (D s)).2.1.length ≤ 128 := by unfold spWk; omega
  omega
theorem c_chL {snap : Int} (hd0 : spDim ns blk len) (hy : spByD ns len D) (hn : nin rc od) : ∀ (f : Nat) (s : Nat) (r : spR3) (h : jH) (i : Nat), i + f = 3 → s < ns → CD h od ns blk len D C → CRs h rc r → 0 ≤ r.1 → r.1 + 128 * ((f : Int) + 1) ≤ 900000 →
    ∃ h', Re_read_L53 h rc od snap (s : Int) (i : Int) = Re_read_p86 h' rc od snap ∧ (∀ q, (q < rc ∨ rc + 3 < q) → h' q = h q) ∧ CRs h' rc (spChain D ns blk len snap f s r).1 ∧ (spChain D ns blk len snap f s r).2 < ns ∧ CRl h' rc blk len D (spChain D ns blk len snap f s r).2 := by
  have hn4 := hd0.2.1
  have stop : ∀ (h : jH) (v i : Int), (v = -1 ∨ ¬ i < 4) → Re_read_L53 h rc od snap v i = Re_read_p86 h rc od snap := by
    intro h v i hv
    unfold Re_read_L53
    have hb : Re_read_B53 h rc od snap v i = Option.map Sum.inr (Re_read_p86 h rc od snap) := by
      unfold Re_read_B53
      by_cases a : v = -1
      · rw [if_pos a]
      · rw [if_neg a, if_neg (by omega)]
    cases hq : Re_read_p86 h rc od snap with
    | none =>
      rw [jloop_eq]
      dsimp only
      rw [hb, hq]
      rfl
    | some o =>
      refine jloop_r ?_
      show Re_read_B53 h rc od snap v i = _
      rw [hb, hq]
      rfl
  have step : ∀ (s : Nat) (r : spR3) (h : jH) (i : Nat), i < 4 → s < ns → CD h od ns blk len D C → CRs h rc r → 0 ≤ r.1 → r.1 ≤ 900000 →
      ∃ h', Re_read_L53 h rc od snap (s : Int) (i : Int) = Re_read_L53 h' rc od snap (spFollow D ns (spSer (D s)) (spRd D blk len snap s r).1) ((i + 1 : Nat) : Int) ∧ (∀ q, (q < rc ∨ rc + 3 < q) → h' q = h q) ∧ CD h' od ns blk len D C ∧ CRs h' rc (spRd D blk len snap s r) ∧ CRl h' rc blk len D s := by
    intro s r h i hi hs hc hr h0 h1
    obtain ⟨n, tab, tops⟩ := r
    obtain ⟨h', e1, e2, e3, e4, e5, e6, e7, e8, e9, e10, e11⟩ := c_rs (snap := snap) hd0 hc hy hs hn hr.1 hr.2.1 hr.2.2 h0 h1
    have hc' : CD h' od ns blk len D C := hc.fr4 hn e2
    refine ⟨h', ?_, e2, hc', ⟨e3, e7, e8⟩, ⟨e4, e5, e6, e9, e10, e11⟩⟩
    conv => lhs; unfold Re_read_L53
    refine (jloop_l (s' := (spFollow D ns (spSer (D s)) (spRd D blk len snap s (n, tab, tops)).1, ((i + 1 : Nat) : Int), h')) ?_).trans rfl
    show Re_read_B53 h rc od snap (s : Int) (i : Int) = _
    unfold Re_read_B53
    rw [if_neg (by omega), if_pos (by omega), e1]
    simp only [Option.bind_some]
    have := c_folL (rc := rc) hd0 hc' hy e6 e3 ns 0 (by omega)
    unfold Re_following
    unfold spPick at this
    rw [show (0 : Int) = ((0 : Nat) : Int) from rfl, this]
    simp only [Option.bind_some]
    rw [pw (by omega) (by omega)]
    rfl
  intro f
  induction f with
  | zero =>
    intro s r h i hi hs hc hr h0 h1
    obtain ⟨h', e1, e2, -, e3, e4⟩ := step s r h i (by omega) hs hc hr h0 (by omega)
    refine ⟨h', e1.trans (stop _ _ _ (Or.inr (by omega))), e2, e3, hs, e4⟩
  | succ f ih =>
    intro s r h i hi hs hc hr h0 h1
    obtain ⟨h', e1, e2, hc', e3, e4⟩ := step s r h i (by omega) hs hc hr h0 (by omega)
    have b := spRd_next (D := D) (snap := snap) (s := s) (r := r) hd0
    unfold spChain
    by_cases a : spFollow D ns (spSer (D s)) (spRd D blk len snap s r).1 = -1
    · rw [if_pos a]
      exact ⟨h', e1.trans (stop _ _ _ (Or.inl a)), e2, e3, hs, e4⟩
    · rw [if_neg a]
      have p := spPick_in (p := fun i => spHead (D i) && decide (spSer (D s) < spSer (D i)) && decide (spFst (D i) = (spRd D blk len snap s r).1)) (v := fun i => spSer (D i)) ns
      change -1 ≤ spFollow D ns (spSer (D s)) (spRd D blk len snap s r).1 ∧ spFollow D ns (spSer (D s)) (spRd D blk len snap s r).1 < (ns : Int) ∧ _ at p
      obtain ⟨t, ht⟩ : ∃ t : Nat, spFollow D ns (spSer (D s)) (spRd D blk len snap s r).1 = t := ⟨(spFollow D ns (spSer (D s)) (spRd D blk len snap s r).1).toNat, by omega⟩
      rw [ht] at e1 p ⊢
      obtain ⟨h'', w1, w2, w3, w4, w5⟩ := ih t (spRd D blk len snap s r) h' (i + 1) (by omega) (by omega) hc' e3 (by omega) (by omega)
      rw [Int.toNat_natCast]
      exact ⟨h'', e1.trans w1, fun q hq => (w2 q hq).trans (e2 q hq), w3, w4, w5⟩
/-- what the recovery answers -/
def CRq (h : jH) (rc : Nat) (q : spR3 × Nat × Int × Int × Bool) : Prop := CRs h rc q.1 ∧ h rc 4 = (q.2.1 : Int) ∧ h rc 5 = q.2.2.1 ∧ h rc 6 = q.2.2.2.1 ∧ h rc 7 = (if q.2.2.2.2 = true then 1 else 0)
theorem c_p102 {h : jH} {snap : Int} {n : Int} {tab tops : Nat → Int} (hr : CRs h rc (n, tab, tops)) : ∃ h', Re_read_p102 h rc snap = some h' ∧ (∀ q, (q < rc ∨ rc + 3 < q) → h' q = h q) ∧ CRq h' rc ((snap, tab, fun _ => -1), 0, 5, 0, true) := by
  unfold Re_read_p102 Re_withoutGround
  refine ⟨_, rfl, fun q hq => ?_, ⟨?_, ?_, ?_⟩, ?_, ?_, ?_, ?_⟩
  · rw [jup_ne (by omega), jup_ne (by omega), jup_ne (by omega), jup_ne (by omega), jup_ne (by omega), jfill_ne (by omega)]
  · simp [ju_if]
  · intro q hq
    rw [jup_ne (by omega), jup_ne (by omega), jup_ne (by omega), jup_ne (by omega), jup_ne (by omega), jfill_ne (by omega)]
    exact hr.2.1 q hq
  · intro q hq
    rw [jup_ne (by omega), jup_ne (by omega), jup_ne (by omega), jup_ne (by omega), jup_ne (by omega), jfill_at hq]
  · simp [ju_if]
  · simp [ju_if]
  · simp [ju_if]
  · simp [ju_if]
theorem c_read {h : jH} {snap : Int} {r3 : Nat} {stab : Nat → Int} (hd0 : spDim ns blk len) (hc : CD h od ns blk len D C) (hy : spByD ns len D) (hn : nin rc od) (hr3 : r3 < rc ∨ rc + 3 < r3) (hst : ∀ q, q < 16 → h r3 q = stab q) (hs0 : 0 ≤ snap) (hs1 : snap ≤ 800000) :
    ∃ h', Re_read h rc od snap r3 16 = some h' ∧ (∀ q, (q < rc ∨ rc + 3 < q) → h' q = h q) ∧ CRq h' rc (spRecov D ns blk len snap stab) := by
  have hl := hd0.len
  unfold Re_read
  rw [g_copy]
  simp only [Option.bind_some]
  obtain ⟨h1, hh1⟩ : ∃ h1, h1 = (jup (jup (jfill (jcpy h r3 (rc + 2) 0 0 16) (rc + 3) 4 (-1)) rc 3 snap) rc 4 (-1)) := ⟨_, rfl⟩
  rw [← hh1]
  have f1 : ∀ q, (q < rc ∨ rc + 3 < q) → h1 q = h q := fun q hq => by rw [hh1, jup_ne (by omega), jup_ne (by omega), jfill_ne (by omega), jcpy_ne (by omega)]
  have hc1 : CD h1 od ns blk len D C := hc.fr4 hn f1
  have hr1 : CRs h1 rc (snap, stab, fun _ => -1) := by
    refine ⟨?_, fun q hq => ?_, fun q hq => ?_⟩
    · rw [hh1, ju_ne (by decide), ju_eq]
    · rw [hh1, jup_ne (by omega), jup_ne (by omega), jfill_ne (by omega), jcpy_at hq, hst q hq]
    · rw [hh1, jup_ne (by omega), jup_ne (by omega), jfill_at hq]
  have hbeg := c_begL (snap := snap) hd0 hc1 hy ns 0 (by omega)
  unfold spPick at hbeg
  unfold Re_beginning
  rw [show (0 : Int) = ((0 : Nat) : Int) from rfl, hbeg]
  simp only [Option.bind_some]
  have pb := spPick_in (p := fun i => spHead (D i) && decide (spFst (D i) ≤ snap)) (v := fun i => spSer (D i)) ns
  change -1 ≤ spBegin D ns snap ∧ spBegin D ns snap < (ns : Int) ∧ _ at pb
  unfold spRecov
  by_cases a : spBegin D ns snap = -1
  · rw [if_pos a, if_pos a, a]
    unfold Re_read_p50
    have hstop : Re_read_L53 h1 rc od snap (-1) 0 = Re_read_p86 h1 rc od snap := by
      unfold Re_read_L53
      have hb : Re_read_B53 h1 rc od snap (-1) 0 = Option.map Sum.inr (Re_read_p86 h1 rc od snap) := by
        unfold Re_read_B53
        rw [if_pos rfl]
      cases hq : Re_read_p86 h1 rc od snap with
      | none =>
        rw [jloop_eq]
        dsimp only
        rw [hb, hq]
        rfl
      | some o =>
        refine jloop_r ?_
        show Re_read_B53 h1 rc od snap (-1) 0 = _
        rw [hb, hq]
        rfl
    rw [hstop]
    unfold Re_read_p86
    rw [if_pos (by rw [hh1]; simp [ju_if])]
    obtain ⟨h', e1, e2, e3⟩ := c_p102 (snap := snap) hr1
    exact ⟨h', e1, fun q hq => (e2 q hq).trans (f1 q hq), e3⟩
  · rw [if_neg a, if_neg a]
    obtain ⟨s, hs⟩ : ∃ s : Nat, spBegin D ns snap = s := ⟨(spBegin D ns snap).toNat, by omega⟩
    rw [hs, Int.toNat_natCast]
    have hsn : s < ns := by omega
    rw [c_fst hd0 hc1 hy hsn]
    simp only [Option.bind_some]
    have hsf := spSer_in (hy s hsn) (by omega)
    unfold Re_read_p50
    have hc2 : CD (jup h1 rc 3 (spFst (D s))) od ns blk len D C := hc1.fr4 hn (fun q hq => jup_ne (by omega))
    have hr2 : CRs (jup h1 rc 3 (spFst (D s))) rc (spFst (D s), stab, fun _ => -1) := by
      refine ⟨ju_eq, fun q hq => ?_, fun q hq => ?_⟩
      · rw [jup_ne (by omega)]; exact hr1.2.1 q hq
      · rw [jup_ne (by omega)]; exact hr1.2.2 q hq
    obtain ⟨h', e1, e2, e3, e4, e5⟩ := c_chL (snap := snap) hd0 hy hn 3 s (spFst (D s), stab, fun _ => -1) _ 0 rfl hsn hc2 hr2 (by dsimp only; omega) (by dsimp only; omega)
    rw [show (0 : Int) = ((0 : Nat) : Int) from rfl, e1]
    generalize spChain D ns blk len snap 3 s (spFst (D s), stab, fun _ => -1) = c at e3 e4 e5 ⊢
    obtain ⟨⟨n, tab, tops⟩, t⟩ := c
    dsimp only at e3 e4 e5 ⊢
    have f2 : ∀ q, (q < rc ∨ rc + 3 < q) → h' q = h q := fun q hq => by rw [e2 q hq, jup_ne (by omega), f1 q hq]
    have hc3 : CD h' od ns blk len D C := hc.fr4 hn f2
    unfold Re_read_p86
    rw [if_neg (by rw [e5.1]; omega), e3.1]
    by_cases b : n < snap
    · rw [if_pos b, if_pos b]
      obtain ⟨h'', w1, w2, w3⟩ := c_p102 (snap := snap) e3
      exact ⟨h'', w1, fun q hq => (w2 q hq).trans (f2 q hq), w3⟩
    · rw [if_neg b, if_neg b]
      obtain ⟨g, g1, g2, g3⟩ := c_gr hd0 hc3 hy
      rw [g1]
      simp only [Option.bind_some]
      rw [e5.2.2.1]
      have ys := spSer_in (hy t e4) (by omega)
      have fin : ∀ v : Bool, v = spDam D ns blk len t → ∃ h'', Re_read_p138 h' rc (if v = true then 1 else 0) = some h'' ∧ (∀ q, (q < rc ∨ rc + 3 < q) → h'' q = h q) ∧ CRq h'' rc ((n, tab, tops), t, ((spWk blk len (D t)).2.2.1 : Int), spSer (D t), spDam D ns blk len t) := by
        intro v hv
        unfold Re_read_p138
        rw [if_pos (by cases v <;> simp)]
        refine ⟨_, rfl, fun q hq => by rw [jup_ne (by omega), f2 q hq], ⟨?_, fun q hq => ?_, fun q hq => ?_⟩, ?_, ?_, ?_, ?_⟩
        · rw [ju_ne (by decide)]; exact e3.1
        · rw [jup_ne (by omega)]; exact e3.2.1 q hq
        · rw [jup_ne (by omega)]; exact e3.2.2 q hq
        · rw [ju_ne (by decide)]; exact e5.1
        · rw [ju_ne (by decide)]; exact e5.2.1
        · rw [ju_ne (by decide)]; exact e5.2.2.1
        · rw [ju_eq, hv]
      by_cases c1 : spSer (D t) < g
      · rw [if_pos c1]
        exact fin true (by rw [eq_comm, spDam_iff]; exact Or.inl ((g3 _ ys.1).mp c1))
      · rw [if_neg c1]
        unfold FR_anyBehind
        have hst := spWalk_stop (b := D t) (show 4 < blk by have := hd0.2.2.1; omega) hl.2.2.2 128 5 false 0 0 5 (by omega)
        change (spWk blk len (D t)).2.2.2 ≤ len at hst
        rw [e5.2.2.2.1, pw (by omega) (by omega), show ((spWk blk len (D t)).2.2.2 : Int) + 1 = (((spWk blk len (D t)).2.2.2 + 1 : Nat) : Int) by omega]
        obtain ⟨y, y1, y2⟩ := c_anyL hd0 hc3 hy e4 e5.2.2.2.2.1 e5.2.2.2.2.2 (len - ((spWk blk len (D t)).2.2.2 + 1)) ((spWk blk len (D t)).2.2.2 + 1) (by omega)
        rw [y1]
        simp only [Option.bind_some]
        rcases y2 with ⟨rfl, y2⟩ | ⟨rfl, y2⟩
        · rw [if_neg (by decide)]
          exact fin true (by rw [eq_comm, spDam_iff]; exact Or.inr y2)
        · rw [if_pos rfl]
          have : spDam D ns blk len t = false := by
            cases hq : spDam D ns blk len t with
            | false => rfl
            | true =>
              rcases spDam_iff.mp hq with h | h
              · exact absurd ((g3 _ ys.1).mpr h) c1
              · exact absurd h y2
          exact fin false this.symm
end CRE3
