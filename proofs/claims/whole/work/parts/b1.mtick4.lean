/-! the reference's tick: acknowledging -/
section MTA
variable {ns blk len o : Nat}
def MAf (o : Nat) (h h' : jH) : Prop := (∀ q, q ≠ o → q ≠ o + 33 → h' q = h q) ∧ (∀ f, f ≠ 53 → f ≠ 54 → h' o f = h o f) ∧ ∀ i, i ≠ 2 → i ≠ 12 → ¬ (144 ≤ i ∧ i < 160) → ¬ (176 ≤ i ∧ i < 192) → (i < 2244 ∨ 2365 ≤ i) → h' (o + 33) i = h (o + 33) i
theorem m_ackL {fl th : Nat} {tick first : Int} {q : List spRec} (hfl : fl ≤ q.length) (h32 : q.length ≤ 32) (hf : 0 ≤ first ∧ first ≤ 1000000000) (hrk : ∀ r ∈ q, spRok r) (hth : th = 0 ∨ th = 1) : ∀ (m i : Nat) (h : jH) (tab : Nat → Int) (wt : spWt) (kp kpm : spKp) (rel : Int), i + m = fl → h (o + 33) 2 = first + i → h (o + 33) 1 = first + (q.length : Int) → h (o + 33) 11 = (q.length : Int) - (fl : Int) → (∀ (j : Nat) r, q[j]? = some r → MQr (h (o + 33)) (first + j) r) → h (o + 33) 0 = tick → (h (o + 33) 12 = (wt.length : Int) ∧ MWr (h (o + 33)) 0 wt ∧ ∀ x : Nat, x < 8 → h (o + 33) (184 + x) = spAw wt (x : Int)) → spWhos wt → wt.length ≤ 8 → MKp (h (o + 33)) kpm → (th = 0 → kpm = kp) → (∀ k, k < 16 → h (o + 33) (144 + k) = tab k) → h o 56 = (th : Int) → jI32 (h o 53) →
    ∃ h1, M_tickGoes_L48 h o = M_tickGoes_p138 h1 o ∧ MAf o h h1 ∧ h1 (o + 33) 2 = first + (fl : Int) ∧ (h1 (o + 33) 12 = ((spAck tick ((q.drop i).take m) (first + i) (tab, wt, kp, rel)).2.1.length : Int) ∧ MWr (h1 (o + 33)) 0 (spAck tick ((q.drop i).take m) (first + i) (tab, wt, kp, rel)).2.1 ∧ ∀ x : Nat, x < 8 → h1 (o + 33) (184 + x) = spAw (spAck tick ((q.drop i).take m) (first + i) (tab, wt, kp, rel)).2.1 (x : Int)) ∧ MKp (h1 (o + 33)) (if th = 0 then (spAck tick ((q.drop i).take m) (first + i) (tab, wt, kp, rel)).2.2.1 else kpm) ∧ (∀ k, k < 16 → h1 (o + 33) (144 + k) = (spAck tick ((q.drop i).take m) (first + i) (tab, wt, kp, rel)).1 k) ∧ h1 o 53 = wr (h o 53 + ((spAck tick ((q.drop i).take m) (first + i) (tab, wt, kp, rel)).2.2.2 - rel)) ∧ (0 ≤ h o 54 → 0 ≤ h o 55 → h o 54 + (m : Int) * h o 55 ≤ 2000000000 → h1 o 54 = h o 54 + (m : Int) * h o 55) := by
  unfold M_tickGoes_L48
  intro m
  induction m with
  | zero =>
    intro i h tab wt kp kpm rel hi w2 w1 w11 hq h0 hw hwh hw8 hk hkk ht h56 h53
    rw [List.take_zero]
    refine ⟨h, jloop_x ?_, ⟨fun _ _ _ => rfl, fun _ _ _ => rfl, fun _ _ _ _ _ _ => rfl⟩, by rw [w2]; omega, hw, ?_, ht, ?_, fun _ _ _ => by omega⟩
    · show M_tickGoes_B48 h o = _
      unfold M_tickGoes_B48
      rw [if_pos (by decide), if_pos (by decide), if_pos (by decide), show ((2 : Int)).toNat = 2 from rfl, show ((1 : Int)).toNat = 1 from rfl, show ((11 : Int)).toNat = 11 from rfl, w2, w1, w11, pw (by omega) (by omega), if_neg (by omega)]
    · show MKp (h (o + 33)) (if th = 0 then kp else kpm)
      split
      · rename_i z; rw [← hkk z]; exact hk
      · exact hk
    · show h o 53 = wr (h o 53 + (rel - rel))
      rw [show h o 53 + (rel - rel) = h o 53 by omega, wr_id h53]
  | succ m ih =>
    intro i h tab wt kp kpm rel hi w2 w1 w11 hq h0 hw hwh hw8 hk hkk ht h56 h53
    obtain ⟨r, hr⟩ : ∃ r, q[i]? = some r := ⟨q[i], List.getElem?_eq_getElem (by omega)⟩
    have hrok := hrk r (List.mem_of_getElem? hr)
    have hc := hq i r hr
    rw [spDrop_take hr]
    obtain ⟨ky, hky⟩ : ∃ ky : Nat, r.1 = ky := ⟨r.1.toNat, by unfold spRok at hrok; omega⟩
    have hk16 : ky < 16 := by unfold spRok at hrok; omega
    have hm32 : ((first + i) % 32).toNat < 32 := by omega
    have r0 : M_recordOf h o (first + i) 0 = some r.1 := (m_recOf (j := 0) (by decide)).trans (congrArg some hc.1)
    have r1 : M_recordOf h o (first + i) 1 = some r.2.1 := (m_recOf (j := 1) (by decide)).trans (by rw [hc.2.1])
    obtain ⟨g, hg⟩ : ∃ g : jH, g = jup h (o + 33) (144 + ky) r.2.1 := ⟨_, rfl⟩
    have gw : ∀ j, g (o + 33) j = if j = 144 + ky then r.2.1 else h (o + 33) j := fun j => by rw [hg, ju_if]
    have go : g o = h o := by rw [hg, jup_ne (by omega)]
    have gk : MKp (g (o + 33)) kpm := by
      refine ⟨by rw [gw, if_neg (by omega)]; exact hk.1, hk.2.1, fun k e he => ?_⟩
      rw [gw, gw, gw, if_neg (by omega), if_neg (by omega), if_neg (by omega)]
      exact hk.2.2 k e he
    obtain ⟨h1, e1, e2, e3, e4, e5, e6, e7, e8⟩ := m_relL (o := o) (num := first + i) (tick := tick) (all := wt.length) (th := th) hw8 hth wt [] kpm 0 g (by omega) (by simp) (fun k e he => by cases he) (fun k e he => by
        have := (List.getElem?_eq_some_iff.mp he).1
        rw [gw, if_neg (by omega)]; exact hw.2.1 k e he) (fun x hx => by rw [gw, if_neg (by omega)]; exact hw.2.2 x hx) hwh gk (by rw [gw, if_neg (by omega)]; exact h0) (by rw [go]; exact h56) (by rw [go]; exact h53)
    rw [List.nil_append] at e3 e4 e5 e6
    have hl := spRelW_len (num := first + i) wt
    obtain ⟨g2, hg2⟩ : ∃ g2 : jH, g2 = jup (jup h1 (o + 33) 2 (first + (i : Int) + 1)) o 54 (wr (h1 o 54 + h1 o 55)) := ⟨_, rfl⟩
    have g2w : ∀ j, g2 (o + 33) j = if j = 2 then first + (i : Int) + 1 else h1 (o + 33) j := fun j => by rw [hg2, jup_ne (by omega), ju_if]
    have g2o : ∀ f, f ≠ 54 → g2 o f = h1 o f := fun f hf => by rw [hg2, ju_ne hf, jup_ne (by omega)]
    have w12 : ∀ j, j ≠ 12 → j ≠ 2 → ¬ (176 ≤ j ∧ j < 192) → (j < 2244 ∨ 2365 ≤ j) → j ≠ 144 + ky → g2 (o + 33) j = h (o + 33) j := fun j j1 j2 j3 j4 j5 => by rw [g2w, if_neg j2, e2.2.2 j j1 j3 j4, gw, if_neg j5]
    obtain ⟨h2, x1, x2, x3, x4, x5, x6, x7, x8⟩ := ih (i + 1) g2 (pu tab r.1.toNat r.2.1) (spRelW (first + i) wt) (spRelK tick (first + i) wt kp) (if th = 0 then spRelK tick (first + i) wt kpm else kpm) (rel + ((wt.length : Int) - ((spRelW (first + i) wt).length : Int))) (by omega) (by rw [g2w, if_pos rfl]; omega) (by rw [w12 1 (by decide) (by decide) (by decide) (by decide) (by omega)]; exact w1) (by rw [w12 11 (by decide) (by decide) (by decide) (by decide) (by omega)]; exact w11) (fun j r' hr' => by
        have hm2 : ((first + (j : Int)) % 32).toNat < 32 := by omega
        unfold MQr
        rw [w12 _ (by omega) (by omega) (by omega) (by omega) (by omega), w12 _ (by omega) (by omega) (by omega) (by omega) (by omega), w12 _ (by omega) (by omega) (by omega) (by omega) (by omega)]
        exact hq j r' hr') (by rw [w12 0 (by decide) (by decide) (by decide) (by decide) (by omega)]; exact h0) ⟨by rw [g2w, if_neg (by decide)]; exact e3, fun k e he => by
        rw [g2w, if_neg (by omega)]; exact e4 k e he, fun x hx => by rw [g2w, if_neg (by omega)]; exact e5 x hx⟩ e6 (by omega) (by
        refine ⟨by rw [g2w, if_neg (by omega)]; exact e7.1, e7.2.1, fun k e he => ?_⟩
        rw [g2w, g2w, g2w, if_neg (by omega), if_neg (by omega), if_neg (by omega)]
        exact e7.2.2 k e he) (fun z => by rw [if_pos z, hkk z]) (fun k hk2 => by
        rw [g2w, if_neg (by omega), e2.2.2 _ (by omega) (by omega) (by omega), gw, hky, Int.toNat_natCast]
        unfold pu
        by_cases z : k = ky
        · rw [if_pos (by omega), if_pos z]
        · rw [if_neg (by omega), if_neg z]; exact ht k hk2) (by rw [g2o 56 (by decide), e2.2.1 56 (by decide), go]; exact h56) (by rw [g2o 53 (by decide), e8]; exact wr_in _)
    rw [show first + ((i + 1 : Nat) : Int) = first + i + 1 by omega] at x4 x5 x6 x7
    refine ⟨h2, (jloop_l (s' := g2) ?_).trans x1, ⟨fun z z1 z2 => by rw [x2.1 z z1 z2, hg2, jup_ne z1, jup_ne z2, e2.1 z z1 z2, hg, jup_ne z2], fun f f1 f2 => by rw [x2.2.1 f f1 f2, g2o f f2, e2.2.1 f f1, go], fun j j1 j2 j3 j4 j5 => by rw [x2.2.2 j j1 j2 j3 j4 j5, w12 j j2 j1 j4 j5 (by omega)]⟩, x3, x4, ?_, x6, ?_, fun a1 a2 a3 => ?_⟩
    · show M_tickGoes_B48 h o = _
      unfold M_tickGoes_B48
      rw [if_pos (by decide), if_pos (by decide), if_pos (by decide), show ((2 : Int)).toNat = 2 from rfl, show ((1 : Int)).toNat = 1 from rfl, show ((11 : Int)).toNat = 11 from rfl, w2, w1, w11, pw (by omega) (by omega), if_pos (by omega), if_pos (by decide), r0]
      simp only [Option.bind_some]
      rw [if_pos (by decide), r1]
      simp only [Option.bind_some]
      rw [hky, pw (x := 144 + (ky : Int)) (by omega) (by omega), show (144 + (ky : Int)).toNat = 144 + ky by omega, if_pos (by omega), if_pos (by decide), ← hg]
      unfold M_releases
      rw [if_pos (by decide), show ((12 : Int)).toNat = 12 from rfl, gw, if_neg (by omega), gw, if_neg (by omega), w2, hw.1]
      rw [show M_releases_L13 g o (first + (i : Int)) 0 (wt.length : Int) 0 = _ from e1]
      simp only [Option.bind_some]
      rw [if_pos (by decide), if_pos (by decide), e2.2.2 2 (by decide) (by decide) (by decide), gw, if_neg (by omega), w2, pw (x := first + (i : Int) + 1) (by omega) (by omega), jup_ne (show o ≠ o + 33 by omega), ← hg2]
    · rcases hth with z | z
      · rw [if_pos z] at x5 ⊢; exact x5
      · rw [if_neg (by omega)] at x5 ⊢
        rw [if_neg (by omega)] at x5
        exact x5
    · rw [x7, g2o 53 (by decide), e8, go, pw_al]
      congr 1
      simp only [spAck, List.length_nil]
      omega
    · have e54 : g2 o 54 = h o 54 + h o 55 := by
        rw [hg2, ju_eq, e2.2.1 54 (by decide), e2.2.1 55 (by decide), go, pw (by omega) ?_]
        have : (0 : Int) ≤ (m : Int) * h o 55 := Int.mul_nonneg (by omega) a2
        have e : ((m + 1 : Nat) : Int) * h o 55 = (m : Int) * h o 55 + h o 55 := by rw [Int.natCast_add, Int.add_mul]; simp
        omega
      have e55 : g2 o 55 = h o 55 := by rw [g2o 55 (by decide), e2.2.1 55 (by decide), go]
      have e : ((m + 1 : Nat) : Int) * h o 55 = (m : Int) * h o 55 + h o 55 := by rw [Int.natCast_add, Int.add_mul]; simp
      rw [x8 (by omega) (by omega) (by rw [e54, e55]; omega), e54, e55]
      omega
end MTA
