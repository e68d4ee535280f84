/-! the reference's tick -/
def spCl0 : List Int := [41, 1003, 8, 43, 1004, 8, 11]
def spTk0 : List Int := [1001, 42, 1016, 4, 1]
theorem spCl0_at (e : spEnv) : spTold e spCl0 = if 0 < (if 3 < e.1 1 then (1 : Int) else 0) + (if 4 < e.1 3 then 1 else 0) then 1 else 0 := by
  simp [spTold, spCl0, spRun, spStp, spOp]
theorem spTk0_at (e : spEnv) : spTold e spTk0 = spClip (1 + spFlo (e.1 2) 16) := by
  simp [spTold, spTk0, spRun, spStp, spOp]
/-- what a tick may change -/
def MTf (o : Nat) (h h' : jH) : Prop := (∀ q, q ≠ o → q ≠ o + 33 → q ≠ o + 34 → q ≠ o + 35 → q ≠ o + 67 → h' q = h q) ∧ ∀ f, f ≠ 44 → f ≠ 46 → f ≠ 47 → f ≠ 50 → f ≠ 53 → f ≠ 54 → f ≠ 55 → f ≠ 105 → h' o f = h o f
theorem MTf.tr {o : Nat} {h h1 h2 : jH} (a : MTf o h h1) (b : MTf o h1 h2) : MTf o h h2 := ⟨fun q x1 x2 x3 x4 x5 => (b.1 q x1 x2 x3 x4 x5).trans (a.1 q x1 x2 x3 x4 x5), fun f x1 x2 x3 x4 x5 x6 x7 x8 => (b.2 f x1 x2 x3 x4 x5 x6 x7 x8).trans (a.2 f x1 x2 x3 x4 x5 x6 x7 x8)⟩
/-- the codes of one of the two formulas -/
def MPl1 (h : jH) (o w : Nat) (cs d : List Int) : Prop := (∃ fr : Nat, fr + cs.length ≤ 1600 ∧ h (o + 30) (2 + w) = (fr : Int) ∧ h (o + 31) (2 + w) = ((fr + cs.length : Nat) : Int) ∧ ∀ (i : Nat) (c : Int), cs[i]? = some c → h (o + 32) (1600 + (fr + i)) = c) ∨ (h (o + 30) (2 + w) = -1 ∧ cs = d)
def MPl (h : jH) (o : Nat) (p : spPl) : Prop := MPl1 h o 0 p.2.2.2.1 spCl0 ∧ MPl1 h o 1 p.2.2.2.2 spTk0
theorem MPl1.eq {h h' : jH} {o w : Nat} {cs d : List Int} (a : MPl1 h o w cs d) (e1 : h' (o + 30) = h (o + 30)) (e2 : h' (o + 31) = h (o + 31)) (e3 : h' (o + 32) = h (o + 32)) : MPl1 h' o w cs d := by
  unfold MPl1 at a ⊢
  rw [e1, e2, e3]; exact a
theorem MPl.eq {h h' : jH} {o : Nat} {p : spPl} (a : MPl h o p) (e1 : h' (o + 30) = h (o + 30)) (e2 : h' (o + 31) = h (o + 31)) (e3 : h' (o + 32) = h (o + 32)) : MPl h' o p := ⟨a.1.eq e1 e2 e3, a.2.eq e1 e2 e3⟩
theorem m_coded {h : jH} {o w : Nat} (hw : w < 2) : M_isCoded h o (w : Int) = some (if h (o + 30) (2 + w) = -1 then 0 else 1) := by
  unfold M_isCoded
  rw [pw (by omega) (by omega), if_pos (by omega), show (2 + (w : Int)).toNat = 2 + w by omega]
  split <;> rfl
section MTK
variable {ns blk len o : Nat}
theorem m_asksL {fl nn : Nat} {first : Int} {q : List spRec} (hrk : ∀ r ∈ q, spRok r) (hn : fl + nn ≤ q.length) (hf : 0 ≤ first ∧ first ≤ 1000000000) : ∀ (m i : Nat) (h : jH) (acc : Int), i + m = nn → MQu (h (o + 33)) q fl first → h o 47 = acc → 0 ≤ acc → acc + 43 * (m : Int) ≤ 1000000 →
    ∃ h', M_asksOf_L27 h o (nn : Int) (first + (fl : Int)) (i : Int) = some h' ∧ (∀ z, z ≠ o → h' z = h z) ∧ (∀ f, f ≠ 47 → h' o f = h o f) ∧ h' o 47 = acc + spPay1 ((q.drop (fl + i)).take m) := by
  unfold M_asksOf_L27
  intro m
  induction m with
  | zero =>
    intro i h acc hi hq h47 h0 h1
    refine ⟨h, jloop_r ?_, fun _ _ => rfl, fun _ _ => rfl, ?_⟩
    · show M_asksOf_B27 h o (nn : Int) (first + (fl : Int)) (i : Int) = _
      unfold M_asksOf_B27
      rw [if_neg (by omega)]
      rfl
    · rw [List.take_zero, h47]; simp [spPay1]
  | succ m ih =>
    intro i h acc hi hq h47 h0 h1
    have hlt : fl + i < q.length := by have := hq.2.2.2.2.1; omega
    have h32 := hq.2.2.2.1
    have hr := hrk _ (List.getElem_mem hlt)
    have hs := spPay1_in [q[fl + i]] (fun r hr2 => by rw [List.mem_singleton.mp hr2]; exact hr)
    have hz : spPay1 [q[fl + i]] = (spSz q[fl + i] : Int) := by simp [spPay1]
    rw [hz] at hs
    simp only [List.length_cons, List.length_nil] at hs
    have hp := m_payOf (o := o) (h := h) (num := first + ((fl + i : Nat) : Int)) hr (hq.r (List.getElem?_eq_getElem hlt))
    obtain ⟨h', w1, w2, w3, w4⟩ := ih (i + 1) (jup h o 47 (acc + (spSz q[fl + i] : Int))) _ (by omega) (by rw [jup_ne (by omega)]; exact hq) ju_eq (by omega) (by omega)
    refine ⟨h', (jloop_l (s' := (((i + 1 : Nat) : Int), jup h o 47 (acc + (spSz q[fl + i] : Int)))) ?_).trans w1, fun z hz => by rw [w2 z hz, jup_ne hz], fun f hf => by rw [w3 f hf, ju_ne hf], ?_⟩
    · show M_asksOf_B27 h o (nn : Int) (first + (fl : Int)) (i : Int) = _
      unfold M_asksOf_B27
      rw [if_pos (by omega), pw (x := first + (fl : Int) + (i : Int)) (by omega) (by omega), show first + (fl : Int) + (i : Int) = first + ((fl + i : Nat) : Int) by omega, hp]
      simp only [Option.bind_some]
      rw [h47, pw (by omega) (by omega), pw (by omega) (by omega)]
      rfl
    · rw [w4, show fl + (i + 1) = fl + i + 1 by omega, List.drop_eq_getElem_cons hlt, List.take_succ_cons]
      simp only [spPay1]
      omega
theorem m_asks {h : jH} {fl nn : Nat} {first : Int} {q : List spRec} (hrk : ∀ r ∈ q, spRok r) (hq : MQu (h (o + 33)) q fl first) (hn : fl + nn ≤ q.length) (hf : 0 ≤ first ∧ first ≤ 1000000000) : ∃ h', M_asksOf h o (nn : Int) = some h' ∧ (∀ z, z ≠ o → h' z = h z) ∧ (∀ f, f ≠ 46 → f ≠ 47 → h' o f = h o f) ∧ h' o 46 = (nn : Int) ∧ h' o 47 = spPay1 ((q.drop fl).take nn) := by
  have h32 := hq.2.2.2.1
  have hle := hq.2.2.2.2.1
  unfold M_asksOf
  rw [if_pos (by decide), if_pos (by decide), show ((1 : Int)).toNat = 1 from rfl, show ((11 : Int)).toNat = 11 from rfl, hq.2.1, hq.2.2.1, pw (by omega) (by omega), show first + (q.length : Int) - ((q.length : Int) - (fl : Int)) = first + (fl : Int) by omega]
  obtain ⟨h', w1, w2, w3, w4⟩ := m_asksL (o := o) hrk hn hf nn 0 (jup (jup h o 46 (nn : Int)) o 47 0) 0 (by omega) (by rw [jup_ne (by omega), jup_ne (by omega)]; exact hq) ju_eq (by omega) (by omega)
  refine ⟨h', w1, fun z hz => by rw [w2 z hz, jup_ne hz, jup_ne hz], fun f f1 f2 => by rw [w3 f f2, ju_ne f2, ju_ne f1], by rw [w3 46 (by decide), ju_ne (by decide), ju_eq], ?_⟩
  rw [w4, Nat.add_zero]; omega
/-- what a group's formula tells, by the reference -/
theorem m_codes {h : jH} {w nn : Nat} {b : Int} {bb : Bool} {al : Int → Bool} {s : spSt} {cs : List Int} {fr : Nat} (hw : w < 2) (hq : MQu (h (o + 33)) s.2.2.1.1 s.2.2.1.2.1 s.2.2.1.2.2) (h12 : h (o + 33) 12 = (s.2.2.2.1.1.length : Int)) (h0 : h (o + 33) 0 = s.2.2.2.2.2.2.2.2.2.2) (hI : spInv ns blk len b s) (hwt : 0 < spWtg s) (hn : nn ≤ 16) (h46 : h o 46 = (nn : Int)) (h47 : h o 47 = spPay1 ((s.2.2.1.1.drop s.2.2.1.2.1).take nn)) (hfr : fr + cs.length ≤ 1600) (h30 : h (o + 30) (2 + w) = (fr : Int)) (h31 : h (o + 31) (2 + w) = ((fr + cs.length : Nat) : Int)) (hcd : ∀ (i : Nat) (c : Int), cs[i]? = some c → h (o + 32) (1600 + (fr + i)) = c) (hal : ∀ c, al c = true → c ≤ 44) (ht : spTys al cs [] = some [bb]) :
    ∃ h', M_codesTell h o (w : Int) = some (spTold (spGe s nn) cs, h') ∧ (∀ q, q ≠ o → q ≠ o + 67 → h' q = h q) ∧ (∀ f, f ≠ 44 → f ≠ 105 → h' o f = h o f) ∧ spVal bb (spTold (spGe s nn) cs) := by
  have hwt2 : s.2.2.1.2.1 < s.2.2.1.1.length := by unfold spWtg at hwt; omega
  have he := spGe_ok hI hn hwt2
  obtain ⟨⟨D, C⟩, ⟨F, lf⟩, ⟨q, fl, first⟩, ⟨wt, kp⟩, ⟨tab, stab, snap, tops⟩, ⟨sg, at', ser, gr, hl, tk⟩⟩ := s
  obtain ⟨i1, i2, i3, i4, i5, i6, i7⟩ := hI
  have c3 := hq
  have c4 := h12
  have p6 := h0
  dsimp only at h47 hwt2 c3 c4 p6
  unfold M_codesTell
  rw [pw (x := 2 + (w : Int)) (by omega) (by omega), if_pos (by omega), show (2 + (w : Int)).toNat = 2 + w by omega]
  obtain ⟨g, hg⟩ : ∃ g : jH, g = jup (jup h o 44 (w : Int)) o 105 0 := ⟨_, rfl⟩
  rw [← hg]
  have go : ∀ q, q ≠ o → g q = h q := fun q hq => by rw [hg, jup_ne hq, jup_ne hq]
  have gf : ∀ f, f ≠ 44 → f ≠ 105 → g o f = h o f := fun f f1 f2 => by rw [hg, ju_ne f2, ju_ne f1]
  rw [go (o + 30) (by omega), h30]
  have hrec : ∀ g', MEf o g g' → M_recordOf g' o (wr (g' (o + 33) 1 - g' (o + 33) 11)) 3 = some ((q.drop fl).headD (0, 0, 0, 0)).2.2.2 := by
    intro g' hg'
    have h32 := c3.2.2.2.1
    rw [hg'.1 (o + 33) (by omega) (by omega), go (o + 33) (by omega), c3.2.1, c3.2.2.1, pw (by omega) (by omega), show first + (q.length : Int) - ((q.length : Int) - (fl : Int)) = first + (fl : Int) by omega, show (3 : Int) = ((3 : Nat) : Int) from rfl, m_recOf (by decide), hg'.1 (o + 33) (by omega) (by omega), go (o + 33) (by omega), (c3.2.2.2.2.2 fl _ (List.getElem?_eq_getElem hwt2)).2.2.2, List.drop_eq_getElem_cons hwt2]
    rfl
  have hb : 0 ≤ ((q.drop fl).headD (0, 0, 0, 0)).2.2.2 ∧ ((q.drop fl).headD (0, 0, 0, 0)).2.2.2 ≤ 999 := by
    rw [List.drop_eq_getElem_cons hwt2]
    exact (i3.1 _ (List.getElem_mem hwt2)).2
  have hMI : MEi o (MEf o g) al (spGe ((D, C), (F, lf), (q, fl, first), (wt, kp), (tab, stab, snap, tops), (sg, at', ser, gr, hl, tk)) nn) 0 := by
    refine ⟨fun g1 g2 a b => ⟨fun z z1 z2 => (b.1 z z1 z2).trans (a.1 z z1 z2), fun f hf => (b.2 f hf).trans (a.2 f hf)⟩, fun g' k hg' hk hal2 => ?_, fun g' x _ _ ha => by have := hal _ ha; omega, fun g' x _ _ ha => by have := hal _ ha; omega⟩
    have hk4 := hal _ hal2
    refine ⟨g', ?_, hg', rfl, rfl⟩
    have e33 : g' (o + 33) = h (o + 33) := by rw [hg'.1 (o + 33) (by omega) (by omega), go (o + 33) (by omega)]
    have ef : ∀ f, f ≠ 44 → f ≠ 105 → g' o f = h o f := fun f f1 f2 => by rw [hg'.2 f f2, gf f f1 f2]
    have hr := hrec g' hg'
    have hk5 : k = 0 ∨ k = 1 ∨ k = 2 ∨ k = 3 ∨ k = 4 := by omega
    unfold M_qPartOf
    rcases hk5 with e | e | e | e | e <;> subst e
    · rw [if_pos (by decide), if_pos (by decide), e33]
      show some (h (o + 33) 0, g') = _
      rw [p6]; rfl
    · rw [if_neg (by decide), if_pos (by decide), ef 46 (by decide) (by decide), h46]; rfl
    · rw [if_neg (by decide), if_neg (by decide), if_pos (by decide), ef 47 (by decide) (by decide), h47]; rfl
    · rw [if_neg (by decide), if_neg (by decide), if_neg (by decide), if_pos (by decide), if_pos (by decide), if_pos (by decide), if_pos (by decide)]
      rw [show ((1 : Int)).toNat = 1 from rfl, show ((11 : Int)).toNat = 11 from rfl, show ((0 : Int)).toNat = 0 from rfl, hr]
      simp only [Option.bind_some]
      rw [e33, p6, pw (by omega) (by omega)]
      rfl
    · rw [if_neg (by decide), if_neg (by decide), if_neg (by decide), if_neg (by decide), if_pos (by decide), if_pos (by decide), e33, show ((12 : Int)).toNat = 12 from rfl, c4]
      rfl
  have hno : al 60 = false ∧ al 61 = false := by
    refine ⟨?_, ?_⟩
    · cases hq : al 60 with
      | false => rfl
      | true => have := hal _ hq; omega
    · cases hq : al 61 with
      | false => rfl
      | true => have := hal _ hq; omega
  obtain ⟨v, h', w1, w2, w3, w4⟩ := m_tellL (which := (w : Int)) hMI he hno rfl hw hfr (fun g' hg' => ⟨by rw [hg'.1 (o + 31) (by omega) (by omega), go _ (by omega)]; exact h31, fun i c hc => by rw [hg'.1 (o + 32) (by omega) (by omega), go _ (by omega)]; exact hcd i c hc⟩) cs.length 0 g [] [] (by omega) ⟨fun _ _ _ => rfl, fun _ _ => rfl⟩ (by rw [List.drop_zero]; exact ht) trivial (by simp) (by rw [hg, ju_eq]; rfl) trivial
  rw [List.drop_zero] at w2
  have hv : spTold (spGe ((D, C), (F, lf), (q, fl, first), (wt, kp), (tab, stab, snap, tops), (sg, at', ser, gr, hl, tk)) nn) cs = v := by
    unfold spTold; rw [w2]; rfl
  rw [hv]
  exact ⟨h', w1, fun z z1 z2 => by rw [w3.1 z z1 z2, go z z1], fun f f1 f2 => by rw [w3.2 f f2, gf f f1 f2], w4⟩
end MTK
