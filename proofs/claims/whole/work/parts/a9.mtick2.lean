/-! the reference's tick: a group closes -/
section MTL
variable {ns blk len o : Nat}
theorem MS.eq {h h' : jH} {kpm : spKp} {s : spSt} (hs : MS h o ns blk len kpm s) (e1 : h' (o + 28) = h (o + 28)) (e2 : h' (o + 33) = h (o + 33)) : MS h' o ns blk len kpm s := by
  obtain ⟨⟨D, C⟩, ⟨F, lf⟩, ⟨q, fl, first⟩, ⟨wt, kp⟩, ⟨tab, stab, snap, tops⟩, ⟨sg, at', ser, gr, hl, tk⟩⟩ := s
  unfold MS MD at hs ⊢
  rw [e1, e2]; exact hs
/-- whether a group closes -/
theorem m_doesClose {h : jH} {b : Int} {kpm : spKp} {s : spSt} {p : spPl} (hP : MPl h o p) (hpk : spPok p) (hs : MS h o ns blk len kpm s) (hI : spInv ns blk len b s) (hw : 0 < spWtg s) :
    ∃ h', M_doesClose h o = some (if spTold (spGe s (spWtg s)) p.2.2.2.1 ≠ 0 then 1 else 0, h') ∧ (∀ z, z ≠ o → z ≠ o + 67 → h' z = h z) ∧ ∀ f, f ≠ 44 → f ≠ 46 → f ≠ 47 → f ≠ 105 → h' o f = h o f := by
  have hs0 := hs
  have hI0 := hI
  have hw0 := hw
  obtain ⟨⟨D, C⟩, ⟨F, lf⟩, ⟨q, fl, first⟩, ⟨wt, kp⟩, ⟨tab, stab, snap, tops⟩, ⟨sg, at', ser, gr, hl, tk⟩⟩ := s
  obtain ⟨i1, i2, i3, i4, i5, i6, i7⟩ := hI
  obtain ⟨c1, ⟨c2, c2'⟩, c3, ⟨c4, c4', c4''⟩, c5, ⟨t1, t2, t3, t4⟩, p1, p2, p3, p4, p5, p6, p7⟩ := hs
  have hwt : spWtg ((D, C), (F, lf), (q, fl, first), (wt, kp), (tab, stab, snap, tops), (sg, at', ser, gr, hl, tk)) = q.length - fl := rfl
  rw [hwt] at hw ⊢
  have hlt : fl < q.length := by omega
  have h16 : q.length - fl ≤ 16 := by have := i3.2.2.2.1; omega
  obtain ⟨g, e1, e2, e3, e4, e5⟩ := m_asks (o := o) (nn := q.length - fl) (fun r hr => (i3.1 r hr).1) c3 (by omega) (by have := i3; omega)
  have n11 : h (o + 33) 11 = ((q.length - fl : Nat) : Int) := by rw [c3.2.2.1]; omega
  unfold M_doesClose
  rw [if_pos (by decide), show ((11 : Int)).toNat = 11 from rfl, n11, e1]
  simp only [Option.bind_some]
  have g33 : g (o + 33) = h (o + 33) := e2 _ (by omega)
  rw [show M_isCoded g o 0 = _ from m_coded (w := 0) (by decide)]
  simp only [Option.bind_some]
  rw [e2 (o + 30) (by omega)]
  rcases hP.1 with ⟨fr, hfr, h30, h31, hcd⟩ | ⟨h30, hcs⟩
  · rw [if_neg (by rw [h30]; omega)]
    obtain ⟨h', w1, w2, w3, w4⟩ := m_codes (h := g) (o := o) (w := 0) (nn := q.length - fl) (al := spAlC) (s := ((D, C), (F, lf), (q, fl, first), (wt, kp), (tab, stab, snap, tops), (sg, at', ser, gr, hl, tk))) (by decide) (by rw [g33]; exact c3) (by rw [g33]; exact c4) (by rw [g33]; exact p6) hI0 hw0 h16 e4 e5 hfr (by rw [e2 _ (by omega)]; exact h30) (by rw [e2 _ (by omega)]; exact h31) (fun i c hc => by rw [e2 _ (by omega)]; exact hcd i c hc) (fun c hc => by unfold spAlC at hc; simp at hc; omega) hpk.1
    rw [show M_codesTell g o 0 = _ from w1]
    simp only [Option.bind_some]
    have fr1 : (∀ z, z ≠ o → z ≠ o + 67 → h' z = h z) ∧ ∀ f, f ≠ 44 → f ≠ 46 → f ≠ 47 → f ≠ 105 → h' o f = h o f := ⟨fun z z1 z2 => by rw [w2 z z1 z2, e2 z z1], fun f f1 f2 f3 f4 => by rw [w3 f f1 f4, e3 f f2 f3]⟩
    unfold spVal at w4
    rw [if_pos rfl] at w4
    rcases w4 with a | a
    · rw [if_neg (by rw [jcmp_eq, a]; decide), if_neg (by rw [a]; decide)]
      exact ⟨h', rfl, fr1⟩
    · rw [if_pos (by rw [jcmp_eq, a]), if_pos (by rw [a]; decide)]
      exact ⟨h', rfl, fr1⟩
  · rw [if_pos h30, if_pos (show (0 : Int) = 0 from rfl), if_pos (show (0 : Int) ≤ 11 ∧ (11 : Nat) < 2365 by decide), g33, n11, hcs, spCl0_at]
    have b1 : (spGe ((D, C), (F, lf), (q, fl, first), (wt, kp), (tab, stab, snap, tops), (sg, at', ser, gr, hl, tk)) (q.length - fl)).1 1 = ((q.length - fl : Nat) : Int) := rfl
    have b3 : (spGe ((D, C), (F, lf), (q, fl, first), (wt, kp), (tab, stab, snap, tops), (sg, at', ser, gr, hl, tk)) (q.length - fl)).1 3 = tk - q[fl].2.2.2 := by
      show tk - ((q.drop fl).headD (0, 0, 0, 0)).2.2.2 = _
      rw [List.drop_eq_getElem_cons hlt]
      rfl
    rw [b1, b3]
    have hb := (i3.1 _ (List.getElem_mem hlt)).2
    unfold M_doesClose_p76
    by_cases a : (3 : Int) < ((q.length - fl : Nat) : Int)
    · rw [if_pos a, if_pos a, if_pos (by split <;> simp [*] <;> omega)]
      exact ⟨g, rfl, fun z z1 _ => e2 z z1, fun f _ f2 f3 _ => e3 f f2 f3⟩
    · have h32 := c3.2.2.2.1
      rw [if_neg a, if_neg a, if_pos (by decide), if_pos (by decide), if_pos (by decide), show ((1 : Int)).toNat = 1 from rfl, c3.2.1, pw (by omega) (by omega), show first + (q.length : Int) - ((q.length - fl : Nat) : Int) = first + (fl : Int) by omega, show (3 : Int) = ((3 : Nat) : Int) from rfl, m_recOf (by decide), g33, (c3.2.2.2.2.2 fl _ (List.getElem?_eq_getElem hlt)).2.2.2]
      simp only [Option.bind_some]
      rw [show ((0 : Int)).toNat = 0 from rfl, p6, pw (by omega) (by omega)]
      by_cases d : 4 < tk - q[fl].2.2.2
      · rw [if_pos d, if_pos d, if_pos (by decide)]
        exact ⟨g, rfl, fun z z1 _ => e2 z z1, fun f _ f2 f3 _ => e3 f f2 f3⟩
      · rw [if_neg d, if_neg d, if_neg (by decide)]
        exact ⟨g, rfl, fun z z1 _ => e2 z z1, fun f _ f2 f3 _ => e3 f f2 f3⟩
/-- how many ticks a group takes -/
theorem m_ticksFor {h : jH} {b : Int} {nn : Nat} {s : spSt} {p : spPl} (hP : MPl h o p) (hpk : spPok p) (hq : MQu (h (o + 33)) s.2.2.1.1 s.2.2.1.2.1 s.2.2.1.2.2) (h12 : h (o + 33) 12 = (s.2.2.2.1.1.length : Int)) (h0 : h (o + 33) 0 = s.2.2.2.2.2.2.2.2.2.2) (hI : spInv ns blk len b s) (hwt : 0 < spWtg s) (hn : nn ≤ 16) (h46 : h o 46 = (nn : Int)) (h47 : h o 47 = spPay1 ((s.2.2.1.1.drop s.2.2.1.2.1).take nn)) :
    ∃ h', M_ticksFor h o = some (max 1 (min 99 (spTold (spGe s nn) p.2.2.2.2)), h') ∧ (∀ z, z ≠ o → z ≠ o + 67 → h' z = h z) ∧ ∀ f, f ≠ 44 → f ≠ 105 → h' o f = h o f := by
  have hfin : ∀ (g : jH) (v : Int), -1000000 ≤ v ∧ v ≤ 1000000 → M_ticksFor_p26 g v = some (max 1 (min 99 v), g) := by
    intro g v hv
    unfold M_ticksFor_p26
    by_cases a : v < 1
    · rw [if_pos (jcmp_lt.mpr a)]; congr 2; omega
    · rw [if_neg (fun x => a (jcmp_lt.mp x))]
      by_cases c : 99 < v
      · rw [if_pos (jcmp_gt.mpr c)]; congr 2; omega
      · rw [if_neg (fun x => c (jcmp_gt.mp x)), pw (by omega) (by omega)]; congr 2; omega
  unfold M_ticksFor
  rw [show M_isCoded h o 1 = _ from m_coded (w := 1) (by decide)]
  simp only [Option.bind_some]
  rcases hP.2 with ⟨fr, hfr, h30, h31, hcd⟩ | ⟨h30, hcs⟩
  · rw [if_neg (by rw [h30]; omega)]
    obtain ⟨h', w1, w2, w3, w4⟩ := m_codes (o := o) (w := 1) (nn := nn) (al := spAlT) (by decide) hq h12 h0 hI hwt hn h46 h47 hfr h30 h31 hcd (fun c hc => by unfold spAlT at hc; simp at hc; omega) hpk.2
    rw [show M_codesTell h o 1 = _ from w1]
    simp only [Option.bind_some]
    unfold spVal at w4
    rw [if_neg (by decide)] at w4
    rw [hfin h' _ w4]
    exact ⟨h', rfl, w2, w3⟩
  · have hp : 0 ≤ spPay1 ((s.2.2.1.1.drop s.2.2.1.2.1).take nn) ∧ spPay1 ((s.2.2.1.1.drop s.2.2.1.2.1).take nn) ≤ 43 * 16 := by
      obtain ⟨⟨D, C⟩, ⟨F, lf⟩, ⟨q, fl, first⟩, ⟨wt, kp⟩, ⟨tab, stab, snap, tops⟩, ⟨sg, at', ser, gr, hl, tk⟩⟩ := s
      have := spPay1_in ((q.drop fl).take nn) (fun r hr => (hI.2.2.1.1 r (List.mem_of_mem_drop (List.mem_of_mem_take hr))).1)
      have hl : ((q.drop fl).take nn).length ≤ nn := by rw [List.length_take]; omega
      refine ⟨this.1, ?_⟩
      have h2 := this.2
      show spPay1 ((q.drop fl).take nn) ≤ _
      omega
    have b2 : (spGe s nn).1 2 = spPay1 ((s.2.2.1.1.drop s.2.2.1.2.1).take nn) := rfl
    rw [if_pos h30, if_pos (show (0 : Int) = 0 from rfl), hcs, spTk0_at, b2, h47]
    generalize spPay1 ((s.2.2.1.1.drop s.2.2.1.2.1).take nn) = z at hp
    have e1 : spFlo z 16 = z / 16 := by
      unfold spFlo
      rw [if_neg (by decide), if_neg (fun h => h.2 ⟨fun x => by omega, fun x => by omega⟩), Int.tdiv_eq_ediv_of_nonneg hp.1]
    have e2 : wr (z.tdiv 16) = z / 16 := by
      rw [Int.tdiv_eq_ediv_of_nonneg hp.1, pw (by omega) (by omega)]
    rw [e1, e2, pv (by omega) (by omega), spClip_id (by omega), hfin h _ (by omega)]
    exact ⟨h, rfl, fun _ _ _ => rfl, fun _ _ _ => rfl⟩
end MTL
