/-! the reference's words of parts -/
section MWP
variable {o : Nat} {tp : List Int} {md k op bs : Nat} {g : Int} {W C : List Int}
theorem MWd.w {h h' : jH} (hw : MWd h o) (e : MFw o h h') : MWd h' o := hw.fr (fun z z1 _ _ => e.1 z z1)
theorem k_wordHere {h : jH} (hw : MWd h o) (hs : MSs h o tp k g) : ∃ h', M_qWordHere h o = some (spWq tp g k, h') ∧ MFw o h h' ∧ MSs h' o tp k g ∧ h' o 2 = (k : Int) := by
  unfold M_qWordHere
  obtain ⟨h1, e1, f1, s1, t1⟩ := m_isHere (r := o + 55) (n := 4) (w := spW0) (by omega) rfl (by decide) hw.2.1 hs
  rw [e1, Option.bind_some]
  dsimp only
  by_cases c1 : spWd tp g k spW0 = true
  · rw [if_pos c1, if_neg (show ¬ (1 : Int) = 0 by decide), spWq_at0 c1]
    exact ⟨h1, rfl, f1, s1, t1⟩
  rw [if_neg c1, if_pos (show (0 : Int) = 0 from rfl)]
  have w1 := hw.w f1
  obtain ⟨h2, e2, f2, s2, t2⟩ := m_isHere (r := o + 56) (n := 7) (w := spW1) (by omega) rfl (by decide) w1.2.2.1 s1
  rw [e2, Option.bind_some]
  dsimp only
  by_cases c2 : spWd tp g k spW1 = true
  · rw [if_pos c2, if_neg (show ¬ (1 : Int) = 0 by decide), spWq_at1 c2]
    exact ⟨h2, rfl, (f1.tr f2), s2, t2⟩
  rw [if_neg c2, if_pos (show (0 : Int) = 0 from rfl)]
  have w2 := w1.w f2
  obtain ⟨h3, e3, f3, s3, t3⟩ := m_isHere (r := o + 57) (n := 7) (w := spW2) (by omega) rfl (by decide) w2.2.2.2.1 s2
  rw [e3, Option.bind_some]
  dsimp only
  by_cases c3 : spWd tp g k spW2 = true
  · rw [if_pos c3, if_neg (show ¬ (1 : Int) = 0 by decide), spWq_at2 c3]
    exact ⟨h3, rfl, ((f1.tr f2).tr f3), s3, t3⟩
  rw [if_neg c3, if_pos (show (0 : Int) = 0 from rfl)]
  have w3 := w2.w f3
  obtain ⟨h4, e4, f4, s4, t4⟩ := m_isHere (r := o + 58) (n := 3) (w := spW3) (by omega) rfl (by decide) w3.2.2.2.2.1 s3
  rw [e4, Option.bind_some]
  dsimp only
  by_cases c4 : spWd tp g k spW3 = true
  · rw [if_pos c4, if_neg (show ¬ (1 : Int) = 0 by decide), spWq_at3 c4]
    exact ⟨h4, rfl, (((f1.tr f2).tr f3).tr f4), s4, t4⟩
  rw [if_neg c4, if_pos (show (0 : Int) = 0 from rfl)]
  have w4 := w3.w f4
  obtain ⟨h5, e5, f5, s5, t5⟩ := m_isHere (r := o + 59) (n := 7) (w := spW4) (by omega) rfl (by decide) w4.2.2.2.2.2.1 s4
  rw [e5, Option.bind_some]
  dsimp only
  by_cases c5 : spWd tp g k spW4 = true
  · rw [if_pos c5, if_neg (show ¬ (1 : Int) = 0 by decide), spWq_at4 c5]
    exact ⟨h5, rfl, ((((f1.tr f2).tr f3).tr f4).tr f5), s5, t5⟩
  rw [if_neg c5, if_pos (show (0 : Int) = 0 from rfl)]
  have w5 := w4.w f5
  obtain ⟨h6, e6, f6, s6, t6⟩ := m_isHere (r := o + 60) (n := 6) (w := spW5) (by omega) rfl (by decide) w5.2.2.2.2.2.2.1 s5
  rw [e6, Option.bind_some]
  dsimp only
  by_cases c6 : spWd tp g k spW5 = true
  · rw [if_pos c6, if_neg (show ¬ (1 : Int) = 0 by decide), spWq_at5 c6]
    exact ⟨h6, rfl, (((((f1.tr f2).tr f3).tr f4).tr f5).tr f6), s6, t6⟩
  rw [if_neg c6, if_pos (show (0 : Int) = 0 from rfl)]
  have w6 := w5.w f6
  obtain ⟨h7, e7, f7, s7, t7⟩ := m_isHere (r := o + 61) (n := 6) (w := spW6) (by omega) rfl (by decide) w6.2.2.2.2.2.2.2.1 s6
  rw [e7, Option.bind_some]
  dsimp only
  by_cases c7 : spWd tp g k spW6 = true
  · rw [if_pos c7, if_neg (show ¬ (1 : Int) = 0 by decide), spWq_at6 c7]
    exact ⟨h7, rfl, ((((((f1.tr f2).tr f3).tr f4).tr f5).tr f6).tr f7), s7, t7⟩
  rw [if_neg c7, if_pos (show (0 : Int) = 0 from rfl)]
  have w7 := w6.w f7
  obtain ⟨h8, e8, f8, s8, t8⟩ := m_isHere (r := o + 43) (n := 5) (w := spW7) (by omega) rfl (by decide) w7.1.1 s7
  rw [e8, Option.bind_some]
  dsimp only
  by_cases c8 : spWd tp g k spW7 = true
  · rw [if_pos c8, if_neg (show ¬ (1 : Int) = 0 by decide), spWq_at7 c8]
    exact ⟨h8, rfl, (((((((f1.tr f2).tr f3).tr f4).tr f5).tr f6).tr f7).tr f8), s8, t8⟩
  rw [if_neg c8, if_pos (show (0 : Int) = 0 from rfl)]
  have w8 := w7.w f8
  obtain ⟨h9, e9, f9, s9, t9⟩ := m_isHere (r := o + 62) (n := 6) (w := spW8) (by omega) rfl (by decide) w8.2.2.2.2.2.2.2.2.1 s8
  rw [e9, Option.bind_some]
  dsimp only
  by_cases c9 : spWd tp g k spW8 = true
  · rw [if_pos c9, if_neg (show ¬ (1 : Int) = 0 by decide), spWq_at8 c9]
    exact ⟨h9, rfl, ((((((((f1.tr f2).tr f3).tr f4).tr f5).tr f6).tr f7).tr f8).tr f9), s9, t9⟩
  rw [if_neg c9, if_pos (show (0 : Int) = 0 from rfl)]
  have w9 := w8.w f9
  obtain ⟨h10, e10, f10, s10, t10⟩ := m_isHere (r := o + 63) (n := 5) (w := spW9) (by omega) rfl (by decide) w9.2.2.2.2.2.2.2.2.2.1 s9
  rw [e10, Option.bind_some]
  dsimp only
  by_cases c10 : spWd tp g k spW9 = true
  · rw [if_pos c10, if_neg (show ¬ (1 : Int) = 0 by decide), spWq_at9 c10]
    exact ⟨h10, rfl, (((((((((f1.tr f2).tr f3).tr f4).tr f5).tr f6).tr f7).tr f8).tr f9).tr f10), s10, t10⟩
  rw [if_neg c10, if_pos (show (0 : Int) = 0 from rfl)]
  have w10 := w9.w f10
  obtain ⟨h11, e11, f11, s11, t11⟩ := m_isHere (r := o + 64) (n := 5) (w := spW10) (by omega) rfl (by decide) w10.2.2.2.2.2.2.2.2.2.2 s10
  rw [e11, Option.bind_some]
  dsimp only
  by_cases c11 : spWd tp g k spW10 = true
  · rw [if_pos c11, if_neg (show ¬ (1 : Int) = 0 by decide), spWq_at10 c11]
    exact ⟨h11, rfl, ((((((((((f1.tr f2).tr f3).tr f4).tr f5).tr f6).tr f7).tr f8).tr f9).tr f10).tr f11), s11, t11⟩
  rw [if_neg c11, if_pos (show (0 : Int) = 0 from rfl)]
  have hq : spWq tp g k = -1 := by
    unfold spWq
    rw [if_neg c1, if_neg c2, if_neg c3, if_neg c4, if_neg c5, if_neg c6, if_neg c7, if_neg c8, if_neg c9, if_neg c10, if_neg c11]
  rw [hq]
  exact ⟨h11, rfl, ((((((((((f1.tr f2).tr f3).tr f4).tr f5).tr f6).tr f7).tr f8).tr f9).tr f10).tr f11), s11, t11⟩
theorem m_alw {h : jH} {v : Int} (hmd : md = 0 ∨ md = 1 ∨ md = 2) (h44 : h o 44 = (md : Int)) : M_isAllowed h o v = some (if spAld md v = true then 1 else 0) := by
  unfold M_isAllowed M_isAllowed_p63
  rw [h44]
  rcases hmd with rfl | rfl | rfl
  · rw [if_pos (by decide)]
    unfold spAld
    rw [if_pos rfl]
    by_cases a : v < 5
    · rw [if_pos a, decide_eq_true a, if_pos rfl]
    · rw [if_neg a, decide_eq_false a, if_neg (by decide)]
  · rw [if_neg (show ¬ ((1 : Nat) : Int) = 0 by decide), if_pos (show ((1 : Nat) : Int) = 1 from rfl)]
    unfold spAld
    rw [if_neg (show ¬ (1 : Nat) = 0 by decide), if_pos (show (1 : Nat) = 1 from rfl)]
    by_cases a : v < 3
    · rw [if_pos a, decide_eq_true a, if_pos rfl]
    · rw [if_neg a, decide_eq_false a, if_neg (by decide)]
  · rw [if_neg (show ¬ ((2 : Nat) : Int) = 0 by decide), if_neg (show ¬ ((2 : Nat) : Int) = 1 by decide)]
    unfold spAld
    rw [if_neg (show ¬ (2 : Nat) = 0 by decide), if_neg (show ¬ (2 : Nat) = 1 by decide)]
    by_cases a : v = 0
    · rw [if_pos a, decide_eq_true a, Bool.true_or, if_pos rfl]
    · rw [if_neg a, decide_eq_false a, Bool.false_or]
      by_cases b : 4 < v
      · rw [if_pos b, decide_eq_true b, if_pos rfl]
      · rw [if_neg b, decide_eq_false b, if_neg (by decide)]
theorem k_wordOf {h : jH} {lo hi : Int} (hmd : md = 0 ∨ md = 1 ∨ md = 2) (hw : MWd h o) (h44 : h o 44 = (md : Int)) (hs : MSs h o tp k g) : ∃ h', M_qWordOf h o lo hi = some (if lo ≤ spWq tp g k ∧ spWq tp g k < hi ∧ spAld md (spWq tp g k) = true then spWq tp g k else -1, h') ∧ MFw o h h' ∧ MSs h' o tp k g ∧ h' o 2 = (k : Int) := by
  obtain ⟨h1, e1, e2, e3, e4⟩ := k_wordHere hw hs
  have h44' : h1 o 44 = (md : Int) := by rw [e2.2 44 (by decide) (by decide) (by decide) (by decide) (by decide)]; exact h44
  unfold M_qWordOf M_qWordOf_p27
  rw [e1, Option.bind_some]
  dsimp only
  refine ⟨h1, ?_, e2, e3, e4⟩
  by_cases a : spWq tp g k < lo
  · rw [if_pos a, if_neg (by omega)]
  rw [if_neg a]
  by_cases b : spWq tp g k < hi
  rotate_left
  · rw [if_neg b, if_neg (by omega)]
  rw [if_pos b, m_alw hmd h44', Option.bind_some]
  by_cases c : spAld md (spWq tp g k) = true
  · rw [if_pos c, if_neg (by decide), if_pos ⟨by omega, b, c⟩]
  · rw [if_neg c, if_pos (by decide), if_neg (fun e => c e.2.2)]
theorem k_asksWord {h : jH} (hw : MWd h o) (hs : MSs h o tp k g) (hq : spWq tp g k ≠ -1) : ∃ h', M_qAsksWord h o (spWq tp g k) = some h' ∧ MFw o h h' ∧ MSs h' o tp (spPk tp (spLe tp k)) (spLe tp k : Int) := by
  have h0 := spWq_word hq
  have hc : spWq tp g k = 0 ∨ spWq tp g k = 1 ∨ spWq tp g k = 2 ∨ spWq tp g k = 3 ∨ spWq tp g k = 4 ∨ spWq tp g k = 5 ∨ spWq tp g k = 6 ∨ spWq tp g k = 7 ∨ spWq tp g k = 8 ∨ spWq tp g k = 9 ∨ spWq tp g k = 10 := by omega
  unfold M_qAsksWord
  rcases hc with c | c | c | c | c | c | c | c | c | c | c
  · have hd := spWq_inv0 c
    have hle := (spWd_len hd).1
    obtain ⟨h1, e1, e2, e3, -⟩ := m_asksW (r := o + 55) (n := 4) (w := spW0) (by omega) rfl (by decide) hw.2.1 hs
    have s1 := e3 hd
    rw [← hle] at s1
    rw [c, if_pos (by decide), e1, Option.bind_some]
    exact ⟨h1, rfl, e2, s1⟩
  · have hd := spWq_inv1 c
    have hle := (spWd_len hd).1
    obtain ⟨h1, e1, e2, e3, -⟩ := m_asksW (r := o + 56) (n := 7) (w := spW1) (by omega) rfl (by decide) hw.2.2.1 hs
    have s1 := e3 hd
    rw [← hle] at s1
    rw [c, if_neg (by decide), if_pos (by decide), e1, Option.bind_some]
    exact ⟨h1, rfl, e2, s1⟩
  · have hd := spWq_inv2 c
    have hle := (spWd_len hd).1
    obtain ⟨h1, e1, e2, e3, -⟩ := m_asksW (r := o + 57) (n := 7) (w := spW2) (by omega) rfl (by decide) hw.2.2.2.1 hs
    have s1 := e3 hd
    rw [← hle] at s1
    rw [c, if_neg (by decide), if_neg (by decide), if_pos (by decide), e1, Option.bind_some]
    exact ⟨h1, rfl, e2, s1⟩
  · have hd := spWq_inv3 c
    have hle := (spWd_len hd).1
    obtain ⟨h1, e1, e2, e3, -⟩ := m_asksW (r := o + 58) (n := 3) (w := spW3) (by omega) rfl (by decide) hw.2.2.2.2.1 hs
    have s1 := e3 hd
    rw [← hle] at s1
    rw [c, if_neg (by decide), if_neg (by decide), if_neg (by decide), if_pos (by decide), e1, Option.bind_some]
    exact ⟨h1, rfl, e2, s1⟩
  · have hd := spWq_inv4 c
    have hle := (spWd_len hd).1
    obtain ⟨h1, e1, e2, e3, -⟩ := m_asksW (r := o + 59) (n := 7) (w := spW4) (by omega) rfl (by decide) hw.2.2.2.2.2.1 hs
    have s1 := e3 hd
    rw [← hle] at s1
    rw [c, if_neg (by decide), if_neg (by decide), if_neg (by decide), if_neg (by decide), if_pos (by decide), e1, Option.bind_some]
    exact ⟨h1, rfl, e2, s1⟩
  · have hd := spWq_inv5 c
    have hle := (spWd_len hd).1
    obtain ⟨h1, e1, e2, e3, -⟩ := m_asksW (r := o + 60) (n := 6) (w := spW5) (by omega) rfl (by decide) hw.2.2.2.2.2.2.1 hs
    have s1 := e3 hd
    rw [← hle] at s1
    rw [c, if_neg (by decide), if_neg (by decide), if_neg (by decide), if_neg (by decide), if_neg (by decide), if_pos (by decide), e1, Option.bind_some]
    exact ⟨h1, rfl, e2, s1⟩
  · have hd := spWq_inv6 c
    have hle := (spWd_len hd).1
    obtain ⟨h1, e1, e2, e3, -⟩ := m_asksW (r := o + 61) (n := 6) (w := spW6) (by omega) rfl (by decide) hw.2.2.2.2.2.2.2.1 hs
    have s1 := e3 hd
    rw [← hle] at s1
    rw [c, if_neg (by decide), if_neg (by decide), if_neg (by decide), if_neg (by decide), if_neg (by decide), if_neg (by decide), if_pos (by decide), e1, Option.bind_some]
    exact ⟨h1, rfl, e2, s1⟩
  · have hd := spWq_inv7 c
    have hle := (spWd_len hd).1
    obtain ⟨h1, e1, e2, e3, -⟩ := m_asksW (r := o + 43) (n := 5) (w := spW7) (by omega) rfl (by decide) hw.1.1 hs
    have s1 := e3 hd
    rw [← hle] at s1
    rw [c, if_neg (by decide), if_neg (by decide), if_neg (by decide), if_neg (by decide), if_neg (by decide), if_neg (by decide), if_neg (by decide), if_pos (by decide), e1, Option.bind_some]
    exact ⟨h1, rfl, e2, s1⟩
  · have hd := spWq_inv8 c
    have hle := (spWd_len hd).1
    obtain ⟨h1, e1, e2, e3, -⟩ := m_asksW (r := o + 62) (n := 6) (w := spW8) (by omega) rfl (by decide) hw.2.2.2.2.2.2.2.2.1 hs
    have s1 := e3 hd
    rw [← hle] at s1
    rw [c, if_neg (by decide), if_neg (by decide), if_neg (by decide), if_neg (by decide), if_neg (by decide), if_neg (by decide), if_neg (by decide), if_neg (by decide), if_pos (by decide), e1, Option.bind_some]
    exact ⟨h1, rfl, e2, s1⟩
  · have hd := spWq_inv9 c
    have hle := (spWd_len hd).1
    obtain ⟨h1, e1, e2, e3, -⟩ := m_asksW (r := o + 63) (n := 5) (w := spW9) (by omega) rfl (by decide) hw.2.2.2.2.2.2.2.2.2.1 hs
    have s1 := e3 hd
    rw [← hle] at s1
    rw [c, if_neg (by decide), if_neg (by decide), if_neg (by decide), if_neg (by decide), if_neg (by decide), if_neg (by decide), if_neg (by decide), if_neg (by decide), if_neg (by decide), if_pos (by decide), e1, Option.bind_some]
    exact ⟨h1, rfl, e2, s1⟩
  · have hd := spWq_inv10 c
    have hle := (spWd_len hd).1
    obtain ⟨h1, e1, e2, e3, -⟩ := m_asksW (r := o + 64) (n := 5) (w := spW10) (by omega) rfl (by decide) hw.2.2.2.2.2.2.2.2.2.2 hs
    have s1 := e3 hd
    rw [← hle] at s1
    rw [c, if_neg (by decide), if_neg (by decide), if_neg (by decide), if_neg (by decide), if_neg (by decide), if_neg (by decide), if_neg (by decide), if_neg (by decide), if_neg (by decide), if_neg (by decide), e1, Option.bind_some]
    exact ⟨h1, rfl, e2, s1⟩
end MWP
