/-! the reference reads a journal's text -/
section MJO
variable {o : Nat} {tp : List Int} {k : Nat} {g : Int} {p : spPn}
/-- the codes are put aside -/
theorem m_cpy {c n : Nat} {C : List Int} (hc : c < 4) (hn : n + C.length ≤ 1600) : ∀ r j (h : jH), r + j = C.length → h o 99 = (C.length : Int) → h o 41 = ((n + j : Nat) : Int) → (∀ (i : Nat) (v : Int), C[i]? = some v → h (o + 65) i = v) → ∃ h', M_codesTold_L91 h o (c : Int) (j : Int) = some h' ∧ (∀ z, z ≠ o → z ≠ o + 31 → z ≠ o + 32 → h' z = h z) ∧ (∀ f, f ≠ 41 → h' o f = h o f) ∧ h' o 41 = ((n + C.length : Nat) : Int) ∧ (∀ i, (i < n + j ∨ n + C.length ≤ i) → h' (o + 32) i = h (o + 32) i) ∧ (∀ (i : Nat) (v : Int), j ≤ i → C[i]? = some v → h' (o + 32) (n + i) = v) ∧ (∀ i, i ≠ c → h' (o + 31) i = h (o + 31) i) ∧ h' (o + 31) c = ((n + C.length : Nat) : Int) := by
  unfold M_codesTold_L91
  intro r
  induction r with
  | zero =>
    intro j h hr h99 h41 hC
    have hj : j = C.length := by omega
    have hi : ((c : Int)).toNat = c := by omega
    refine ⟨jup h (o + 31) c (h o 41), jloop_r ?_, fun z z1 z2 z3 => jup_ne z2, fun f _ => by rw [jup_ne (by omega)], by rw [jup_ne (by omega), h41, hj], fun i _ => by rw [jup_ne (by omega)], fun i v hji hv => ?_, fun i hi => ju_ne hi, by rw [ju_eq, h41, hj]⟩
    · show M_codesTold_B91 h o (c : Int) (j : Int) = _
      unfold M_codesTold_B91
      rw [h99, if_neg (by omega), hi, if_pos (by omega)]
      rfl
    · have := (List.getElem?_eq_some_iff.mp hv).1
      omega
  | succ r ih =>
    intro j h hr h99 h41 hC
    have hj : j < C.length := by omega
    have hcell := hC j C[j] (List.getElem?_eq_getElem hj)
    obtain ⟨h1, hh1⟩ : ∃ h1 : jH, h1 = jup (jup h (o + 32) (n + j) C[j]) o 41 ((n + j : Nat) + 1 : Int) := ⟨_, rfl⟩
    have go : ∀ z, z ≠ o → z ≠ o + 32 → h1 z = h z := fun z z1 z2 => by rw [hh1, jup_ne z1, jup_ne z2]
    have gf : ∀ f, f ≠ 41 → h1 o f = h o f := fun f hf => by rw [hh1, ju_ne hf, jup_ne (by omega)]
    have g32 : ∀ i, h1 (o + 32) i = (if i = n + j then C[j] else h (o + 32) i) := fun i => by rw [hh1, jup_ne (by omega), ju_if]
    obtain ⟨h', e1, e2, e3, e4, e5, e6, e7, e8⟩ := ih (j + 1) h1 (by omega) (by rw [gf 99 (by decide)]; exact h99) (by rw [hh1, ju_eq]; omega) (fun i v hv => by rw [go _ (by omega) (by omega)]; exact hC i v hv)
    refine ⟨h', (jloop_l (s' := (((j + 1 : Nat) : Int), h1)) ?_).trans e1, fun z z1 z2 z3 => (e2 z z1 z2 z3).trans (go z z1 z3), fun f hf => (e3 f hf).trans (gf f hf), e4, fun i hi => by rw [e5 i (by omega), g32, if_neg (by omega)], fun i v hji hv => ?_, fun i hi => by rw [e7 i hi, go _ (by omega) (by omega)], e8⟩
    · show M_codesTold_B91 h o (c : Int) (j : Int) = _
      unfold M_codesTold_B91
      have i1 : ((j : Int)).toNat = j := by omega
      have i2 : (((n + j : Nat) : Int)).toNat = n + j := by omega
      rw [h99, if_pos (by omega), i1, if_pos (by omega), hcell, h41, i2, if_pos (by omega), jup_ne (by omega), h41, pw (by omega) (by omega), pw (by omega) (by omega), ← hh1]
      rfl
    · by_cases c : i = j
      · rw [e5 (n + i) (by omega), g32, if_pos (by omega)]
        rw [c, List.getElem?_eq_getElem hj] at hv
        exact Option.some.inj hv
      · exact e6 i v (by omega) hv
/-- before codes are read -/
def mStart (o : Nat) (c : Int) (h : jH) : jH := jup (jup (jup (jup (jup h o 44 c) o 99 0) o 101 0) o 102 0) o 103 0
theorem mStart_k {h : jH} {md : Nat} (hs : MSs h o tp k g) (hw : MWd h o) : MK (mStart o (md : Int) h) o tp md k g 0 0 [] [] ∧ MKg o h (jup (mStart o (md : Int) h) o 44 (h o 44)) ∧ (∀ z, z ≠ o → mStart o (md : Int) h z = h z) ∧ ∀ f, f ≠ 44 → f ≠ 99 → f ≠ 101 → f ≠ 102 → f ≠ 103 → mStart o (md : Int) h o f = h o f := by
  have go : ∀ z, z ≠ o → mStart o (md : Int) h z = h z := fun z hz => by unfold mStart; rw [jup_ne hz, jup_ne hz, jup_ne hz, jup_ne hz, jup_ne hz]
  have gf : ∀ f, f ≠ 44 → f ≠ 99 → f ≠ 101 → f ≠ 102 → f ≠ 103 → mStart o (md : Int) h o f = h o f := fun f f1 f2 f3 f4 f5 => by unfold mStart; rw [ju_ne f5, ju_ne f4, ju_ne f3, ju_ne f2, ju_ne f1]
  refine ⟨⟨hs.fd (go _ (by omega)) (fun f hf => gf f (by omega) (by omega) (by omega) (by omega) (by omega)), hw.fr (fun z z1 _ _ => go z z1), ?_, ?_, ?_, ⟨⟨?_, fun i v hv => by cases hv⟩, ?_, fun i v hv => by cases hv⟩, Nat.zero_le _⟩, ⟨fun z z1 _ _ => by rw [jup_ne z1, go z z1], fun f _ _ _ _ _ f6 f7 f8 f9 => ?_⟩, go, gf⟩
  · unfold mStart; rw [ju_ne (by decide), ju_ne (by decide), ju_ne (by decide), ju_ne (by decide), ju_eq]
  · unfold mStart; rw [ju_ne (by decide), ju_eq]; rfl
  · unfold mStart; rw [ju_eq]; rfl
  · unfold mStart; rw [ju_ne (by decide), ju_ne (by decide), ju_eq]; rfl
  · unfold mStart; rw [ju_ne (by decide), ju_ne (by decide), ju_ne (by decide), ju_eq]; rfl
  · rw [ju_if]
    by_cases e : f = 44
    · rw [if_pos e, e]
    · rw [if_neg e, gf f e f6 f7 f8 f9]
theorem mStart_j {h : jH} {md : Int} : MJf o h (mStart o md h) := by
  have go : ∀ z, z ≠ o → mStart o md h z = h z := fun z hz => by unfold mStart; rw [jup_ne hz, jup_ne hz, jup_ne hz, jup_ne hz, jup_ne hz]
  refine ⟨fun z z1 _ _ _ _ _ _ _ => go z z1, fun f hf => ?_, fun i _ => by rw [go _ (by omega)], fun i _ => by rw [go _ (by omega)], fun i _ => by rw [go _ (by omega)], fun i _ => by rw [go _ (by omega)]⟩
  unfold mStart
  rw [ju_ne (mJfd_ne hf (by decide)), ju_ne (mJfd_ne hf (by decide)), ju_ne (mJfd_ne hf (by decide)), ju_ne (mJfd_ne hf (by decide)), ju_ne (mJfd_ne hf (by decide))]
theorem MDr.m {h h' : jH} {n : Nat} (m : MDr h o n p) (h41 : h' o 41 = h o 41) (go : ∀ z, z ≠ o → z ≠ o + 65 → z ≠ o + 66 → h' z = h z) : MDr h' o n p := by
  obtain ⟨m1, m2, m3, m4, m5, m6⟩ := m
  refine ⟨h41.trans m1, m2.fr (by rw [go _ (by omega) (by omega) (by omega)]) (by rw [go _ (by omega) (by omega) (by omega)]) (fun i _ => by rw [go _ (by omega) (by omega) (by omega)]) (Nat.le_refl _), m3.fr (by rw [go _ (by omega) (by omega) (by omega)]) (by rw [go _ (by omega) (by omega) (by omega)]) (fun i _ => by rw [go _ (by omega) (by omega) (by omega)]) (Nat.le_refl _), by rw [go _ (by omega) (by omega) (by omega)]; exact m4, by rw [go _ (by omega) (by omega) (by omega)]; exact m5, fun i v hv => by rw [go (o + 29) (by omega) (by omega) (by omega)]; exact m6 i v hv⟩
/-- behind what was read: the codes are put aside -/
theorem mj_aside {h h1 : jH} {md k2 n : Nat} {g2 : Int} {K : List Int} (hmd : md = 0 ∨ md = 1) (hw : MWj h1 o) (hd : MDr h1 o n p) (hk : n + K.length ≤ k2) (hs : MK h1 o tp md k2 g2 0 0 [] K) : ∃ h', M_codesTold_p71 h1 o (md : Int) = some h' ∧ MJf o h1 h' ∧ MJ h' o tp k2 g2 (if md = 0 then (some K, p.2) else (p.1, some K, p.2.2)) := by
  have hl := hs.1.le
  obtain ⟨m1, m2, m3, m4, m5, m6⟩ := hd
  unfold M_codesTold_p71
  rw [if_pos hs.1.2.2.2, if_pos (by omega), Int.toNat_natCast, m1]
  obtain ⟨h2, hh2⟩ : ∃ h2 : jH, h2 = jup h1 (o + 30) md (n : Int) := ⟨_, rfl⟩
  rw [← hh2]
  have go2 : ∀ z, z ≠ o + 30 → h2 z = h1 z := fun z hz => by rw [hh2, jup_ne hz]
  obtain ⟨h3, e1, e2, e3, e4, e5, e6, e7, e8⟩ := m_cpy (o := o) (c := md) (n := n) (C := K) (by omega) (by omega) K.length 0 h2 rfl (by rw [go2 _ (by omega)]; exact hs.2.2.2.2.2.1.2.1) (by rw [go2 _ (by omega)]; exact m1) (fun i v hv => by rw [go2 _ (by omega)]; exact hs.2.2.2.2.2.1.2.2 i v hv)
  have go : ∀ z, z ≠ o → z ≠ o + 30 → z ≠ o + 31 → z ≠ o + 32 → h3 z = h1 z := fun z z1 z2 z3 z4 => by rw [e2 z z1 z3 z4, go2 z z2]
  have gf : ∀ f, f ≠ 41 → h3 o f = h1 o f := fun f hf => by rw [e3 f hf, go2 o (by omega)]
  have g30 : ∀ i, h3 (o + 30) i = (if i = md then (n : Int) else h1 (o + 30) i) := fun i => by rw [e2 _ (by omega) (by omega) (by omega), hh2, ju_if]
  have g31 : ∀ i, i ≠ md → h3 (o + 31) i = h1 (o + 31) i := fun i hi => by rw [e7 i hi, go2 _ (by omega)]
  have g32 : ∀ i, i < n → h3 (o + 32) i = h1 (o + 32) i := fun i hi => by rw [e5 i (by omega), go2 _ (by omega)]
  have hj : MJf o h1 h3 := ⟨fun z z1 _ _ z4 z5 z6 _ _ => go z z1 z4 z5 z6, fun f hf => gf f (mJfd_ne hf (by decide)), fun i _ => by rw [go _ (by omega) (by omega) (by omega) (by omega)], fun i hi => by rw [g30, if_neg (by omega)], fun i hi => g31 i (by omega), fun i hi => by rw [e5 i (by omega), go2 _ (by omega)]⟩
  have hnew : MCd h3 o md (n + K.length) (some K) := ⟨n, by rw [g30, if_pos rfl], e8, Nat.le_refl _, fun i v hv => e6 i v (Nat.zero_le _) hv⟩
  have hold : ∀ c q, c ≠ md → MCd h1 o c n q → MCd h3 o c (n + K.length) q := fun c q hc m => m.fr (by rw [g30, if_neg hc]) (g31 c hc) g32 (by omega)
  refine ⟨h3, e1, hj, hs.1.fd (go _ (by omega) (by omega) (by omega) (by omega)) (fun f hf => gf f (by omega)), hs.2.1.j hj.s, hw.j hj.s, n + K.length, ⟨e4, ?_, ?_, ?_, ?_⟩, by omega⟩
  · rcases hmd with rfl | rfl
    · exact hnew
    · exact hold 0 _ (by decide) m2
  · rcases hmd with rfl | rfl
    · exact hold 1 _ (by decide) m3
    · exact hnew
  · rw [go _ (by omega) (by omega) (by omega) (by omega)]
    rcases hmd with rfl | rfl <;> exact m4
  · have hq : (if md = 0 then ((some K, p.2) : spPn) else (p.1, some K, p.2.2)).2.2.2 = p.2.2.2 := by rcases hmd with rfl | rfl <;> rfl
    rw [hq]
    exact ⟨by rw [go _ (by omega) (by omega) (by omega) (by omega)]; exact m5, fun i v hv => by rw [go (o + 29) (by omega) (by omega) (by omega) (by omega)]; exact m6 i v hv⟩
theorem mj_codes {h : jH} {md pos : Nat} {q : Option (List Int)} (hmd : md = 0 ∨ md = 1) (hq : (if md = 0 then p.1 else p.2.1) = q) (hs : MJ h o tp k g p) : (∀ K0, q = some K0 → ∃ h', M_codesTold h o (md : Int) (pos : Int) = some h' ∧ MJf o h h' ∧ MBad o h' (5, pos)) ∧ (q = none → ∃ h', M_codesTold h o (md : Int) (pos : Int) = some h' ∧ MJf o h h' ∧ (∀ e, (if md = 0 then spTest tp (spFact tp 0 6) k g else spSms tp (spPart tp 1 6) k g) = .inl e → MBad o h' e) ∧ ∀ k2 g2 K, (if md = 0 then spTest tp (spFact tp 0 6) k g else spSms tp (spPart tp 1 6) k g) = .inr (k2, g2, K) → MJ h' o tp k2 g2 (if md = 0 then (some K, p.2) else (p.1, some K, p.2.2))) := by
  obtain ⟨s1, s2, s3, n, s4, s5⟩ := hs
  have h5 := s1.2.2.2
  have hcd : MCd h o md n q := by
    rcases hmd with rfl | rfl
    · rw [← hq]; exact s4.2.1
    · rw [← hq]; exact s4.2.2.1
  unfold M_codesTold
  rw [if_pos h5, if_pos (by omega), Int.toNat_natCast]
  refine ⟨fun K0 hK => ?_, fun hK => ?_⟩
  · rw [hK] at hcd
    obtain ⟨s, c1, -⟩ := hcd
    obtain ⟨h1, a1, a2, a3, -⟩ := m_failAt (o := o) (h := h) (e := (5, pos)) h5 (by show ¬ (5 : Int) = 0; decide)
    rw [c1, if_neg (by omega), show M_fail h o 5 (pos : Int) = _ from a1, Option.bind_some]
    unfold M_codesTold_p23
    rw [if_neg (show ¬ h1 o 5 = 0 by rw [a3.1]; exact a3.2.2)]
    exact ⟨h1, rfl, a2.j, a3⟩
  · rw [hK] at hcd
    have hcd' : h (o + 30) md = -1 := hcd
    obtain ⟨t1, -, t3, t4⟩ := mStart_k (md := md) s1 s2
    have hd1 : MDr (mStart o (md : Int) h) o n p := s4.m (t4 41 (by decide) (by decide) (by decide) (by decide) (by decide)) (fun z z1 _ _ => t3 z z1)
    have hw1 := s3.j (mStart_j (o := o) (h := h) (md := (md : Int))).s
    rw [hcd', if_pos rfl]
    unfold M_codesTold_p23
    rw [if_pos h5]
    have hbad : ∀ (h1 : jH) (e : Int × Nat), MKg o (mStart o (md : Int) h) h1 → MBad o h1 e → M_codesTold_p71 h1 o (md : Int) = some h1 := fun h1 e f b => by
      unfold M_codesTold_p71
      rw [if_neg (by rw [b.1]; exact b.2.2)]
    rcases hmd with rfl | rfl
    · rw [if_pos (show ((0 : Nat) : Int) = 0 from rfl), if_pos rfl]
      obtain ⟨p1, p2⟩ := mTestW (Or.inl rfl) t1
      cases hr : spTest tp (spFact tp 0 6) k g with
      | inl e0 =>
        obtain ⟨h1, a1, a2, a3⟩ := p1 e0 hr
        refine ⟨h1, ?_, mStart_j.tr a2.j, fun e he => by rw [← Sum.inl.inj he]; exact a3, fun k2 g2 K he => (by cases he)⟩
        rw [show M_qTest (jup (jup (jup (jup (jup h o 44 ((0 : Nat) : Int)) o 99 0) o 101 0) o 102 0) o 103 0) o = _ from a1, Option.bind_some]
        exact hbad h1 e0 a2 a3
      | inr x =>
        obtain ⟨k2, g2, K⟩ := x
        obtain ⟨h1, a1, a2, a3⟩ := p2 k2 g2 K hr
        rw [List.nil_append] at a3
        have hgr := spTest_gr (spFact_gr 6) _ _ _ _ _ hr
        obtain ⟨h2, b1, b2, b3⟩ := mj_aside (h := h) (p := p) (Or.inl rfl) (hw1.j a2.j.s) (hd1.w a2) (show n + K.length ≤ k2 by omega) a3
        refine ⟨h2, ?_, mStart_j.tr (a2.j.tr b2), fun e he => (by cases he), fun k3 g3 K2 he => ?_⟩
        · rw [show M_qTest (jup (jup (jup (jup (jup h o 44 ((0 : Nat) : Int)) o 99 0) o 101 0) o 102 0) o 103 0) o = _ from a1, Option.bind_some]
          exact b1
        · cases he
          exact b3
    · rw [if_neg (show ¬ ((1 : Nat) : Int) = 0 by decide), if_neg (show ¬ (1 : Nat) = 0 by decide)]
      obtain ⟨p1, p2⟩ := mSumsW (Or.inr (Or.inl rfl)) t1
      cases hr : spSms tp (spPart tp 1 6) k g with
      | inl e0 =>
        obtain ⟨h1, a1, a2, a3, -⟩ := p1 e0 hr
        refine ⟨h1, ?_, mStart_j.tr a2.j, fun e he => by rw [← Sum.inl.inj he]; exact a3, fun k2 g2 K he => (by cases he)⟩
        rw [show M_qSums (jup (jup (jup (jup (jup h o 44 ((1 : Nat) : Int)) o 99 0) o 101 0) o 102 0) o 103 0) o = _ from a1, Option.bind_some]
        exact hbad h1 e0 a2 a3
      | inr x =>
        obtain ⟨k2, g2, K⟩ := x
        obtain ⟨h1, a1, a2, a3⟩ := p2 k2 g2 K hr
        rw [List.nil_append] at a3
        have hgr := spSms_gr (spPart_gr 6) _ _ _ _ _ hr
        obtain ⟨h2, b1, b2, b3⟩ := mj_aside (h := h) (p := p) (Or.inr rfl) (hw1.j a2.j.s) (hd1.w a2) (show n + K.length ≤ k2 by omega) a3
        refine ⟨h2, ?_, mStart_j.tr (a2.j.tr b2), fun e he => (by cases he), fun k3 g3 K2 he => ?_⟩
        · rw [show M_qSums (jup (jup (jup (jup (jup h o 44 ((1 : Nat) : Int)) o 99 0) o 101 0) o 102 0) o 103 0) o = _ from a1, Option.bind_some]
          exact b1
        · cases he
          exact b3
/-- behind a statement: a semicolon -/
theorem m_100 {h : jH} {m : Nat} (h42 : h o 42 = (m : Int)) (hm : m ≤ 100) : (h o 5 ≠ 0 → ∃ h', M_statementTold_p100 h o = some h' ∧ MJs o h h' ∧ ∀ e, MBad o h e → MBad o h' e) ∧ (MJ h o tp k g p → ∃ h', M_statementTold_p100 h o = some h' ∧ MJs o h h' ∧ h' o 42 = ((m + 1 : Nat) : Int) ∧ (spTx tp k ≠ 59 → MBad o h' (1, k)) ∧ (spTx tp k = 59 → MJ h' o tp (spPk tp (k + 1)) g p)) := by
  unfold M_statementTold_p100
  refine ⟨fun h5 => ?_, fun hs => ?_⟩
  · rw [m_signBad h5, Option.bind_some]
    refine ⟨_, rfl, ⟨fun z z1 _ _ _ _ _ _ _ => jup_ne z1, fun f hf => ju_ne (mJfd_ne hf (by decide)), fun i _ => by rw [jup_ne (by omega)], fun i _ => by rw [jup_ne (by omega)], fun i _ => by rw [jup_ne (by omega)], fun i _ => by rw [jup_ne (by omega)]⟩, fun e he => he.fd (ju_ne (by decide)) (ju_ne (by decide))⟩
  · obtain ⟨h1, a1, a2, a3, a4⟩ := m_asksSign (c := 59) (by decide) hs.1
    have e42 : h1 o 42 = (m : Int) := by rw [a2.2 42 (by decide) (by decide) (by decide) (by decide) (by decide)]; exact h42
    rw [a1, Option.bind_some, e42, pw (by omega) (by omega)]
    obtain ⟨h2, hh2⟩ : ∃ h2 : jH, h2 = jup h1 o 42 ((m : Int) + 1) := ⟨_, rfl⟩
    rw [← hh2]
    have go : ∀ z, z ≠ o → h2 z = h1 z := fun z hz => by rw [hh2, jup_ne hz]
    have gf : ∀ f, f ≠ 42 → h2 o f = h1 o f := fun f hf => by rw [hh2, ju_ne hf]
    have hj : MJs o h1 h2 := ⟨fun z z1 _ _ _ _ _ _ _ => go z z1, fun f hf => gf f (mJfd_ne hf (by decide)), fun i _ => by rw [go _ (by omega)], fun i _ => by rw [go _ (by omega)], fun i _ => by rw [go _ (by omega)], fun i _ => by rw [go _ (by omega)]⟩
    have hpk := (spPk_in (tp := tp) (k + 1)).1
    refine ⟨h2, rfl, a2.j.s.tr hj, by rw [hh2, ju_eq]; omega, fun c => (a4 c).fd (gf 5 (by decide)) (gf 6 (by decide)), fun c => ?_⟩
    have j1 := hs.w a2 (a3 c).1 (by omega)
    obtain ⟨s1, s2, s3, n, s4, s5⟩ := j1
    exact ⟨s1.fd (go _ (by omega)) (fun f hf => gf f (by omega)), s2.j hj, s3.j hj, n, s4.m (gf 41 (by decide)) (fun z z1 _ _ => go z z1), s5⟩
end MJO
