/-! reading a text: the reference's bytes, words, numbers -/
def spWjournal : List Int := [106, 111, 117, 114, 110, 97, 108]
def spWblocks : List Int := [98, 108, 111, 99, 107, 115]
def spWbytes : List Int := [98, 121, 116, 101, 115]
def spWput : List Int := [112, 117, 116]
def spWsize : List Int := [115, 105, 122, 101]
def spWcloses : List Int := [99, 108, 111, 115, 101, 115]
def spWtakes : List Int := [116, 97, 107, 101, 115]
def spWnoise : List Int := [110, 111, 105, 115, 101]
def spWlast : List Int := [108, 97, 115, 116]
def spWoften : List Int := [111, 102, 116, 101, 110]
def spWtotal : List Int := [116, 111, 116, 97, 108]
def spWmost : List Int := [109, 111, 115, 116]
def spWleast : List Int := [108, 101, 97, 115, 116]
/-- a word in an array -/
def MWo (h : jH) (a : Nat) (w : List Int) : Prop := ∀ i, i < w.length → h a i = w.getD i 0
def MTx (h : jH) (o : Nat) (tp : List Int) : Prop := h o 3 = (tp.length : Int) ∧ tp.length ≤ 1600 ∧ spByt tp ∧ ∀ (j : Nat) (v : Int), tp[j]? = some v → h (o + 1) j = v
def MSs (h : jH) (o : Nat) (tp : List Int) (k : Nat) (g : Int) : Prop := MTx h o tp ∧ (∃ a : Nat, h o 2 = (a : Int) ∧ a ≤ tp.length ∧ spPk tp a = k ∧ h o 6 = -1) ∧ h o 4 = g ∧ h o 5 = 0
def MFw (o : Nat) (h h' : jH) : Prop := (∀ z, z ≠ o → h' z = h z) ∧ ∀ f, f ≠ 2 → f ≠ 4 → f ≠ 5 → f ≠ 6 → f ≠ 10 → h' o f = h o f
theorem MFw.rf {o : Nat} {h : jH} : MFw o h h := ⟨fun _ _ => rfl, fun _ _ _ _ _ _ => rfl⟩
theorem MFw.tr {o : Nat} {h h1 h2 : jH} (a : MFw o h h1) (b : MFw o h1 h2) : MFw o h h2 := ⟨fun z x => (b.1 z x).trans (a.1 z x), fun f x1 x2 x3 x4 x5 => (b.2 f x1 x2 x3 x4 x5).trans (a.2 f x1 x2 x3 x4 x5)⟩
def MBad (o : Nat) (h : jH) (e : Int × Nat) : Prop := h o 5 = e.1 ∧ h o 6 = (e.2 : Int) ∧ e.1 ≠ 0
section MRD
variable {o : Nat} {tp : List Int} {k : Nat} {g : Int}
theorem MTx.fr {h h' : jH} (hc : MTx h o tp) (e : MFw o h h') : MTx h' o tp := ⟨by rw [e.2 3 (by decide) (by decide) (by decide) (by decide) (by decide)]; exact hc.1, hc.2.1, hc.2.2.1, fun j v hj => by rw [e.1 _ (by omega)]; exact hc.2.2.2 j v hj⟩
theorem MTx.at {h : jH} (hc : MTx h o tp) {j : Nat} (hj : j < tp.length) : h (o + 1) j = spTx tp j := by
  rw [spTx_at hj]
  exact hc.2.2.2 j _ (List.getElem?_eq_getElem hj)
theorem MSs.le {h : jH} (hs : MSs h o tp k g) : k ≤ tp.length ∧ tp.length ≤ 1600 ∧ spPk tp k = k := by
  obtain ⟨hc, ⟨a, h7, ha, hk, -⟩, h8⟩ := hs
  exact ⟨by rw [← hk]; exact (spPk_in a).2 ha, hc.2.1, by rw [← hk]; exact spPk_pk a⟩
theorem MSs.mv {h h' : jH} {a : Nat} {g' : Int} (hs : MSs h o tp k g) (hf : MFw o h h') (h2 : h' o 2 = (a : Int)) (ha : a ≤ tp.length) (h4 : h' o 4 = g') (h5 : h' o 5 = 0) (h6 : h' o 6 = h o 6) : MSs h' o tp (spPk tp a) g' := by
  obtain ⟨c, ⟨b, x1, x2, x3, x4⟩, -⟩ := hs
  exact ⟨c.fr hf, ⟨a, h2, ha, rfl, h6.trans x4⟩, h4, h5⟩
theorem m_look {h : jH} (hs : MSs h o tp k g) : ∃ h', M_look h o = some (spTx tp k, h') ∧ MFw o h h' ∧ h' o 2 = (k : Int) ∧ MSs h' o tp k g ∧ (∀ f, f ≠ 2 → h' o f = h o f) := by
  obtain ⟨hc, ⟨a, h2, ha, hk, h6⟩, h4, h5⟩ := hs
  have key : ∀ m a (h : jH), m = tp.length - a → MTx h o tp → h o 2 = (a : Int) → a ≤ tp.length → spPk tp a = k → ∃ h', M_look h o = some (spTx tp k, h') ∧ (∀ z, z ≠ o → h' z = h z) ∧ (∀ f, f ≠ 2 → h' o f = h o f) ∧ h' o 2 = (k : Int) := by
    unfold M_look M_look_L0
    intro m
    induction m with
    | zero =>
      intro a h hm hc h2 ha hk
      have hka : k = a := by rw [← hk]; exact spPk_id (by rw [spTx_no (by omega)]; rfl)
      refine ⟨h, jloop_r ?_, fun _ _ => rfl, fun _ _ => rfl, by rw [hka]; exact h2⟩
      unfold M_look_B0 M_look_p52
      rw [h2, hc.1, if_neg (by omega), if_neg (by omega), spTx_no (by omega)]
      rfl
    | succ m ih =>
      intro a h hm hc h2 ha hk
      have hal : a < tp.length := by omega
      have h1600 := hc.2.1
      have hB : M_look_B0 h o = if spBl (spTx tp a) = true then some (.inl (jup h o 2 ((a + 1 : Nat) : Int))) else some (.inr (spTx tp a, h)) := by
        have h52 : M_look_p52 h o = some (spTx tp a, h) := by
          unfold M_look_p52
          rw [h2, hc.1, if_pos (by omega), if_pos (by omega), Int.toNat_natCast, hc.at hal]
        unfold M_look_B0 M_look_p39
        rw [h52, h2, hc.1, if_pos (by omega), if_pos (by omega), Int.toNat_natCast, hc.at hal, pw (x := (a : Int) + 1) (by omega) (by omega)]
        unfold spBl
        by_cases c1 : spTx tp a = 10
        · rw [if_pos c1, if_pos (by rw [c1]; decide)]; rfl
        · rw [if_neg c1]
          rw [if_pos (by omega)]
          by_cases c2 : spTx tp a = 32
          · rw [if_pos c2, if_pos (by rw [c2]; decide)]; rfl
          · rw [if_neg c2, if_neg (by rw [decide_eq_false c1, decide_eq_false c2]; decide)]; rfl
      by_cases c : spBl (spTx tp a) = true
      · rw [if_pos c] at hB
        have hfr : MFw o h (jup h o 2 ((a + 1 : Nat) : Int)) := ⟨fun z hz => jup_ne hz, fun f f2 _ _ _ _ => ju_ne f2⟩
        obtain ⟨h', e1, e2, e3, e4⟩ := ih (a + 1) (jup h o 2 ((a + 1 : Nat) : Int)) (by omega) (hc.fr hfr) ju_eq (by omega) (by rw [← hk]; exact (spPk_step c).symm)
        exact ⟨h', (jloop_l hB).trans e1, fun z hz => by rw [e2 z hz, jup_ne hz], fun f hf => by rw [e3 f hf, ju_ne hf], e4⟩
      · rw [if_neg c] at hB
        have hka : k = a := by rw [← hk]; exact spPk_id (Bool.eq_false_iff.mpr c)
        rw [hka]
        exact ⟨h, jloop_r hB, fun _ _ => rfl, fun _ _ => rfl, h2⟩
  obtain ⟨h', e1, e2, e3, e4⟩ := key _ a h rfl hc h2 ha hk
  have hfr : MFw o h h' := ⟨e2, fun f f2 _ _ _ _ => e3 f f2⟩
  have hkl : k ≤ tp.length := by rw [← hk]; exact (spPk_in a).2 ha
  exact ⟨h', e1, hfr, e4, ⟨hc.fr hfr, ⟨k, e4, hkl, by rw [← hk]; exact spPk_pk a, by rw [e3 6 (by decide)]; exact h6⟩, by rw [e3 4 (by decide)]; exact h4, by rw [e3 5 (by decide)]; exact h5⟩, e3⟩
theorem m_failAt {h : jH} {e : Int × Nat} (h5 : h o 5 = 0) (he : e.1 ≠ 0) : ∃ h', M_fail h o e.1 (e.2 : Int) = some h' ∧ MFw o h h' ∧ MBad o h' e ∧ h' o 2 = h o 2 := by
  unfold M_fail
  rw [h5, if_pos rfl]
  exact ⟨_, rfl, ⟨fun z hz => by rw [jup_ne hz, jup_ne hz], fun f _ _ f5 f6 _ => by rw [ju_ne f6, ju_ne f5]⟩, ⟨by rw [ju_ne (by decide), ju_eq], ju_eq, he⟩, by rw [ju_ne (by decide), ju_ne (by decide)]⟩
theorem m_takesSign {h : jH} {c : Int} (hc0 : c ≠ -1) (hs : MSs h o tp k g) : ∃ h', M_takesSign h o c = some (if spTx tp k = c then 1 else 0, h') ∧ MFw o h h' ∧ MSs h' o tp (if spTx tp k = c then spPk tp (k + 1) else k) g ∧ h' o 2 = (if spTx tp k = c then ((k + 1 : Nat) : Int) else (k : Int)) := by
  have h5 := hs.2.2.2
  obtain ⟨h1, e1, e2, e3, e5, e6⟩ := m_look hs
  have hl := hs.le
  unfold M_takesSign
  rw [h5, if_pos rfl, e1]
  simp only [Option.bind_some]
  by_cases a : spTx tp k = c
  · rw [if_pos a, if_pos a, if_pos a, if_pos a, e3, pw (by omega) (by omega)]
    have hk : k < tp.length := spTx_lt (by rw [a]; exact hc0)
    have hfr : MFw o h1 (jup h1 o 2 ((k : Int) + 1)) := ⟨fun z hz => jup_ne hz, fun f f2 _ _ _ _ => ju_ne f2⟩
    exact ⟨_, rfl, e2.tr hfr, e5.mv hfr (a := k + 1) (by rw [ju_eq]; rfl) hk (by rw [ju_ne (by decide)]; exact e5.2.2.1) (by rw [ju_ne (by decide)]; exact e5.2.2.2) (by rw [ju_ne (by decide)]), by rw [ju_eq]; rfl⟩
  · rw [if_neg a, if_neg a, if_neg a, if_neg a]
    exact ⟨h1, rfl, e2, e5, e3⟩
theorem m_asksSign {h : jH} {c : Int} (hc0 : c ≠ -1) (hs : MSs h o tp k g) : ∃ h', M_asksSign h o c = some h' ∧ MFw o h h' ∧ (spTx tp k = c → MSs h' o tp (spPk tp (k + 1)) g ∧ h' o 2 = ((k + 1 : Nat) : Int)) ∧ (spTx tp k ≠ c → MBad o h' (1, k)) := by
  have h5 := hs.2.2.2
  obtain ⟨h1, e1, e2, e3, e4⟩ := m_takesSign hc0 hs
  unfold M_asksSign
  rw [h5, if_pos rfl, e1]
  simp only [Option.bind_some]
  by_cases a : spTx tp k = c
  · rw [if_pos a, if_neg (by decide)]
    rw [if_pos a] at e3 e4
    exact ⟨h1, rfl, e2, fun _ => ⟨e3, e4⟩, fun h => absurd a h⟩
  · rw [if_neg a, if_pos rfl]
    rw [if_neg a] at e3 e4
    rw [e4]
    obtain ⟨h2, x1, x2, x3, -⟩ := m_failAt (o := o) (h := h1) (e := (1, k)) e3.2.2.2 (show (1 : Int) ≠ 0 by decide)
    rw [show M_fail h1 o 1 (k : Int) = _ from x1]
    exact ⟨h2, rfl, e2.tr x2, fun h => absurd h a, fun _ => x3⟩
theorem m_lt {c : Int} : M_isLetter c = some (if spLt c = true then 1 else 0) := by
  unfold M_isLetter M_isLetter_p16 spLt
  by_cases a : c < 97
  · rw [if_pos a, decide_eq_false (by omega), Bool.false_and, if_neg (by decide)]
  · rw [if_neg a, decide_eq_true (by omega), Bool.true_and]
    by_cases b : 122 < c
    · rw [if_pos b, decide_eq_false (by omega), if_neg (by decide)]
    · rw [if_neg b, decide_eq_true (by omega), if_pos rfl]
theorem m_dg {c : Int} : M_isDigit c = some (if spDg c = true then 1 else 0) := by
  unfold M_isDigit M_isDigit_p16 spDg
  by_cases a : c < 48
  · rw [if_pos a, decide_eq_false (by omega), Bool.false_and, if_neg (by decide)]
  · rw [if_neg a, decide_eq_true (by omega), Bool.true_and]
    by_cases b : 57 < c
    · rw [if_pos b, decide_eq_false (by omega), if_neg (by decide)]
    · rw [if_neg b, decide_eq_true (by omega), if_pos rfl]
theorem m_wordL {h : jH} {r n : Nat} (hc : MTx h o tp) : ∀ m a, m = tp.length - a → a ≤ tp.length → M_isHere_L35 h o r n (a : Int) = M_isHere_p61 h o r n (spLe tp a : Int) := by
  have h1600 := hc.2.1
  unfold M_isHere_L35
  intro m
  induction m with
  | zero =>
    intro a hm ha
    rw [spLe_stop (a := a) (by rw [spTx_no (by omega)]; rfl)]
    refine jloop_x ?_
    show M_isHere_B35 h o r n (a : Int) = _
    unfold M_isHere_B35
    rw [hc.1, if_neg (by omega)]
  | succ m ih =>
    intro a hm ha
    have hB : M_isHere_B35 h o r n (a : Int) = if spLt (spTx tp a) = true then some (.inl ((a + 1 : Nat) : Int)) else Option.map Sum.inr (M_isHere_p61 h o r n (a : Int)) := by
      unfold M_isHere_B35
      rw [hc.1, if_pos (by omega), if_pos (by omega), Int.toNat_natCast, hc.at (by omega), m_lt]
      simp only [Option.bind_some]
      rw [pw (x := (a : Int) + 1) (by omega) (by omega)]
      by_cases c1 : spLt (spTx tp a) = true
      · rw [if_pos c1, if_neg (by decide), if_pos c1]; rfl
      · rw [if_neg c1, if_pos rfl, if_neg c1]
    by_cases c : spLt (spTx tp a) = true
    · rw [if_pos c] at hB
      rw [spLe_step c]
      exact (jloop_l hB).trans (ih (a + 1) (by omega) (by omega))
    · rw [if_neg c] at hB
      rw [spLe_stop (Bool.eq_false_iff.mpr c)]
      exact jloop_x hB
theorem m_isHere {h : jH} {r n : Nat} {w : List Int} (hr : r ≠ o) (hn : n = w.length) (hw : 1 ≤ w.length ∧ w.length ≤ 20) (hW : MWo h r w) (hs : MSs h o tp k g) : ∃ h', M_isHere h o r n = some (if spWd tp g k w = true then 1 else 0, h') ∧ MFw o h h' ∧ MSs h' o tp k g ∧ h' o 2 = (k : Int) := by
  subst hn
  have h5 := hs.2.2.2
  obtain ⟨h1, e1, e2, e3, e5, e6⟩ := m_look hs
  have hl := hs.le
  have hle := spLe_in (tp := tp) k
  have hW1 : MWo h1 r w := fun i hi => by rw [e2.1 r hr]; exact hW i hi
  unfold M_isHere
  rw [h5, if_pos rfl, e1]
  simp only [Option.bind_some]
  rw [m_lt]
  simp only [Option.bind_some]
  rw [e3, e5.2.2.1]
  by_cases c2 : spLt (spTx tp k) = true
  rotate_left
  · have hwd : spWd tp g k w = false := by
      unfold spWd
      rw [spLe_stop (Bool.eq_false_iff.mpr c2), decide_eq_false (show ¬ k = k + w.length by omega), Bool.and_false]
      rfl
    rw [if_neg c2, if_pos rfl, hwd, if_neg (by decide)]
    exact ⟨h1, rfl, e2, e5, e3⟩
  rw [if_pos c2, if_neg (by decide)]
  by_cases c0 : (k : Int) = g
  · have hwd : spWd tp g k w = false := by unfold spWd; rw [decide_eq_false (fun h => h c0)]; rfl
    rw [if_pos c0, hwd, if_neg (by decide)]
    exact ⟨h1, rfl, e2, e5, e3⟩
  rw [if_neg c0, m_wordL e5.1 _ k rfl hl.1]
  unfold M_isHere_p61
  rw [e3, pw (by omega) (by omega)]
  by_cases c1 : spLe tp k = k + w.length
  rotate_left
  · have hwd : spWd tp g k w = false := by unfold spWd; rw [decide_eq_false c1, Bool.and_false]; rfl
    rw [if_neg (by omega), hwd, if_neg (by decide)]
    exact ⟨h1, rfl, e2, e5, e3⟩
  rw [if_pos (by omega)]
  have hin : k + w.length ≤ tp.length := by rw [← c1]; exact hle.2 hl.1
  have hwd : spWd tp g k w = decide ((tp.drop k).take w.length = w) := by unfold spWd; rw [decide_eq_true c0, decide_eq_true c1]; rfl
  have key : ∀ m i, i + m = w.length → (∀ j, j < i → spTx tp (k + j) = w.getD j 0) → M_isHere_L76 h1 o r w.length (i : Int) = some (if spWd tp g k w = true then 1 else 0, h1) := by
    unfold M_isHere_L76
    intro m
    induction m with
    | zero =>
      intro i hi hall
      rw [hwd, decide_eq_true ((spTake_eq hin).mpr (fun j hj => hall j (by omega))), if_pos rfl]
      refine jloop_r ?_
      show M_isHere_B76 h1 o r w.length (i : Int) = _
      unfold M_isHere_B76
      rw [if_neg (by omega)]
      rfl
    | succ m ih =>
      intro i hi hall
      have hB : M_isHere_B76 h1 o r w.length (i : Int) = if spTx tp (k + i) = w.getD i 0 then some (.inl ((i + 1 : Nat) : Int)) else some (.inr (0, h1)) := by
        unfold M_isHere_B76
        rw [if_pos (by omega), e3, pw (x := (k : Int) + (i : Int)) (by omega) (by omega), if_pos (by omega), if_pos (by omega), show ((k : Int) + (i : Int)).toNat = k + i by omega, Int.toNat_natCast, e5.1.at (by omega), hW1 i (by omega), pw (x := (i : Int) + 1) (by omega) (by omega)]
        by_cases c : spTx tp (k + i) = w.getD i 0
        · rw [if_pos c, if_pos c]; rfl
        · rw [if_neg c, if_neg c]; rfl
      by_cases c : spTx tp (k + i) = w.getD i 0
      · rw [if_pos c] at hB
        refine (jloop_l hB).trans (ih (i + 1) (by omega) (fun j hj => ?_))
        rcases Nat.lt_or_ge j i with a | a
        · exact hall j a
        · rw [show j = i by omega]; exact c
      · rw [if_neg c] at hB
        rw [hwd, decide_eq_false (fun e => c ((spTake_eq hin).mp e i (by omega))), if_neg (by decide)]
        exact jloop_r hB
  rw [show M_isHere_L76 h1 o r w.length 0 = _ from key w.length 0 (by omega) (fun j hj => absurd hj (by omega))]
  exact ⟨h1, rfl, e2, e5, e3⟩
theorem m_takes {h : jH} {r n : Nat} {w : List Int} (hr : r ≠ o) (hn : n = w.length) (hw : 1 ≤ w.length ∧ w.length ≤ 20) (hW : MWo h r w) (hs : MSs h o tp k g) : ∃ h', M_takes h o r n = some (if spWd tp g k w = true then 1 else 0, h') ∧ MFw o h h' ∧ (spWd tp g k w = true → MSs h' o tp (spPk tp (k + w.length)) ((k + w.length : Nat) : Int)) ∧ (spWd tp g k w = false → MSs h' o tp k g ∧ h' o 2 = (k : Int)) := by
  obtain ⟨h1, e1, e2, e3, e4⟩ := m_isHere hr hn hw hW hs
  have hl := hs.le
  unfold M_takes
  rw [e1]
  simp only [Option.bind_some]
  by_cases a : spWd tp g k w = true
  · rw [if_pos a, if_neg (by decide)]
    have hin : k + w.length ≤ tp.length := by
      rcases spWd_in a with h | h
      · exact h
      · rw [h] at hw; exact absurd hw.1 (by decide)
    rw [hn, e4, pw (x := (k : Int) + (w.length : Int)) (by omega) (by omega), ju_eq]
    have hfr : MFw o h1 (jup (jup h1 o 2 ((k : Int) + (w.length : Int))) o 4 ((k : Int) + (w.length : Int))) := ⟨fun z hz => by rw [jup_ne hz, jup_ne hz], fun f f2 f4 _ _ _ => by rw [ju_ne f4, ju_ne f2]⟩
    exact ⟨_, rfl, e2.tr hfr, fun _ => e3.mv hfr (a := k + w.length) (by rw [ju_ne (by decide), ju_eq]; rfl) hin (by rw [ju_eq]; rfl) (by rw [ju_ne (by decide), ju_ne (by decide)]; exact e3.2.2.2) (by rw [ju_ne (by decide), ju_ne (by decide)]), fun h => absurd a (by rw [h]; decide)⟩
  · rw [if_neg a, if_pos rfl]
    exact ⟨h1, rfl, e2, fun h => absurd h a, fun _ => ⟨e3, e4⟩⟩
theorem m_asksW {h : jH} {r n : Nat} {w : List Int} (hr : r ≠ o) (hn : n = w.length) (hw : 1 ≤ w.length ∧ w.length ≤ 20) (hW : MWo h r w) (hs : MSs h o tp k g) : ∃ h', M_asks h o r n = some h' ∧ MFw o h h' ∧ (spWd tp g k w = true → MSs h' o tp (spPk tp (k + w.length)) ((k + w.length : Nat) : Int)) ∧ (spWd tp g k w = false → MBad o h' (1, k)) := by
  have h5 := hs.2.2.2
  obtain ⟨h1, e1, e2, e3, e4⟩ := m_takes hr hn hw hW hs
  unfold M_asks
  rw [h5, if_pos rfl, e1]
  simp only [Option.bind_some]
  by_cases a : spWd tp g k w = true
  · rw [if_pos a, if_neg (by decide)]
    exact ⟨h1, rfl, e2, e3, fun h => absurd a (by rw [h]; decide)⟩
  · have a' : spWd tp g k w = false := Bool.eq_false_iff.mpr a
    rw [if_neg a, if_pos rfl, (e4 a').2]
    obtain ⟨h2, x1, x2, x3, -⟩ := m_failAt (o := o) (h := h1) (e := (1, k)) (e4 a').1.2.2.2 (show (1 : Int) ≠ 0 by decide)
    rw [show M_fail h1 o 1 (k : Int) = _ from x1]
    exact ⟨h2, rfl, e2.tr x2, fun h => absurd h a, fun _ => x3⟩
theorem m_numL {h0 : jH} {lo hi : Int} (hk0 : k ≤ tp.length) : ∀ f a (v : Int) (h : jH), f = 4 - (a - k) → k ≤ a → a ≤ k + 4 → a ≤ tp.length → MTx h o tp → MFw o h0 h → h o 5 = 0 → h o 2 = (a : Int) → 0 ≤ v → v < 10 ^ (a - k) → ∃ h' x, M_number_L49 h o lo hi (k : Int) v = some (x, h') ∧ MFw o h0 h' ∧ ((spNmN tp f a v).2.2 = true → MBad o h' (1, (spNmN tp f a v).1)) ∧ ((spNmN tp f a v).2.2 = false → ((spNmN tp f a v).2.1 < lo ∨ hi < (spNmN tp f a v).2.1) → MBad o h' (2, k)) ∧ ((spNmN tp f a v).2.2 = false → ¬ ((spNmN tp f a v).2.1 < lo ∨ hi < (spNmN tp f a v).2.1) → x = (spNmN tp f a v).2.1 ∧ h' o 2 = ((spNmN tp f a v).1 : Int) ∧ h' o 4 = ((spNmN tp f a v).1 : Int) ∧ h' o 5 = 0 ∧ h' o 6 = h o 6) := by
  unfold M_number_L49
  have stop : ∀ a (v : Int) (h : jH), MFw o h0 h → h o 5 = 0 → h o 2 = (a : Int) → ∃ h', M_number_p129 h o lo hi (k : Int) v = some (v, h') ∧ MFw o h0 h' ∧ ((v < lo ∨ hi < v) → MBad o h' (2, k)) ∧ (¬ (v < lo ∨ hi < v) → h' o 2 = (a : Int) ∧ h' o 4 = (a : Int) ∧ h' o 5 = 0 ∧ h' o 6 = h o 6) := by
    intro a v h hf h5 h2
    obtain ⟨h1, hh1⟩ : ∃ h1 : jH, h1 = jup (jup h o 4 (h o 2)) o 10 (k : Int) := ⟨_, rfl⟩
    have hf1 : MFw o h h1 := ⟨fun z hz => by rw [hh1, jup_ne hz, jup_ne hz], fun f _ f4 _ _ f10 => by rw [hh1, ju_ne f10, ju_ne f4]⟩
    have h15 : h1 o 5 = 0 := by rw [hh1, ju_ne (by decide), ju_ne (by decide)]; exact h5
    obtain ⟨h3, x1, x2, x3, -⟩ := m_failAt (o := o) (h := h1) (e := (2, k)) h15 (show (2 : Int) ≠ 0 by decide)
    unfold M_number_p129
    rw [m_isIn, ← hh1]
    simp only [Option.bind_some]
    have h110 : h1 o 10 = (k : Int) := by rw [hh1, ju_eq]
    rw [h110, show M_fail h1 o 2 (k : Int) = _ from x1]
    by_cases c1 : v < lo ∨ hi < v
    · rw [if_neg (show ¬ (lo ≤ v ∧ v ≤ hi) by omega), if_pos rfl]
      exact ⟨h3, rfl, hf.tr (hf1.tr x2), fun _ => x3, fun h => absurd c1 h⟩
    · rw [if_pos (show lo ≤ v ∧ v ≤ hi by omega), if_neg (by decide)]
      exact ⟨h1, rfl, hf.tr hf1, fun h => absurd h c1, fun _ => ⟨by rw [hh1, ju_ne (by decide), ju_ne (by decide)]; exact h2, by rw [hh1, ju_ne (by decide), ju_eq]; exact h2, h15, by rw [hh1, ju_ne (by decide), ju_ne (by decide)]⟩⟩
  have hB : ∀ a (v : Int) (h : jH), k ≤ a → a ≤ k + 4 → a ≤ tp.length → MTx h o tp → h o 2 = (a : Int) → 0 ≤ v → v ≤ 100000 → M_number_B49 h o lo hi (k : Int) v = if spDg (spTx tp a) = true then (if a = k + 4 then Option.map Sum.inr (Option.bind (M_fail h o 1 (h o 2)) (fun b12 => some (0, b12))) else some (.inl (10 * v + spTx tp a - 48, jup h o 2 ((a + 1 : Nat) : Int)))) else Option.map Sum.inr (M_number_p129 h o lo hi (k : Int) v) := by
    intro a v h hka ha4 hal hc h2 hv0 hv1
    have h1600 := hc.2.1
    have htx := hc.2.2.1.tx a
    unfold M_number_B49
    rw [h2, hc.1]
    by_cases c : a < tp.length
    rotate_left
    · rw [if_neg (by omega), spTx_no (by omega), if_neg (by decide)]
    rw [if_pos (by omega), if_pos (by omega), Int.toNat_natCast, hc.at c, m_dg]
    simp only [Option.bind_some]
    by_cases c1 : spDg (spTx tp a) = true
    rotate_left
    · rw [if_neg c1, if_pos rfl, if_neg c1]
    rw [if_pos c1, if_neg (by decide), if_pos c1, pw (x := (a : Int) - (k : Int)) (by omega) (by omega), pw (x := 10 * v) (by omega) (by omega), pw (x := 10 * v + spTx tp a) (by omega) (by omega), pw (x := 10 * v + spTx tp a - 48) (by omega) (by omega), pw (x := (a : Int) + 1) (by omega) (by omega)]
    by_cases c2 : a = k + 4
    · rw [if_pos (by omega), if_pos c2]
    · rw [if_neg (by omega), if_pos (by omega), if_neg c2]; rfl
  intro f
  induction f with
  | zero =>
    intro a v h hf hka ha4 hal hc hfr h5 h2 hv0 hv1
    have e4 : a = k + 4 := by omega
    have hv2 : v ≤ 100000 := by rw [e4, show k + 4 - k = 4 by omega] at hv1; omega
    have hb := hB a v h hka ha4 hal hc h2 hv0 hv2
    have hn : spNmN tp 0 a v = (a, v, spDg (spTx tp a)) := rfl
    rw [hn]
    dsimp only
    by_cases c1 : spDg (spTx tp a) = true
    · rw [if_pos c1, if_pos e4, h2] at hb
      obtain ⟨h3, x1, x2, x3, -⟩ := m_failAt (o := o) (h := h) (e := (1, a)) h5 (show (1 : Int) ≠ 0 by decide)
      rw [show M_fail h o 1 (a : Int) = _ from x1] at hb
      exact ⟨h3, 0, jloop_r hb, hfr.tr x2, fun _ => x3, fun h => absurd c1 (by rw [h]; decide), fun h => absurd c1 (by rw [h]; decide)⟩
    · rw [if_neg c1] at hb
      obtain ⟨h3, x1, x2, x3, x4⟩ := stop a v h hfr h5 h2
      exact ⟨h3, v, (jloop_x hb).trans x1, x2, fun h => absurd h c1, fun _ => x3, fun _ hh => ⟨rfl, x4 hh⟩⟩
  | succ f ih =>
    intro a v h hf hka ha4 hal hc hfr h5 h2 hv0 hv1
    have hlt : a - k ≤ 3 := by omega
    have hv2 : v ≤ 10000 := by
      have : (10 : Int) ^ (a - k) ≤ 1000 := by
        have : a - k = 0 ∨ a - k = 1 ∨ a - k = 2 ∨ a - k = 3 := by omega
        rcases this with e | e | e | e <;> rw [e] <;> decide
      omega
    have hb := hB a v h hka ha4 hal hc h2 hv0 (by omega)
    by_cases c1 : spDg (spTx tp a) = true
    · have hn : spNmN tp (f + 1) a v = spNmN tp f (a + 1) (10 * v + spTx tp a - 48) := by
        conv => lhs; unfold spNmN
        rw [if_pos c1]
      rw [if_pos c1, if_neg (by omega)] at hb
      have hal2 : a < tp.length := spTx_lt (fun e => by rw [e] at c1; exact absurd c1 (by decide))
      have hf1 : MFw o h (jup h o 2 ((a + 1 : Nat) : Int)) := ⟨fun z hz => jup_ne hz, fun f f2 _ _ _ _ => ju_ne f2⟩
      have hdg : 48 ≤ spTx tp a ∧ spTx tp a ≤ 57 := by
        unfold spDg at c1
        rw [Bool.and_eq_true] at c1
        exact ⟨of_decide_eq_true c1.1, of_decide_eq_true c1.2⟩
      have hpow : (10 : Int) ^ (a + 1 - k) = 10 ^ (a - k) * 10 := by rw [show a + 1 - k = (a - k) + 1 by omega, Int.pow_succ]
      rw [hn]
      obtain ⟨h3, x, x1, x2⟩ := ih (a + 1) (10 * v + spTx tp a - 48) (jup h o 2 ((a + 1 : Nat) : Int)) (by omega) (by omega) (by omega) hal2 (hc.fr hf1) (hfr.tr hf1) (by rw [ju_ne (by decide)]; exact h5) ju_eq (by omega) (by rw [hpow]; omega)
      exact ⟨h3, x, (jloop_l hb).trans x1, x2.1, x2.2.1, x2.2.2.1, fun e1 e2 => ⟨(x2.2.2.2 e1 e2).1, (x2.2.2.2 e1 e2).2.1, (x2.2.2.2 e1 e2).2.2.1, (x2.2.2.2 e1 e2).2.2.2.1, (x2.2.2.2 e1 e2).2.2.2.2.trans (ju_ne (by decide))⟩⟩
    · have hn : spNmN tp (f + 1) a v = (a, v, false) := by
        conv => lhs; unfold spNmN
        rw [if_neg c1]
      rw [if_neg c1] at hb
      rw [hn]
      dsimp only
      obtain ⟨h3, x1, x2, x3, x4⟩ := stop a v h hfr h5 h2
      exact ⟨h3, v, (jloop_x hb).trans x1, x2, fun h => absurd h (by decide), fun _ => x3, fun _ hh => ⟨rfl, x4 hh⟩⟩
theorem m_number {h : jH} {lo hi : Int} (hs : MSs h o tp k g) : ∃ h' v, M_number h o lo hi = some (v, h') ∧ MFw o h h' ∧ (∀ e, spNum tp g k lo hi = .inl e → MBad o h' e) ∧ (∀ x e, spNum tp g k lo hi = .inr (x, e) → v = x ∧ MSs h' o tp (spPk tp e) (e : Int)) := by
  have h5 := hs.2.2.2
  obtain ⟨h1, e1, e2, e3, e5, e6⟩ := m_look hs
  have hl := hs.le
  unfold M_number
  rw [h5, if_pos rfl, e1]
  simp only [Option.bind_some]
  rw [m_dg]
  simp only [Option.bind_some]
  obtain ⟨h2, x1, x2, x3, -⟩ := m_failAt (o := o) (h := h1) (e := (1, k)) e5.2.2.2 (show (1 : Int) ≠ 0 by decide)
  have x1' : M_fail h1 o 1 (k : Int) = some h2 := x1
  unfold M_number_p30 spNum
  rw [e3, e5.2.2.1, x1']
  simp only [Option.bind_some]
  by_cases c0 : spDg (spTx tp k) = false ∨ (k : Int) = g
  · rw [if_pos c0]
    refine ⟨h2, 0, ?_, e2.tr x2, fun e he => by rw [← Sum.inl.inj he]; exact x3, fun x e he => (by cases he)⟩
    rcases c0 with c | c
    · rw [c, if_pos (show (if false = true then (1 : Int) else 0) = 0 from rfl)]
    · rw [if_pos c]
      split <;> rfl
  rw [if_neg c0]
  have c1 : spDg (spTx tp k) = true := by
    cases c : spDg (spTx tp k)
    · exact absurd (Or.inl c) c0
    · rfl
  rw [if_pos c1, if_neg (by decide), if_neg (fun e => c0 (Or.inr e))]
  obtain ⟨h3, x, y1, y2, y3, y4, y5⟩ := m_numL (o := o) (k := k) (tp := tp) (lo := lo) (hi := hi) (h0 := h1) hl.1 4 k 0 h1 (by omega) (Nat.le_refl _) (by omega) hl.1 e5.1 MFw.rf e5.2.2.2 e3 (by decide) (by rw [Nat.sub_self]; decide)
  rw [y1]
  by_cases d1 : (spNmN tp 4 k 0).2.2 = true
  · rw [if_pos d1]
    exact ⟨h3, x, rfl, e2.tr y2, fun e he => by rw [← Sum.inl.inj he]; exact y3 d1, fun x e he => (by cases he)⟩
  have d1' : (spNmN tp 4 k 0).2.2 = false := Bool.eq_false_iff.mpr d1
  rw [if_neg d1]
  by_cases d2 : (spNmN tp 4 k 0).2.1 < lo ∨ hi < (spNmN tp 4 k 0).2.1
  · rw [if_pos d2]
    exact ⟨h3, x, rfl, e2.tr y2, fun e he => by rw [← Sum.inl.inj he]; exact y4 d1' d2, fun x e he => (by cases he)⟩
  rw [if_neg d2]
  refine ⟨h3, x, rfl, e2.tr y2, fun e he => (by cases he), fun x' e he => ?_⟩
  obtain ⟨rfl, rfl⟩ := Prod.mk.inj (Sum.inr.inj he)
  have h7 := y5 d1' d2
  exact ⟨h7.1, e5.mv y2 h7.2.1 ((spNmN_in 4 k 0).2.2 hl.1) h7.2.2.1 h7.2.2.2.1 h7.2.2.2.2⟩
end MRD
