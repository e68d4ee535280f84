/-! reading a text: the class's bytes, words, numbers -/
def PTx (T : jT) (h : jH) (P tq : Nat) (tp : List Int) : Prop := h P 5 = (tq : Int) ∧ T.1[tq]? = some (20, 1600) ∧ tq ≠ P ∧ h P 6 = (tp.length : Int) ∧ tp.length ≤ 1600 ∧ spByt tp ∧ ∀ (j : Nat) (v : Int), tp[j]? = some v → h tq j = v
def PSs (T : jT) (h : jH) (P tq : Nat) (tp : List Int) (k : Nat) (g : Int) : Prop := PTx T h P tq tp ∧ (∃ a : Nat, h P 7 = (a : Int) ∧ a ≤ tp.length ∧ spPk tp a = k ∧ h P 3 = 0 ∧ h P 4 = -1) ∧ h P 8 = g
/-- what reading may change -/
def PFw (P : Nat) (h h' : jH) : Prop := (∀ z, z ≠ P → h' z = h z) ∧ ∀ f, f ≠ 3 → f ≠ 4 → f ≠ 7 → f ≠ 8 → h' P f = h P f
theorem PFw.rf {P : Nat} {h : jH} : PFw P h h := ⟨fun _ _ => rfl, fun _ _ _ _ _ => rfl⟩
theorem PFw.tr {P : Nat} {h h1 h2 : jH} (a : PFw P h h1) (b : PFw P h1 h2) : PFw P h h2 := ⟨fun z x => (b.1 z x).trans (a.1 z x), fun f x1 x2 x3 x4 => (b.2 f x1 x2 x3 x4).trans (a.2 f x1 x2 x3 x4)⟩
theorem spByt.tx {tp : List Int} (h : spByt tp) (k : Nat) : -1 ≤ spTx tp k ∧ spTx tp k < 256 := by
  unfold spTx
  cases e : tp[k]? with
  | none => exact ⟨Int.le_refl _, by decide⟩
  | some v => have := h v (List.mem_of_getElem? e); exact ⟨by show -1 ≤ v; omega, this.2⟩
section PAR
variable {T : jT} {P tq : Nat} {tp : List Int} {k : Nat} {g : Int}
theorem PTx.fr {h h' : jH} (hc : PTx T h P tq tp) (e : PFw P h h') : PTx T h' P tq tp := ⟨by rw [e.2 5 (by decide) (by decide) (by decide) (by decide)]; exact hc.1, hc.2.1, hc.2.2.1, by rw [e.2 6 (by decide) (by decide) (by decide) (by decide)]; exact hc.2.2.2.1, hc.2.2.2.2.1, hc.2.2.2.2.2.1, fun j v hj => by rw [e.1 tq hc.2.2.1]; exact hc.2.2.2.2.2.2 j v hj⟩
theorem PTx.dyn {h : jH} (hc : PTx T h P tq tp) : jdyn (jIsA T) (h P 5) = some tq := by rw [hc.1]; exact jdyn_at ⟨1600, hc.2.1⟩
theorem PTx.sz {h : jH} (hc : PTx T h P tq tp) : (T.1.getD tq (0, 0)).2 = 1600 := by rw [List.getD_eq_getElem?_getD, hc.2.1]; rfl
theorem PTx.at {h : jH} (hc : PTx T h P tq tp) {j : Nat} (hj : j < tp.length) : h tq j = spTx tp j := by
  rw [spTx_at hj]
  exact hc.2.2.2.2.2.2 j _ (List.getElem?_eq_getElem hj)
theorem c_oct8 {h : jH} (hc : PTx T h P tq tp) (j : Nat) : Pa_octetAt T h P (j : Int) = some (spTx tp j) := by
  have h5 := hc.2.2.2.2.1
  unfold Pa_octetAt Pa_octetAt_p30
  rw [if_neg (by omega), hc.2.2.2.1, hc.dyn]
  by_cases a : j < tp.length
  · rw [if_pos (by omega)]
    simp only [Option.bind_some]
    rw [hc.sz, if_pos (by omega), if_pos (by omega), Int.toNat_natCast, hc.at a]
  · rw [if_neg (by omega), spTx_no (by omega)]
theorem c_peek {h : jH} (hs : PSs T h P tq tp k g) : ∃ h', Pa_peek T h P = some (spTx tp k, h') ∧ PFw P h h' ∧ h' P 7 = (k : Int) ∧ h' P 8 = g ∧ h' P 3 = h P 3 ∧ h' P 4 = h P 4 ∧ PSs T h' P tq tp k g := by
  obtain ⟨hc, ⟨a, h7, ha, hk, hf3, hf4⟩, h8⟩ := hs
  have key : ∀ m a (h : jH), m = tp.length - a → PTx T h P tq tp → h P 7 = (a : Int) → a ≤ tp.length → spPk tp a = k → ∃ h', Pa_peek T h P = some (spTx tp k, h') ∧ (∀ z, z ≠ P → h' z = h z) ∧ (∀ f, f ≠ 7 → h' P f = h P f) ∧ h' P 7 = (k : Int) := by
    unfold Pa_peek Pa_peek_L0
    intro m
    induction m with
    | zero =>
      intro a h hm hc h7 ha hk
      have hal : a = tp.length := by omega
      have hka : k = a := by rw [← hk]; exact spPk_id (by rw [spTx_no (by omega)]; rfl)
      refine ⟨h, jloop_r ?_, fun _ _ => rfl, fun _ _ => rfl, by rw [hka]; exact h7⟩
      unfold Pa_peek_B0 Pa_peek_p71 Pa_peek_p113
      rw [h7, hc.2.2.2.1, if_neg (by omega), if_neg (by omega), if_neg (by omega), if_neg (by omega), spTx_no (by omega)]
      rfl
    | succ m ih =>
      intro a h hm hc h7 ha hk
      have hal : a < tp.length := by omega
      have h1600 := hc.2.2.2.2.1
      have hB : Pa_peek_B0 T h P = if spBl (spTx tp a) = true then some (.inl (jup h P 7 ((a + 1 : Nat) : Int))) else some (.inr (spTx tp a, h)) := by
        have h71 : Pa_peek_p71 T h P = some (spTx tp a, h) := by
          unfold Pa_peek_p71
          rw [h7, hc.2.2.2.1, hc.dyn, if_neg (by omega), if_pos (by omega)]
          simp only [Option.bind_some]
          rw [hc.sz, if_pos (by omega), if_pos (by omega), Int.toNat_natCast, hc.at hal]
        unfold Pa_peek_B0 Pa_peek_p58
        rw [h71, h7, hc.2.2.2.1, hc.dyn, if_neg (by omega), if_pos (by omega)]
        simp only [Option.bind_some]
        rw [hc.sz, if_pos (by omega), if_pos (by omega), Int.toNat_natCast, hc.at hal, pw (x := (a : Int) + 1) (by omega) (by omega)]
        unfold spBl
        by_cases c1 : spTx tp a = 32
        · rw [if_pos c1, if_pos (by rw [c1]; decide)]; rfl
        · rw [if_neg c1]
          rw [if_pos (by omega)]
          by_cases c2 : spTx tp a = 10
          · rw [if_pos c2, if_pos (by rw [c2]; decide)]; rfl
          · rw [if_neg c2, if_neg (by rw [decide_eq_false c1, decide_eq_false c2]; decide)]; rfl
      by_cases c : spBl (spTx tp a) = true
      · rw [if_pos c] at hB
        have hfr : PFw P h (jup h P 7 ((a + 1 : Nat) : Int)) := ⟨fun z hz => jup_ne hz, fun f _ _ f7 _ => ju_ne f7⟩
        obtain ⟨h', e1, e2, e3, e4⟩ := ih (a + 1) (jup h P 7 ((a + 1 : Nat) : Int)) (by omega) (hc.fr hfr) ju_eq (by omega) (by rw [← hk]; exact (spPk_step c).symm)
        exact ⟨h', (jloop_l hB).trans e1, fun z hz => by rw [e2 z hz, jup_ne hz], fun f hf => by rw [e3 f hf, ju_ne hf], e4⟩
      · rw [if_neg c] at hB
        have hka : k = a := by rw [← hk]; exact spPk_id (Bool.eq_false_iff.mpr c)
        rw [hka]
        exact ⟨h, jloop_r hB, fun _ _ => rfl, fun _ _ => rfl, h7⟩
  obtain ⟨h', e1, e2, e3, e4⟩ := key _ a h rfl hc h7 ha hk
  have hfr : PFw P h h' := ⟨e2, fun f _ _ f7 _ => e3 f f7⟩
  have hkl : k ≤ tp.length := by rw [← hk]; exact (spPk_in a).2 ha
  exact ⟨h', e1, hfr, e4, by rw [e3 8 (by decide)]; exact h8, e3 3 (by decide), e3 4 (by decide), hc.fr hfr, ⟨k, e4, hkl, by rw [← hk]; exact spPk_pk a, by rw [e3 3 (by decide)]; exact hf3, by rw [e3 4 (by decide)]; exact hf4⟩, by rw [e3 8 (by decide)]; exact h8⟩
/-- at another place -/
theorem PSs.mv {h h' : jH} {a : Nat} {g' : Int} (hs : PSs T h P tq tp k g) (hf : PFw P h h') (h7 : h' P 7 = (a : Int)) (ha : a ≤ tp.length) (h8 : h' P 8 = g') (h3 : h' P 3 = h P 3) (h4 : h' P 4 = h P 4) : PSs T h' P tq tp (spPk tp a) g' := by
  obtain ⟨c, ⟨b, x1, x2, x3, x4, x5⟩, -⟩ := hs
  exact ⟨c.fr hf, ⟨a, h7, ha, rfl, h3.trans x4, h4.trans x5⟩, h8⟩
theorem PSs.le {h : jH} (hs : PSs T h P tq tp k g) : k ≤ tp.length ∧ tp.length ≤ 1600 ∧ spPk tp k = k := by
  obtain ⟨hc, ⟨a, h7, ha, hk, -⟩, h8⟩ := hs
  exact ⟨by rw [← hk]; exact (spPk_in a).2 ha, hc.2.2.2.2.1, by rw [← hk]; exact spPk_pk a⟩
theorem c_sign {h : jH} {c : Int} (hc0 : c ≠ -1) (hs : PSs T h P tq tp k g) : ∃ h', Pa_sign T h P c = some (if spTx tp k = c then 1 else 0, h') ∧ PFw P h h' ∧ h' P 8 = g ∧ PSs T h' P tq tp (if spTx tp k = c then spPk tp (k + 1) else k) g ∧ (spTx tp k ≠ c → h' P 7 = (k : Int)) := by
  obtain ⟨h1, e1, e2, e3, e4, -, -, e5⟩ := c_peek hs
  have hl := hs.le
  unfold Pa_sign
  rw [e1]
  simp only [Option.bind_some]
  by_cases a : spTx tp k = c
  · rw [if_pos a, if_pos a, if_pos a, e3, pw (by omega) (by omega)]
    have hk : k < tp.length := spTx_lt (by rw [a]; exact hc0)
    have hfr : PFw P h1 (jup h1 P 7 ((k : Int) + 1)) := ⟨fun z hz => jup_ne hz, fun f _ _ f7 _ => ju_ne f7⟩
    exact ⟨_, rfl, e2.tr hfr, by rw [ju_ne (by decide)]; exact e4, e5.mv hfr (a := k + 1) (by rw [ju_eq]; rfl) hk (by rw [ju_ne (by decide)]; exact e4) (by rw [ju_ne (by decide)]) (by rw [ju_ne (by decide)]), fun h => absurd a h⟩
  · rw [if_neg a, if_neg a, if_neg a]
    exact ⟨h1, rfl, e2, e4, e5, fun _ => e3⟩
theorem c_fail {h : jH} {kd pl : Int} : Pa_fail h P kd pl = some (0, jup (jup h P 3 kd) P 4 pl) := rfl
/-- a fault is told -/
def PBad (P : Nat) (h : jH) (e : Int × Nat) : Prop := h P 3 = e.1 ∧ h P 4 = (e.2 : Int)
theorem c_failAt {h : jH} {e : Int × Nat} : ∃ h', Pa_fail h P e.1 (e.2 : Int) = some (0, h') ∧ PFw P h h' ∧ PBad P h' e := ⟨_, rfl, ⟨fun z hz => by rw [jup_ne hz, jup_ne hz], fun f f3 f4 _ _ => by rw [ju_ne f4, ju_ne f3]⟩, by rw [ju_ne (by decide), ju_eq], ju_eq⟩
theorem c_expect {h : jH} {c : Int} (hc0 : c ≠ -1) (hs : PSs T h P tq tp k g) : ∃ h', Pa_expect T h P c = some (if spTx tp k = c then 1 else 0, h') ∧ PFw P h h' ∧ (spTx tp k = c → PSs T h' P tq tp (spPk tp (k + 1)) g) ∧ (spTx tp k ≠ c → PBad P h' (1, k)) := by
  obtain ⟨h1, e1, e2, e3, e4, e5⟩ := c_sign hc0 hs
  unfold Pa_expect Pa_expect_p20
  rw [e1]
  simp only [Option.bind_some]
  by_cases a : spTx tp k = c
  · rw [if_pos a, if_neg (by decide)]
    rw [if_pos a] at e4
    exact ⟨h1, rfl, e2, fun _ => e4, fun h => absurd a h⟩
  · rw [if_neg a, if_pos rfl, e5 a]
    obtain ⟨h2, x1, x2, x3⟩ := c_failAt (P := P) (h := h1) (e := (1, k))
    rw [show Pa_fail h1 P 1 (k : Int) = _ from x1]
    exact ⟨h2, rfl, e2.tr x2, fun h => absurd h a, fun _ => x3⟩
theorem spLe_step {a : Nat} (h : spLt (spTx tp a) = true) : spLe tp a = spLe tp (a + 1) := by
  have hk : a < tp.length := spTx_lt (fun e => by rw [e] at h; exact absurd h (by decide))
  unfold spLe
  obtain ⟨f, hf⟩ : ∃ f, tp.length - a = f + 1 := ⟨tp.length - a - 1, by omega⟩
  rw [hf, show tp.length - (a + 1) = f by omega]
  show (if spLt (spTx tp a) = true then spLeN tp f (a + 1) else a) = _
  rw [if_pos h]
theorem spLe_stop {a : Nat} (h : spLt (spTx tp a) = false) : spLe tp a = a := by
  unfold spLe
  generalize tp.length - a = f
  cases f with
  | zero => rfl
  | succ f => show (if spLt (spTx tp a) = true then spLeN tp f (a + 1) else a) = a; rw [h, if_neg (by decide)]
theorem c_wordL {h : jH} {w : List Int} (hc : PTx T h P tq tp) : ∀ m a, m = tp.length - a → a ≤ tp.length → Pa_word_L10 T h P w (a : Int) = Pa_word_p44 T h P w (spLe tp a : Int) := by
  have h1600 := hc.2.2.2.2.1
  unfold Pa_word_L10
  intro m
  induction m with
  | zero =>
    intro a hm ha
    rw [spLe_stop (a := a) (by rw [spTx_no (by omega)]; rfl)]
    refine jloop_x ?_
    show Pa_word_B10 T h P w (a : Int) = _
    unfold Pa_word_B10
    rw [hc.2.2.2.1, if_neg (by omega)]
  | succ m ih =>
    intro a hm ha
    have hB : Pa_word_B10 T h P w (a : Int) = if spLt (spTx tp a) = true then some (.inl ((a + 1 : Nat) : Int)) else Option.map Sum.inr (Pa_word_p44 T h P w (a : Int)) := by
      unfold Pa_word_B10
      rw [hc.2.2.2.1, if_pos (by omega), c_oct8 hc]
      simp only [Option.bind_some]
      rw [pw (x := (a : Int) + 1) (by omega) (by omega)]
      unfold spLt
      by_cases c1 : spTx tp a < 97
      · rw [if_pos c1, decide_eq_false (by omega), Bool.false_and, if_neg (by decide)]
      · rw [if_neg c1, decide_eq_true (by omega), Bool.true_and]
        by_cases c2 : 122 < spTx tp a
        · rw [if_pos c2, decide_eq_false (by omega), if_neg (by decide)]
        · rw [if_neg c2, decide_eq_true (by omega), if_pos rfl]; rfl
    by_cases c : spLt (spTx tp a) = true
    · rw [if_pos c] at hB
      rw [spLe_step c]
      exact (jloop_l hB).trans (ih (a + 1) (by omega) (by omega))
    · rw [if_neg c] at hB
      rw [spLe_stop (Bool.eq_false_iff.mpr c)]
      exact jloop_x hB
theorem spTake_eq {w : List Int} {k : Nat} (hw : k + w.length ≤ tp.length) : (tp.drop k).take w.length = w ↔ ∀ i, i < w.length → spTx tp (k + i) = w.getD i 0 := by
  constructor
  · intro h i hi
    have h1 : ((tp.drop k).take w.length)[i]? = w[i]? := by rw [h]
    rw [List.getElem?_take, if_pos hi, List.getElem?_drop] at h1
    rw [List.getD_eq_getElem?_getD, ← h1]
    unfold spTx
    rw [List.getElem?_eq_getElem (by omega)]
    rfl
  · intro h
    apply List.ext_getElem?
    intro i
    rw [List.getElem?_take]
    by_cases hi : i < w.length
    · rw [if_pos hi, List.getElem?_drop]
      have := h i hi
      rw [List.getD_eq_getElem?_getD, List.getElem?_eq_getElem hi, Option.getD_some] at this
      rw [List.getElem?_eq_getElem hi, ← this, List.getElem?_eq_getElem (by omega), spTx_at (by omega)]
    · rw [if_neg hi, List.getElem?_eq_none (by omega)]
theorem c_word {h : jH} {w : List Int} (hw : 1 ≤ w.length ∧ w.length ≤ 20) (hs : PSs T h P tq tp k g) : ∃ h', Pa_word T h P w = some (if spWd tp g k w = true then 1 else 0, h') ∧ PFw P h h' ∧ (spWd tp g k w = true → PSs T h' P tq tp (spPk tp (k + w.length)) ((k + w.length : Nat) : Int) ∧ h' P 7 = ((k + w.length : Nat) : Int)) ∧ (spWd tp g k w = false → PSs T h' P tq tp k g ∧ h' P 7 = (k : Int)) := by
  obtain ⟨h1, e1, e2, e3, e4, -, -, e5⟩ := c_peek hs
  have hl := hs.le
  have hle := spLe_in (tp := tp) k
  unfold Pa_word
  rw [e1]
  simp only [Option.bind_some]
  rw [e3, c_wordL e5.1 _ k rfl hl.1]
  unfold Pa_word_p44
  rw [e3, e4]
  by_cases c0 : (k : Int) = g
  · have hwd : spWd tp g k w = false := by unfold spWd; rw [decide_eq_false (fun h => h c0)]; rfl
    rw [if_pos c0, hwd, if_neg (by decide)]
    exact ⟨h1, rfl, e2, fun h => absurd h (by decide), fun _ => ⟨e5, e3⟩⟩
  rw [if_neg c0, pw (by omega) (by omega)]
  by_cases c1 : spLe tp k = k + w.length
  rotate_left
  · have hwd : spWd tp g k w = false := by unfold spWd; rw [decide_eq_false c1, Bool.and_false]; rfl
    rw [if_neg (by omega), hwd, if_neg (by decide)]
    exact ⟨h1, rfl, e2, fun h => absurd h (by decide), fun _ => ⟨e5, e3⟩⟩
  rw [if_pos (by omega)]
  have hin : k + w.length ≤ tp.length := by rw [← c1]; exact hle.2 hl.1
  have hwd : spWd tp g k w = decide ((tp.drop k).take w.length = w) := by unfold spWd; rw [decide_eq_true c0, decide_eq_true c1]; rfl
  have key : ∀ m i, i + m = w.length → (∀ j, j < i → spTx tp (k + j) = w.getD j 0) → Pa_word_L72 T h1 P w (spLe tp k : Int) (i : Int) = if spWd tp g k w = true then some (1, jup (jup h1 P 7 (spLe tp k : Int)) P 8 (spLe tp k : Int)) else some (0, h1) := by
    unfold Pa_word_L72
    intro m
    induction m with
    | zero =>
      intro i hi hall
      rw [hwd, decide_eq_true ((spTake_eq hin).mpr (fun j hj => hall j (by omega))), if_pos rfl]
      refine jloop_r ?_
      show Pa_word_B72 T h1 P w (spLe tp k : Int) (i : Int) = _
      unfold Pa_word_B72
      rw [if_neg (by omega)]
      rfl
    | succ m ih =>
      intro i hi hall
      have hB : Pa_word_B72 T h1 P w (spLe tp k : Int) (i : Int) = if spTx tp (k + i) = w.getD i 0 then some (.inl ((i + 1 : Nat) : Int)) else some (.inr (0, h1)) := by
        unfold Pa_word_B72
        rw [if_pos (by omega), e3, pw (x := (k : Int) + (i : Int)) (by omega) (by omega), show (k : Int) + (i : Int) = ((k + i : Nat) : Int) by omega, c_oct8 e5.1]
        simp only [Option.bind_some]
        rw [if_pos (by omega), Int.toNat_natCast, pw (x := (i : Int) + 1) (by omega) (by omega)]
        by_cases c : spTx tp (k + i) = w.getD i 0
        · rw [if_pos c, if_pos c]; rfl
        · rw [if_neg c, if_neg c]; rfl
      by_cases c : spTx tp (k + i) = w.getD i 0
      · rw [if_pos c] at hB
        refine (jloop_l hB).trans (ih (i + 1) (by omega) (fun j hj => ?_))
        rcases Nat.lt_or_ge j i with a | a
        · exact hall j a
        · rw [show j = i by omega]; exact c
      · rw [if_neg c] at hB
        rw [hwd, decide_eq_false (fun e => c ((spTake_eq hin).mp e i (by omega))), if_neg (by decide)]
        exact jloop_r hB
  rw [show Pa_word_L72 T h1 P w (spLe tp k : Int) 0 = _ from key w.length 0 (by omega) (fun j hj => absurd hj (by omega))]
  by_cases c : spWd tp g k w = true
  · rw [if_pos c, if_pos c]
    have hfr : PFw P h1 (jup (jup h1 P 7 (spLe tp k : Int)) P 8 (spLe tp k : Int)) := ⟨fun z hz => by rw [jup_ne hz, jup_ne hz], fun f _ _ f7 f8 => by rw [ju_ne f8, ju_ne f7]⟩
    have h7 : (jup (jup h1 P 7 (spLe tp k : Int)) P 8 (spLe tp k : Int)) P 7 = ((k + w.length : Nat) : Int) := by rw [ju_ne (by decide), ju_eq, c1]
    exact ⟨_, rfl, e2.tr hfr, fun _ => ⟨e5.mv hfr h7 hin (by rw [ju_eq, c1]) (by rw [ju_ne (by decide), ju_ne (by decide)]) (by rw [ju_ne (by decide), ju_ne (by decide)]), h7⟩, fun h => absurd c (by rw [h]; decide)⟩
  · rw [if_neg c, if_neg c]
    exact ⟨h1, rfl, e2, fun h => absurd h c, fun _ => ⟨e5, e3⟩⟩
theorem c_xword {h : jH} {w : List Int} (hw : 1 ≤ w.length ∧ w.length ≤ 20) (hs : PSs T h P tq tp k g) : ∃ h', Pa_expectWord T h P w = some (if spWd tp g k w = true then 1 else 0, h') ∧ PFw P h h' ∧ (spWd tp g k w = true → PSs T h' P tq tp (spPk tp (k + w.length)) ((k + w.length : Nat) : Int)) ∧ (spWd tp g k w = false → PBad P h' (1, k)) := by
  obtain ⟨h1, e1, e2, e3, e4⟩ := c_word hw hs
  unfold Pa_expectWord Pa_expectWord_p20
  rw [e1]
  simp only [Option.bind_some]
  by_cases a : spWd tp g k w = true
  · rw [if_pos a, if_neg (by decide)]
    exact ⟨h1, rfl, e2, fun _ => (e3 a).1, fun h => absurd a (by rw [h]; decide)⟩
  · have a' : spWd tp g k w = false := Bool.eq_false_iff.mpr a
    rw [if_neg a, if_pos rfl, (e4 a').2]
    obtain ⟨h2, x1, x2, x3⟩ := c_failAt (P := P) (h := h1) (e := (1, k))
    rw [show Pa_fail h1 P 1 (k : Int) = _ from x1]
    exact ⟨h2, rfl, e2.tr x2, fun h => absurd h a, fun _ => x3⟩
theorem g_dig {c : Int} : Pa_isDigit c = some (if spDg c = true then 1 else 0) := by
  unfold Pa_isDigit Pa_isDigit_p16 spDg
  by_cases a : c < 48
  · rw [if_pos a, decide_eq_false (by omega), Bool.false_and, if_neg (by decide)]
  · rw [if_neg a, decide_eq_true (by omega), Bool.true_and]
    by_cases b : 57 < c
    · rw [if_pos b, decide_eq_false (by omega), if_neg (by decide)]
    · rw [if_neg b, decide_eq_true (by omega), if_pos rfl]
theorem c_numL {h0 : jH} {lo hi : Int} (hk0 : k ≤ tp.length) : ∀ f a (v : Int) (h : jH), f = 4 - (a - k) → k ≤ a → a ≤ k + 4 → a ≤ tp.length → PTx T h P tq tp → PFw P h0 h → h P 7 = (a : Int) → 0 ≤ v → v < 10 ^ (a - k) → ∃ h', Pa_number_L41 T h P lo hi (k : Int) v = some ((if (spNmN tp f a v).2.2 = true then -1 else if (spNmN tp f a v).2.1 < lo ∨ hi < (spNmN tp f a v).2.1 then -1 else (spNmN tp f a v).2.1), h') ∧ PFw P h0 h' ∧ ((spNmN tp f a v).2.2 = true → PBad P h' (1, (spNmN tp f a v).1)) ∧ ((spNmN tp f a v).2.2 = false → ((spNmN tp f a v).2.1 < lo ∨ hi < (spNmN tp f a v).2.1) → PBad P h' (2, k)) ∧ ((spNmN tp f a v).2.2 = false → ¬ ((spNmN tp f a v).2.1 < lo ∨ hi < (spNmN tp f a v).2.1) → h' P 7 = ((spNmN tp f a v).1 : Int) ∧ h' P 8 = ((spNmN tp f a v).1 : Int) ∧ h' P 3 = h P 3 ∧ h' P 4 = h P 4) := by
  unfold Pa_number_L41
  -- no digit any more
  have stop : ∀ a (v : Int) (h : jH), PFw P h0 h → h P 7 = (a : Int) → ∃ h', Pa_number_p120 T h P lo hi (k : Int) v = some ((if v < lo ∨ hi < v then -1 else v), h') ∧ PFw P h0 h' ∧ ((v < lo ∨ hi < v) → PBad P h' (2, k)) ∧ (¬ (v < lo ∨ hi < v) → h' P 7 = (a : Int) ∧ h' P 8 = (a : Int) ∧ h' P 3 = h P 3 ∧ h' P 4 = h P 4) := by
    intro a v h hf h7
    have hf1 : PFw P h (jup h P 8 (h P 7)) := ⟨fun z hz => jup_ne hz, fun f _ _ _ f8 => ju_ne f8⟩
    obtain ⟨h2, x1, x2, x3⟩ := c_failAt (P := P) (h := jup h P 8 (h P 7)) (e := (2, k))
    have x1' : Pa_fail (jup h P 8 (h P 7)) P 2 (k : Int) = some (0, h2) := x1
    unfold Pa_number_p120 Pa_number_p140
    rw [x1']
    simp only [Option.bind_some]
    by_cases c1 : v < lo
    · rw [if_pos c1, if_pos (Or.inl c1)]
      exact ⟨h2, rfl, hf.tr (hf1.tr x2), fun _ => x3, fun h => absurd (Or.inl c1) h⟩
    rw [if_neg c1]
    by_cases c2 : hi < v
    · rw [if_pos c2, if_pos (Or.inr c2)]
      exact ⟨h2, rfl, hf.tr (hf1.tr x2), fun _ => x3, fun h => absurd (Or.inr c2) h⟩
    rw [if_neg c2, if_neg (by omega)]
    exact ⟨_, rfl, hf.tr hf1, fun h => by omega, fun _ => ⟨by rw [ju_ne (by decide)]; exact h7, by rw [ju_eq]; exact h7, by rw [ju_ne (by decide)], by rw [ju_ne (by decide)]⟩⟩
  have hB : ∀ a (v : Int) (h : jH), k ≤ a → a ≤ k + 4 → a ≤ tp.length → PTx T h P tq tp → h P 7 = (a : Int) → 0 ≤ v → v ≤ 100000 → Pa_number_B41 T h P lo hi (k : Int) v = if spDg (spTx tp a) = true then (if a = k + 4 then Option.map Sum.inr (Option.bind (Pa_fail h P 1 (h P 7)) (fun b11 => some ((-1), b11.2))) else some (.inl (10 * v + spTx tp a - 48, jup h P 7 ((a + 1 : Nat) : Int)))) else Option.map Sum.inr (Pa_number_p120 T h P lo hi (k : Int) v) := by
    intro a v h hka ha4 hal hc h7 hv0 hv1
    have h1600 := hc.2.2.2.2.1
    have htx := hc.2.2.2.2.2.1.tx a
    unfold Pa_number_B41
    rw [h7, hc.2.2.2.1]
    by_cases c : a < tp.length
    rotate_left
    · rw [if_neg (by omega), spTx_no (by omega), if_neg (by decide)]
    rw [if_pos (by omega), c_oct8 hc]
    simp only [Option.bind_some]
    rw [g_dig]
    simp only [Option.bind_some]
    by_cases c1 : spDg (spTx tp a) = true
    rotate_left
    · rw [if_neg c1, if_pos rfl, if_neg c1]
    rw [if_pos c1, if_neg (by decide), if_pos c1, pw (x := (a : Int) - (k : Int)) (by omega) (by omega), pw (x := 10 * v) (by omega) (by omega), pw (x := 10 * v + spTx tp a) (by omega) (by omega), pw (x := 10 * v + spTx tp a - 48) (by omega) (by omega), pw (x := (a : Int) + 1) (by omega) (by omega)]
    by_cases c2 : a = k + 4
    · rw [if_pos (by omega), if_pos c2]
    · rw [if_neg (by omega), if_neg c2]; rfl
  intro f
  induction f with
  | zero =>
    intro a v h hf hka ha4 hal hc hfr h7 hv0 hv1
    have e4 : a = k + 4 := by omega
    have hv2 : v ≤ 100000 := by rw [e4, show k + 4 - k = 4 by omega] at hv1; omega
    have hb := hB a v h hka ha4 hal hc h7 hv0 hv2
    have hn : spNmN tp 0 a v = (a, v, spDg (spTx tp a)) := rfl
    rw [hn]
    dsimp only
    by_cases c1 : spDg (spTx tp a) = true
    · rw [if_pos c1, if_pos e4, h7] at hb
      rw [if_pos c1]
      obtain ⟨h2, x1, x2, x3⟩ := c_failAt (P := P) (h := h) (e := (1, a))
      rw [show Pa_fail h P 1 (a : Int) = _ from x1] at hb
      exact ⟨h2, jloop_r hb, hfr.tr x2, fun _ => x3, fun h => absurd c1 (by rw [h]; decide), fun h => absurd c1 (by rw [h]; decide)⟩
    · rw [if_neg c1] at hb
      rw [if_neg c1]
      obtain ⟨h2, x1, x2, x3, x4⟩ := stop a v h hfr h7
      exact ⟨h2, (jloop_x hb).trans x1, x2, fun h => absurd h c1, fun _ => x3, fun _ => x4⟩
  | succ f ih =>
    intro a v h hf hka ha4 hal hc hfr h7 hv0 hv1
    have hlt : a - k ≤ 3 := by omega
    have hv2 : v ≤ 10000 := by
      have : (10 : Int) ^ (a - k) ≤ 1000 := by
        have : a - k = 0 ∨ a - k = 1 ∨ a - k = 2 ∨ a - k = 3 := by omega
        rcases this with e | e | e | e <;> rw [e] <;> decide
      omega
    have hb := hB a v h hka ha4 hal hc h7 hv0 (by omega)
    by_cases c1 : spDg (spTx tp a) = true
    · have hn : spNmN tp (f + 1) a v = spNmN tp f (a + 1) (10 * v + spTx tp a - 48) := by
        conv => lhs; unfold spNmN
        rw [if_pos c1]
      rw [if_pos c1, if_neg (by omega)] at hb
      have hal2 : a < tp.length := spTx_lt (fun e => by rw [e] at c1; exact absurd c1 (by decide))
      have hf1 : PFw P h (jup h P 7 ((a + 1 : Nat) : Int)) := ⟨fun z hz => jup_ne hz, fun f _ _ f7 _ => ju_ne f7⟩
      have hdg : 48 ≤ spTx tp a ∧ spTx tp a ≤ 57 := by
        unfold spDg at c1
        rw [Bool.and_eq_true] at c1
        exact ⟨of_decide_eq_true c1.1, of_decide_eq_true c1.2⟩
      have hpow : (10 : Int) ^ (a + 1 - k) = 10 ^ (a - k) * 10 := by rw [show a + 1 - k = (a - k) + 1 by omega, Int.pow_succ]
      have hone : (1 : Int) ≤ 10 ^ (a - k) := by
        have : a - k = 0 ∨ a - k = 1 ∨ a - k = 2 ∨ a - k = 3 := by omega
        rcases this with e | e | e | e <;> rw [e] <;> decide
      rw [hn]
      obtain ⟨h2, x1, x2⟩ := ih (a + 1) (10 * v + spTx tp a - 48) (jup h P 7 ((a + 1 : Nat) : Int)) (by omega) (by omega) (by omega) hal2 (hc.fr hf1) (hfr.tr hf1) ju_eq (by omega) (by rw [hpow]; omega)
      exact ⟨h2, (jloop_l hb).trans x1, x2.1, x2.2.1, x2.2.2.1, fun e1 e2 => ⟨(x2.2.2.2 e1 e2).1, (x2.2.2.2 e1 e2).2.1, (x2.2.2.2 e1 e2).2.2.1.trans (ju_ne (by decide)), (x2.2.2.2 e1 e2).2.2.2.trans (ju_ne (by decide))⟩⟩
    · have hn : spNmN tp (f + 1) a v = (a, v, false) := by
        conv => lhs; unfold spNmN
        rw [if_neg c1]
      rw [if_neg c1] at hb
      rw [hn]
      dsimp only
      rw [if_neg (by decide)]
      obtain ⟨h2, x1, x2, x3, x4⟩ := stop a v h hfr h7
      exact ⟨h2, (jloop_x hb).trans x1, x2, fun h => absurd h (by decide), fun _ => x3, fun _ => x4⟩
theorem c_number {h : jH} {lo hi : Int} (hlo : 0 ≤ lo) (hs : PSs T h P tq tp k g) : ∃ h' v, Pa_number T h P lo hi = some (v, h') ∧ PFw P h h' ∧ (∀ e, spNum tp g k lo hi = .inl e → v = -1 ∧ PBad P h' e) ∧ (∀ x e, spNum tp g k lo hi = .inr (x, e) → v = x ∧ PSs T h' P tq tp (spPk tp e) (e : Int)) := by
  obtain ⟨h1, e1, e2, e3, e4, -, -, e5⟩ := c_peek hs
  have hl := hs.le
  unfold Pa_number
  rw [e1]
  simp only [Option.bind_some]
  rw [g_dig]
  simp only [Option.bind_some]
  obtain ⟨h2, x1, x2, x3⟩ := c_failAt (P := P) (h := h1) (e := (1, k))
  have x1' : Pa_fail h1 P 1 (k : Int) = some (0, h2) := x1
  unfold Pa_number_p21 spNum
  rw [e3, e4, x1']
  simp only [Option.bind_some]
  by_cases c0 : spDg (spTx tp k) = false ∨ (k : Int) = g
  · rw [if_pos c0]
    refine ⟨h2, -1, ?_, e2.tr x2, fun e he => ⟨rfl, by rw [← Sum.inl.inj he]; exact x3⟩, fun x e he => by cases he⟩
    rcases c0 with c | c
    · rw [c, if_pos (show (if false = true then (1 : Int) else 0) = 0 from rfl)]
    · rw [if_pos c]
      split <;> rfl
  rw [if_neg c0]
  have c1 : spDg (spTx tp k) = true := by
    cases c : spDg (spTx tp k)
    · exact absurd (Or.inl c) c0
    · rfl
  rw [if_pos c1, if_neg (by decide), if_neg (fun e => c0 (Or.inr e))]
  obtain ⟨h3, y1, y2, y3, y4, y5⟩ := c_numL (T := T) (P := P) (tq := tq) (k := k) (tp := tp) (lo := lo) (hi := hi) (h0 := h1) hl.1 4 k 0 h1 (by omega) (Nat.le_refl _) (by omega) hl.1 e5.1 PFw.rf e3 (by decide) (by rw [Nat.sub_self]; decide)
  rw [y1]
  by_cases d1 : (spNmN tp 4 k 0).2.2 = true
  · rw [if_pos d1, if_pos d1]
    exact ⟨h3, -1, rfl, e2.tr y2, fun e he => ⟨rfl, by rw [← Sum.inl.inj he]; exact y3 d1⟩, fun x e he => by cases he⟩
  have d1' : (spNmN tp 4 k 0).2.2 = false := Bool.eq_false_iff.mpr d1
  rw [if_neg d1, if_neg d1]
  by_cases d2 : (spNmN tp 4 k 0).2.1 < lo ∨ hi < (spNmN tp 4 k 0).2.1
  · rw [if_pos d2, if_pos d2]
    exact ⟨h3, -1, rfl, e2.tr y2, fun e he => ⟨rfl, by rw [← Sum.inl.inj he]; exact y4 d1' d2⟩, fun x e he => by cases he⟩
  rw [if_neg d2, if_neg d2]
  refine ⟨h3, _, rfl, e2.tr y2, fun e he => (by cases he), fun x e he => ?_⟩
  obtain ⟨rfl, rfl⟩ := Prod.mk.inj (Sum.inr.inj he)
  have h7 := y5 d1' d2
  exact ⟨rfl, e5.mv y2 h7.1 ((spNmN_in 4 k 0).2.2 hl.1) h7.2.1 h7.2.2.1 h7.2.2.2⟩
end PAR
