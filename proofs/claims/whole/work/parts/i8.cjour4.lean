/-! the class reads a journal's text: from its call on -/
section PJU
variable {T : jT} {P tq pl : Nat} {tp : List Int}
theorem c_becL {fo : Nat} {K : List Int} (hK : K.length ≤ 1600) : ∀ r j (h : jH), r + j = K.length → CFm h fo (K.take j) → ∃ h', Fo_become_L7 h fo (K.map spTr) (j : Int) = some h' ∧ (∀ z, z ≠ fo → z ≠ fo + 1 → h' z = h z) ∧ (∀ f, f ≠ 1 → h' fo f = h fo f) ∧ CFm h' fo K := by
  unfold Fo_become_L7
  intro r
  induction r with
  | zero =>
    intro j h hr hs
    refine ⟨h, jloop_r ?_, fun _ _ _ => rfl, fun _ _ => rfl, by rw [List.take_of_length_le (by omega)] at hs; exact hs⟩
    show Fo_become_B7 h fo (K.map spTr) (j : Int) = _
    unfold Fo_become_B7
    rw [List.length_map, if_neg (by omega)]
    rfl
  | succ r ih =>
    intro j h hr hs
    have hj : j < K.length := by omega
    obtain ⟨h1, e1, e2, e3, e4⟩ := c_emit (c := K[j]) hs (by rw [List.length_take]; omega)
    have ht : K.take j ++ [K[j]] = K.take (j + 1) := (List.take_succ_eq_append_getElem hj).symm
    rw [ht] at e4
    obtain ⟨h', y1, y2, y3, y4⟩ := ih (j + 1) h1 (by omega) e4
    refine ⟨h', (jloop_l (s' := ((((j + 1 : Nat)) : Int), h1)) ?_).trans y1, fun z z1 z2 => (y2 z z1 z2).trans (e2 z z1 z2), fun f hf => (y3 f hf).trans (e3 f hf), y4⟩
    show Fo_become_B7 h fo (K.map spTr) (j : Int) = _
    unfold Fo_become_B7
    have hg : (K.map spTr).getD j 0 = spTr K[j] := by rw [List.getD_eq_getElem?_getD, List.getElem?_map, List.getElem?_eq_getElem hj]; rfl
    rw [List.length_map, if_pos (by omega), if_pos (by omega), Int.toNat_natCast, hg, e1, Option.bind_some, pw (by omega) (by omega)]
    rfl
theorem c_become {fo : Nat} {h : jH} {K : List Int} (hK : K.length ≤ 1600) : ∃ h', Fo_become h fo (K.map spTr) = some h' ∧ (∀ z, z ≠ fo → z ≠ fo + 1 → h' z = h z) ∧ (∀ f, f ≠ 1 → h' fo f = h fo f) ∧ CFm h' fo K := by
  obtain ⟨h', y1, y2, y3, y4⟩ := c_becL (fo := fo) hK K.length 0 (jup h fo 1 0) rfl ⟨ju_eq, Nat.zero_le _, fun i c hc => by cases hc⟩
  exact ⟨h', y1, fun z z1 z2 => (y2 z z1 z2).trans (jup_ne z1), fun f hf => (y3 f hf).trans (ju_ne hf), y4⟩
theorem spCl0_tr : ([10001, 3, 30003, 10003, 4, 30003, 30000] : List Int) = spCl0.map spTr := by decide
theorem spTk0_tr : ([1, 10002, 16, 30008, 30005] : List Int) = spTk0.map spTr := by decide
theorem c_clear {h : jH} : ∃ h', Pl_clear h pl = some h' ∧ (∀ z, (z < pl ∨ pl + 11 < z) → h' z = h z) ∧ (∀ f, f < 3 → h' pl f = h pl f) ∧ PDr h' pl (none, none, 0, []) := by
  obtain ⟨h1, hh1⟩ : ∃ h1 : jH, h1 = jup (jup (jup (jup (jup h pl 3 0) pl 4 0) pl 12 0) pl 5 0) pl 6 0 := ⟨_, rfl⟩
  have go : ∀ z, z ≠ pl → h1 z = h z := fun z hz => by rw [hh1, jup_ne hz, jup_ne hz, jup_ne hz, jup_ne hz, jup_ne hz]
  obtain ⟨h2, a1, a2, a3, a4⟩ := c_become (fo := pl + 1) (h := h1) (K := spCl0) (by decide)
  obtain ⟨h3, b1, b2, b3, b4⟩ := c_become (fo := pl + 5) (h := h2) (K := spTk0) (by decide)
  have ep : h3 pl = h1 pl := by rw [b2 pl (by omega) (by omega), a2 pl (by omega) (by omega)]
  refine ⟨h3, ?_, fun z hz => by rw [b2 z (by omega) (by omega), a2 z (by omega) (by omega), go z (by omega)], fun f hf => by rw [ep, hh1, ju_ne (by omega), ju_ne (by omega), ju_ne (by omega), ju_ne (by omega), ju_ne (by omega)], ⟨?_, a4.eq (by rw [b2 _ (by omega) (by omega)]) (b2 _ (by omega) (by omega))⟩, ⟨?_, b4⟩, ?_, ?_, fun i v hv => by cases hv⟩
  · unfold Pl_clear
    rw [spCl0_tr, spTk0_tr, ← hh1, a1, Option.bind_some, b1, Option.bind_some]
  · rw [ep, hh1, ju_ne (by decide), ju_eq]
  · rw [ep, hh1, ju_eq]
  · rw [ep, hh1, ju_ne (by decide), ju_ne (by decide), ju_ne (by decide), ju_ne (by decide), ju_eq]
  · rw [ep, hh1, ju_ne (by decide), ju_ne (by decide), ju_eq]; rfl
/-- what reading a journal's text may change: parser and draft -/
def PFd (P pl : Nat) (h h' : jH) : Prop := (∀ z, z ≠ P → (z < pl ∨ pl + 11 < z) → h' z = h z) ∧ h' P 0 = h P 0
theorem PFd.tr {h h1 h2 : jH} (a : PFd P pl h h1) (b : PFd P pl h1 h2) : PFd P pl h h2 := ⟨fun z x y => (b.1 z x y).trans (a.1 z x y), b.2.trans a.2⟩
theorem c_readJ {h : jH} (hT : isX6 T pl) (hA : T.1[tq]? = some (20, 1600)) (hd : P < pl ∨ pl + 11 < P) (hq : tq < pl ∨ pl + 11 < tq) (hPq : tq ≠ P) (h0 : h P 0 = (pl : Int)) (hl : tp.length ≤ 1600) (hby : spByt tp) (hc : ∀ (j : Nat) (v : Int), tp[j]? = some v → h tq j = v) : ∃ h' v, Pa_readJournal T h P tq 1600 (tp.length : Int) = some (v, h') ∧ PFd P pl h h' ∧ (∀ e, spJour tp = .inl e → v = 0 ∧ PBad P h' e) ∧ ∀ a b c n q, spJour tp = .inr ((a, b, c), n, q) → v = 1 ∧ h' pl 0 = a ∧ h' pl 1 = b ∧ h' pl 2 = c ∧ h' pl 4 = (n : Int) ∧ ∃ k g, PJ T h' P tq pl tp k g q := by
  have hPp : P ≠ pl := by omega
  obtain ⟨h1, hh1⟩ : ∃ h1 : jH, h1 = jup (jup (jup (jup (jup (jup h P 5 (Int.ofNat tq)) P 6 (min (tp.length : Int) ((1600 : Nat) : Int))) P 7 0) P 8 (-1)) P 3 0) P 4 (-1) := ⟨_, rfl⟩
  have go1 : ∀ z, z ≠ P → h1 z = h z := fun z hz => by rw [hh1, jup_ne hz, jup_ne hz, jup_ne hz, jup_ne hz, jup_ne hz, jup_ne hz]
  have e0 : h1 P 0 = (pl : Int) := by rw [hh1, ju_ne (by decide), ju_ne (by decide), ju_ne (by decide), ju_ne (by decide), ju_ne (by decide), ju_ne (by decide)]; exact h0
  have e5 : h1 P 5 = (tq : Int) := by rw [hh1, ju_ne (by decide), ju_ne (by decide), ju_ne (by decide), ju_ne (by decide), ju_ne (by decide), ju_eq]; rfl
  have e6 : h1 P 6 = (tp.length : Int) := by rw [hh1, ju_ne (by decide), ju_ne (by decide), ju_ne (by decide), ju_ne (by decide), ju_eq]; omega
  have e7 : h1 P 7 = 0 := by rw [hh1, ju_ne (by decide), ju_ne (by decide), ju_ne (by decide), ju_eq]
  have e8 : h1 P 8 = -1 := by rw [hh1, ju_ne (by decide), ju_ne (by decide), ju_eq]
  have e3 : h1 P 3 = 0 := by rw [hh1, ju_ne (by decide), ju_eq]
  have e4 : h1 P 4 = -1 := by rw [hh1, ju_eq]
  obtain ⟨h2, a1, a2, a3, a4⟩ := c_clear (pl := pl) (h := h1)
  have eP : h2 P = h1 P := a2 P hd
  have s2 : PSs T h2 P tq tp (spPk tp 0) (-1) := ⟨⟨by rw [eP]; exact e5, hA, hPq, by rw [eP]; exact e6, hl, hby, fun j v hv => by rw [a2 tq hq, go1 tq hPq]; exact hc j v hv⟩, ⟨0, by rw [eP]; exact e7, Nat.zero_le _, rfl, by rw [eP]; exact e3, by rw [eP]; exact e4⟩, by rw [eP]; exact e8⟩
  have F2 : PFd P pl h h2 := ⟨fun z z1 z2 => by rw [a2 z z2, go1 z z1], by rw [eP, e0, h0]⟩
  obtain ⟨h3, v, b1, b2, b3, b4⟩ := c_shape hT hPp (by omega) (by rw [eP]; exact e0) s2
  have F3 := F2.tr (⟨fun z z1 z2 => b2.1 z z1 (by omega), b2.2.1 0 (by decide) (by decide) (by decide) (by decide)⟩ : PFd P pl h2 h3)
  have hstart : Pa_readJournal T h P tq 1600 (tp.length : Int) = Option.bind (Pa_shape T h2 P) (fun b4 => (if b4.1 = 0 then some (0, b4.2) else Pa_readJournal_L24 T b4.2 P 1)) := by
    unfold Pa_readJournal Pa_begin
    rw [Option.bind_some, ← hh1, e0, jdyn_at hT, Option.bind_some, a1, Option.bind_some]
  rw [hstart, b1, Option.bind_some]
  dsimp only
  unfold spJour
  cases hr : spShp tp with
  | inl e1 =>
    obtain ⟨rfl, hb⟩ := b3 e1 hr
    rw [if_pos rfl]
    exact ⟨h3, 0, rfl, F3, fun e he => by rw [← Sum.inl.inj he]; exact ⟨rfl, hb⟩, fun a b c n q he => (by cases he)⟩
  | inr x =>
  obtain ⟨k, g, a, b, c⟩ := x
  obtain ⟨rfl, s3, x0, x1, x2⟩ := b4 k g a b c hr
  rw [if_neg (by decide)]
  dsimp only
  have d3 : PDr h3 pl (none, none, 0, []) := by
    obtain ⟨⟨m1, m2⟩, ⟨m3, m4⟩, m5, m6, m7⟩ := a4
    exact ⟨⟨by rw [b2.2.2 5 (by decide)]; exact m1, m2.eq (by rw [b2.1 _ (by omega) (by omega)]) (b2.1 _ (by omega) (by omega))⟩, ⟨by rw [b2.2.2 6 (by decide)]; exact m3, m4.eq (by rw [b2.1 _ (by omega) (by omega)]) (b2.1 _ (by omega) (by omega))⟩, by rw [b2.2.2 3 (by decide)]; exact m5, by rw [b2.2.2 12 (by decide)]; exact m6, fun i v hv => by cases hv⟩
  have j3 : PJ T h3 P tq pl tp k g (none, none, 0, []) := ⟨s3, by rw [F3.2]; exact h0, d3⟩
  obtain ⟨h4, v, y1, y2, y3, y4⟩ := c_jnl hT hd hq 40 1 k g (none, none, 0, []) h3 (by decide) (by decide) (by decide) (by show 0 + 1 ≤ 1; decide) j3
  refine ⟨h4, v, y1, F3.tr ⟨y2.1, y2.2.1 0 (by decide) (by decide) (by decide) (by decide) (by decide) (by decide) (by decide)⟩, fun e he => ?_, fun a' b' c' n q he => ?_⟩
  · cases hq2 : spJnl tp 41 1 k g (none, none, 0, []) with
    | inl e1 => rw [hq2] at he; cases he; exact y3 _ hq2
    | inr y => rw [hq2] at he; cases he
  · cases hq2 : spJnl tp 41 1 k g (none, none, 0, []) with
    | inl e1 => rw [hq2] at he; cases he
    | inr y =>
      obtain ⟨n', q'⟩ := y
      rw [hq2] at he
      cases he
      obtain ⟨z1, z2, z3⟩ := y4 _ _ hq2
      exact ⟨z1, by rw [y2.2.2 0 (by decide)]; exact x0, by rw [y2.2.2 1 (by decide)]; exact x1, by rw [y2.2.2 2 (by decide)]; exact x2, z2, z3⟩
end PJU
