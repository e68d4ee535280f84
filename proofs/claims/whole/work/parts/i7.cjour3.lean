/-! the class reads a journal's text: shape, the statements -/
noncomputable def pZs (T : jT) (P f : Nat) (lo hi : Int) (w : List Int) (Y : jH → Option (Int × jH)) (h : jH) : Option (Int × jH) := Option.bind (Pa_expectWord T h P w) (fun b1 => (if b1.1 = 0 then some (0, b1.2) else Option.bind (jdyn (isX6 T) (b1.2 P 0)) (fun q3 => Option.bind (Pa_number T b1.2 P lo hi) (fun b4 => Option.bind (jdyn (isX6 T) ((jup b4.2 q3 f b4.1) P 0)) (fun q5 => (if ((jup b4.2 q3 f b4.1) q5 f) = (-1) then some (0, (jup b4.2 q3 f b4.1)) else Y (jup b4.2 q3 f b4.1)))))))
theorem pZs_eq {T : jT} {h : jH} {P : Nat} : Pa_shape T h P = pZs T P 0 2 4 spWjournal (pZs T P 1 2 4 spWblocks (pZs T P 2 16 32 spWbytes (fun h => some (1, h)))) h := rfl
/-- what reading the shape may change -/
def PFs (P pl : Nat) (h h' : jH) : Prop := (∀ z, z ≠ P → z ≠ pl → h' z = h z) ∧ (∀ f, f ≠ 3 → f ≠ 4 → f ≠ 7 → f ≠ 8 → h' P f = h P f) ∧ ∀ f, 3 ≤ f → h' pl f = h pl f
theorem PFs.tr {P pl : Nat} {h h1 h2 : jH} (a : PFs P pl h h1) (b : PFs P pl h1 h2) : PFs P pl h h2 := ⟨fun z x y => (b.1 z x y).trans (a.1 z x y), fun f x1 x2 x3 x4 => (b.2.1 f x1 x2 x3 x4).trans (a.2.1 f x1 x2 x3 x4), fun f x => (b.2.2 f x).trans (a.2.2 f x)⟩
section PJS
variable {T : jT} {P tq pl : Nat} {tp : List Int} {k : Nat} {g : Int} {p : spPn}
theorem c_zs {h : jH} {f : Nat} {lo hi : Int} {w : List Int} {Y : jH → Option (Int × jH)} (hT : isX6 T pl) (hd : P ≠ pl) (hq : tq ≠ pl) (hf : f < 3) (hlo : 0 ≤ lo) (hw : 1 ≤ w.length ∧ w.length ≤ 20) (h0 : h P 0 = (pl : Int)) (hs : PSs T h P tq tp k g) : ∃ h', PFs P pl h h' ∧ (∀ i, i ≠ f → h' pl i = h pl i) ∧ (∀ e, spNm tp lo hi (spAsk tp w (.inr (k, g))) = .inl e → pZs T P f lo hi w Y h = some (0, h') ∧ PBad P h' e) ∧ ∀ a k2 g2, spNm tp lo hi (spAsk tp w (.inr (k, g))) = .inr (a, k2, g2) → pZs T P f lo hi w Y h = Y h' ∧ PSs T h' P tq tp k2 g2 ∧ h' pl f = a := by
  obtain ⟨h1, a1, a2, a3, a4⟩ := c_xword hw hs
  have ea : spAsk tp w (.inr (k, g)) = if spWd tp g k w = true then .inr (spPk tp (k + w.length), ((k + w.length : Nat) : Int)) else .inl (1, k) := rfl
  have fs1 : PFs P pl h h1 := ⟨fun z z1 _ => a2.1 z z1, fun f x1 x2 x3 x4 => a2.2 f x1 x2 x3 x4, fun f _ => by rw [a2.1 pl (Ne.symm hd)]⟩
  unfold pZs
  rw [ea, a1, Option.bind_some]
  dsimp only
  by_cases c : spWd tp g k w = true
  rotate_left
  · rw [if_neg c, if_neg c, if_pos rfl]
    exact ⟨h1, fs1, fun i _ => by rw [a2.1 pl (Ne.symm hd)], fun e he => by cases he; exact ⟨rfl, a4 (Bool.eq_false_iff.mpr c)⟩, fun a k2 g2 he => (by cases he)⟩
  rw [if_pos c, if_pos c, if_neg (by decide)]
  have e10 : h1 P 0 = (pl : Int) := by rw [a2.2 0 (by decide) (by decide) (by decide) (by decide)]; exact h0
  obtain ⟨h2, v, b1, b2, b3, b4⟩ := c_number (lo := lo) (hi := hi) hlo (a3 c)
  have e20 : h2 P 0 = (pl : Int) := by rw [b2.2 0 (by decide) (by decide) (by decide) (by decide)]; exact e10
  have eP : (jup h2 pl f v) P = h2 P := jup_ne hd
  rw [e10, jdyn_at hT, Option.bind_some, b1, Option.bind_some]
  dsimp only
  rw [eP, e20, jdyn_at hT, Option.bind_some, ju_eq]
  have F := a2.tr b2
  have en : spNm tp lo hi (.inr (spPk tp (k + w.length), ((k + w.length : Nat) : Int))) = (match spNum tp ((k + w.length : Nat) : Int) (spPk tp (k + w.length)) lo hi with | .inl e => .inl e | .inr (v, e) => .inr (v, spPk tp e, (e : Int))) := rfl
  rw [en]
  refine ⟨jup h2 pl f v, ⟨fun z z1 z2 => by rw [jup_ne z2, F.1 z z1], fun i x1 x2 x3 x4 => by rw [eP]; exact F.2 i x1 x2 x3 x4, fun i hi => by rw [ju_ne (by omega), F.1 pl (Ne.symm hd)]⟩, fun i hi => by rw [ju_ne hi, F.1 pl (Ne.symm hd)], fun e he => ?_, fun a k2 g2 he => ?_⟩
  · cases hr : spNum tp ((k + w.length : Nat) : Int) (spPk tp (k + w.length)) lo hi with
    | inl e0 =>
      rw [hr] at he
      cases he
      obtain ⟨rfl, hb⟩ := b3 _ hr
      rw [if_pos rfl]
      exact ⟨rfl, by rw [eP]; exact hb.1, by rw [eP]; exact hb.2⟩
    | inr x => rw [hr] at he; cases he
  · cases hr : spNum tp ((k + w.length : Nat) : Int) (spPk tp (k + w.length)) lo hi with
    | inl e0 => rw [hr] at he; cases he
    | inr x =>
      obtain ⟨x, e⟩ := x
      rw [hr] at he
      cases he
      obtain ⟨rfl, s5, s6, s7⟩ := b4 _ _ hr
      have ok := spNum_ok hr
      rw [if_neg (by omega)]
      exact ⟨rfl, ⟨⟨by rw [eP]; exact s5.1, s5.2.1, s5.2.2.1, by rw [eP]; exact s5.2.2.2.1, s5.2.2.2.2.1, s5.2.2.2.2.2.1, fun j v hj => by rw [jup_ne hq]; exact s5.2.2.2.2.2.2 j v hj⟩, by rw [eP]; exact s6, by rw [eP]; exact s7⟩, ju_eq⟩
theorem c_shape {h : jH} (hT : isX6 T pl) (hd : P ≠ pl) (hq : tq ≠ pl) (h0 : h P 0 = (pl : Int)) (hs : PSs T h P tq tp (spPk tp 0) (-1)) : ∃ h' v, Pa_shape T h P = some (v, h') ∧ PFs P pl h h' ∧ (∀ e, spShp tp = .inl e → v = 0 ∧ PBad P h' e) ∧ ∀ k g a b c, spShp tp = .inr (k, g, a, b, c) → v = 1 ∧ PSs T h' P tq tp k g ∧ h' pl 0 = a ∧ h' pl 1 = b ∧ h' pl 2 = c := by
  rw [pZs_eq]
  obtain ⟨x1, x2⟩ := spShp_x (tp := tp)
  obtain ⟨h1, a1, a2, a3, a4⟩ := c_zs (f := 0) (lo := 2) (hi := 4) (w := spWjournal) (Y := pZs T P 1 2 4 spWblocks (pZs T P 2 16 32 spWbytes (fun h => some (1, h)))) hT hd hq (by decide) (by decide) (by decide) h0 hs
  have E1 : spX1 tp = spNm tp 2 4 (spAsk tp spWjournal (.inr (spPk tp 0, -1))) := rfl
  rw [← E1] at a3 a4
  cases r1 : spX1 tp with
  | inl e1 =>
    have E3 : spX3 tp = .inl e1 := by unfold spX3 spX2; rw [r1]; rfl
    obtain ⟨b1, b2⟩ := a3 e1 r1
    refine ⟨h1, 0, b1, a1, fun e he => ?_, fun k g a b c he => ?_⟩
    · have := x1 e he
      rw [E3] at this
      rw [← Sum.inl.inj this]
      exact ⟨rfl, b2⟩
    · obtain ⟨-, ⟨y, y1⟩, -⟩ := x2 k g a b c he
      rw [r1] at y1
      cases y1
  | inr z1 =>
  obtain ⟨v1, k1, g1⟩ := z1
  obtain ⟨b1, b2, b3⟩ := a4 v1 k1 g1 r1
  rw [b1]
  have h10 : h1 P 0 = (pl : Int) := by rw [a1.2.1 0 (by decide) (by decide) (by decide) (by decide)]; exact h0
  obtain ⟨h2, c1, c2, c3, c4⟩ := c_zs (f := 1) (lo := 2) (hi := 4) (w := spWblocks) (Y := pZs T P 2 16 32 spWbytes (fun h => some (1, h))) hT hd hq (by decide) (by decide) (by decide) h10 b2
  have E2 : spX2 tp = spNm tp 2 4 (spAsk tp spWblocks (.inr (k1, g1))) := by unfold spX2; rw [r1]; rfl
  rw [← E2] at c3 c4
  cases r2 : spX2 tp with
  | inl e1 =>
    have E3 : spX3 tp = .inl e1 := by unfold spX3; rw [r2]; rfl
    obtain ⟨d1, d2⟩ := c3 e1 r2
    refine ⟨h2, 0, d1, a1.tr c1, fun e he => ?_, fun k g a b c he => ?_⟩
    · have := x1 e he
      rw [E3] at this
      rw [← Sum.inl.inj this]
      exact ⟨rfl, d2⟩
    · obtain ⟨-, -, y, y1⟩ := x2 k g a b c he
      rw [r2] at y1
      cases y1
  | inr z2 =>
  obtain ⟨v2, k2, g2⟩ := z2
  obtain ⟨d1, d2, d3⟩ := c4 v2 k2 g2 r2
  rw [d1]
  have h20 : h2 P 0 = (pl : Int) := by rw [c1.2.1 0 (by decide) (by decide) (by decide) (by decide)]; exact h10
  obtain ⟨h3, e1, e2, e3, e4⟩ := c_zs (f := 2) (lo := 16) (hi := 32) (w := spWbytes) (Y := fun h => some (1, h)) hT hd hq (by decide) (by decide) (by decide) h20 d2
  have E3 : spX3 tp = spNm tp 16 32 (spAsk tp spWbytes (.inr (k2, g2))) := by unfold spX3; rw [r2]; rfl
  rw [← E3] at e3 e4
  cases r3 : spX3 tp with
  | inl e0 =>
    obtain ⟨f1, f2⟩ := e3 e0 r3
    refine ⟨h3, 0, f1, a1.tr (c1.tr e1), fun e he => ?_, fun k g a b c he => ?_⟩
    · have := x1 e he
      rw [r3] at this
      rw [← Sum.inl.inj this]
      exact ⟨rfl, f2⟩
    · have := (x2 k g a b c he).1
      rw [r3] at this
      cases this
  | inr z3 =>
  obtain ⟨v3, k3, g3⟩ := z3
  obtain ⟨f1, f2, f3⟩ := e4 v3 k3 g3 r3
  refine ⟨h3, 1, f1, a1.tr (c1.tr e1), fun e he => ?_, fun k g a b c he => ?_⟩
  · have := x1 e he
    rw [r3] at this
    cases this
  · obtain ⟨y1, ⟨y2, y3⟩, y4, y5⟩ := x2 k g a b c he
    rw [r3] at y1
    rw [r1] at y3
    rw [r2] at y5
    cases y1
    cases y3
    cases y5
    exact ⟨rfl, f2, by rw [e2 0 (by decide), c2 0 (by decide)]; exact b3, by rw [e2 1 (by decide)]; exact d3, f3⟩
theorem spStm_len {p2 : spPn} {k2 : Nat} {g2 : Int} (h : spStm tp k g p = .inr (k2, g2, p2)) : p2.2.2.2.length ≤ p.2.2.2.length + 1 := by
  unfold spStm at h
  split at h
  · rw [spPut_len h]; exact Nat.le_refl _
  split at h
  · unfold spNoi at h
    split at h
    · cases h
    · cases h; exact Nat.le_succ _
  split at h
  · unfold spClz at h
    split at h
    · cases h
    · split at h
      · cases h
      · cases h; exact Nat.le_succ _
  split at h
  · unfold spTak at h
    split at h
    · cases h
    · split at h
      · cases h
      · cases h; exact Nat.le_succ _
  · cases h
/-- the statements -/
theorem c_jnl (hT : isX6 T pl) (hd : P < pl ∨ pl + 11 < P) (hq : tq < pl ∨ pl + 11 < tq) : ∀ (f m k : Nat) (g : Int) (p : spPn) (h : jH), f + m = 41 → 1 ≤ m → m ≤ 40 → p.2.2.2.length + 1 ≤ m → PJ T h P tq pl tp k g p → ∃ h' v, Pa_readJournal_L24 T h P (m : Int) = some (v, h') ∧ PFj P pl h h' ∧ (∀ e, spJnl tp (f + 1) m k g p = .inl e → v = 0 ∧ PBad P h' e) ∧ ∀ n q, spJnl tp (f + 1) m k g p = .inr (n, q) → v = 1 ∧ h' pl 4 = (n : Int) ∧ ∃ k' g', PJ T h' P tq pl tp k' g' q := by
  intro f
  induction f with
  | zero => intro m k g p h hf h1 h2; omega
  | succ f ih =>
    intro m k g p h hf hm1 hm2 hpu hs
    obtain ⟨h1, a1, a2, a3, a4⟩ := c_expect (c := 59) (by decide) hs.1
    rw [spJnl_s]
    unfold spJnB
    by_cases c : spTx tp k = 59
    rotate_left
    · rw [if_neg c]
      rw [if_neg c] at a1
      refine ⟨h1, 0, ?_, a2.jj hd, fun e he => by rw [← Sum.inl.inj he]; exact ⟨rfl, a4 c⟩, fun n q he => (by cases he)⟩
      unfold Pa_readJournal_L24
      refine jloop_r ?_
      show Pa_readJournal_B24 T h P (m : Int) = _
      unfold Pa_readJournal_B24
      rw [if_neg (by omega), a1, Option.bind_some]
      dsimp only
      rw [if_pos rfl]
      rfl
    rw [if_pos c]
    rw [if_pos c] at a1
    have j1 := hs.w hd a2 (a3 c)
    obtain ⟨h2, hh2⟩ : ∃ h2 : jH, h2 = jup h1 pl 4 (m : Int) := ⟨_, rfl⟩
    have go : ∀ z, z ≠ pl → h2 z = h1 z := fun z hz => by rw [hh2, jup_ne hz]
    have gp : ∀ f, f ≠ 4 → h2 pl f = h1 pl f := fun f hf => by rw [hh2, ju_ne hf]
    have eP : h2 P = h1 P := go P (by omega)
    have j2 : PJ T h2 P tq pl tp (spPk tp (k + 1)) g p := by
      obtain ⟨⟨s5, s6, s7⟩, w1, ⟨m1, m2⟩, ⟨m3, m4⟩, m5, m6, m7⟩ := j1
      exact ⟨⟨⟨by rw [eP]; exact s5.1, s5.2.1, s5.2.2.1, by rw [eP]; exact s5.2.2.2.1, s5.2.2.2.2.1, s5.2.2.2.2.2.1, fun j v hj => by rw [go tq (by omega)]; exact s5.2.2.2.2.2.2 j v hj⟩, by rw [eP]; exact s6, by rw [eP]; exact s7⟩, by rw [eP]; exact w1, ⟨by rw [gp 5 (by decide)]; exact m1, m2.eq (by rw [go _ (by omega)]) (go _ (by omega))⟩, ⟨by rw [gp 6 (by decide)]; exact m3, m4.eq (by rw [go _ (by omega)]) (go _ (by omega))⟩, by rw [gp 3 (by decide)]; exact m5, by rw [gp 12 (by decide)]; exact m6, fun i v hv => by rw [go (pl + 9) (by omega), go (pl + 10) (by omega), go (pl + 11) (by omega)]; exact m7 i v hv⟩
    have F2 : PFj P pl h h2 := (a2.jj hd).tr ⟨fun z z1 z2 => go z (by omega), fun f _ _ _ _ _ _ _ => by rw [eP], fun f hf => gp f (by omega)⟩
    obtain ⟨h3, b1, b2, b3, -, -, -, b5⟩ := c_peek j2.1
    have j3 := j2.w hd b2 b5
    have F3 := F2.tr (b2.jj hd)
    have e34 : h3 pl 4 = (m : Int) := by rw [b2.1 pl (by omega), hh2, ju_eq]
    have hB : Pa_readJournal_B24 T h P (m : Int) = (if spTx tp (spPk tp (k + 1)) = (-1) then Option.map Sum.inr (some (1, h3)) else (if (m : Int) = 40 then Option.map Sum.inr (Option.bind (Pa_fail h3 P 5 (h3 P 7)) (fun b13 => (if b13.1 = 0 ∨ b13.1 = 1 then some (b13.1, b13.2) else none))) else Option.bind (Pa_statement T h3 P) (fun b15 => (if b15.1 = 0 then Option.map Sum.inr (some (0, b15.2)) else some (.inl ((wr ((m : Int) + 1)), b15.2)))))) := by
      unfold Pa_readJournal_B24
      rw [if_neg (by omega), a1, Option.bind_some]
      dsimp only
      rw [if_neg (by decide), j1.dyn hT, Option.bind_some, ← hh2, b1, Option.bind_some]
    unfold Pa_readJournal_L24
    by_cases c2 : spTx tp (spPk tp (k + 1)) = -1
    · rw [if_pos c2]
      rw [if_pos c2] at hB
      refine ⟨h3, 1, jloop_x (X := some (1, h3)) hB, F3, fun e he => (by cases he), fun n q he => ?_⟩
      cases he
      exact ⟨rfl, e34, _, _, j3⟩
    rw [if_neg c2]
    rw [if_neg c2] at hB
    by_cases c3 : m = 40
    · rw [if_pos c3]
      obtain ⟨h4, x1, x2, x3⟩ := c_failAt (P := P) (h := h3) (e := (5, spPk tp (k + 1)))
      rw [if_pos (by omega), b3, show Pa_fail h3 P 5 (spPk tp (k + 1) : Int) = _ from x1, Option.bind_some] at hB
      dsimp only at hB
      rw [if_pos (Or.inl rfl)] at hB
      exact ⟨h4, 0, jloop_x (X := some (0, h4)) hB, F3.tr (x2.jj hd), fun e he => by rw [← Sum.inl.inj he]; exact ⟨rfl, x3⟩, fun n q he => (by cases he)⟩
    rw [if_neg c3]
    rw [if_neg (by omega)] at hB
    obtain ⟨h4, v, d1, d2, d3, d4⟩ := c_stm hT hd hq (by omega) j3
    rw [d1, Option.bind_some] at hB
    dsimp only at hB
    cases hr : spStm tp (spPk tp (k + 1)) g p with
    | inl e0 =>
      obtain ⟨rfl, hb⟩ := d3 e0 hr
      rw [if_pos rfl] at hB
      exact ⟨h4, 0, jloop_x (X := some (0, h4)) hB, F3.tr d2, fun e he => by rw [← Sum.inl.inj he]; exact ⟨rfl, hb⟩, fun n q he => (by cases he)⟩
    | inr x =>
      obtain ⟨k2, g2, p2⟩ := x
      obtain ⟨rfl, j4⟩ := d4 k2 g2 p2 hr
      have hlen := spStm_len hr
      rw [if_neg (by decide), pw (x := (m : Int) + 1) (by omega) (by omega)] at hB
      obtain ⟨h5, v, y1, y2, y3⟩ := ih (m + 1) k2 g2 p2 h4 (by omega) (by omega) (by omega) (by omega) j4
      refine ⟨h5, v, (jloop_l (s' := ((((m + 1 : Nat)) : Int), h4)) ?_).trans y1, F3.tr (d2.tr y2), y3⟩
      exact hB
end PJS
