/-! the class reads a journal's text: a statement -/
section PJO
variable {T : jT} {P tq pl : Nat} {tp : List Int} {k : Nat} {g : Int} {p : spPn}
/-- a formula's place is made ready -/
theorem c_aimAt {h : jH} {fo md : Nat} (h2 : isX2 T fo) (hd : fo ≠ P ∧ fo + 1 ≠ P ∧ fo ≠ tq ∧ fo + 1 ≠ tq) (hs : PSs T h P tq tp k g) : ∃ h', Pa_aim T h P fo (md : Int) = some h' ∧ (∀ z, z ≠ P → z ≠ fo → h' z = h z) ∧ (∀ f, f ≠ 9 → f ≠ 10 → f ≠ 11 → h' P f = h P f) ∧ (∀ f, f ≠ 1 → h' fo f = h fo f) ∧ PSt T h' P tq tp fo md k g 0 [] := by
  have hfo : fo ≠ P := hd.1
  obtain ⟨h1, hh1⟩ : ∃ h1 : jH, h1 = jup (jup (jup (jup h P 9 (Int.ofNat fo)) fo 1 0) P 10 (md : Int)) P 11 0 := ⟨_, rfl⟩
  have go : ∀ z, z ≠ P → z ≠ fo → h1 z = h z := fun z z1 z2 => by rw [hh1, jup_ne z1, jup_ne z1, jup_ne z2, jup_ne z1]
  have gP : ∀ f, f ≠ 9 → f ≠ 10 → f ≠ 11 → h1 P f = h P f := fun f f1 f2 f3 => by rw [hh1, ju_ne f3, ju_ne f2, jup_ne (Ne.symm hfo), ju_ne f1]
  have gf : ∀ f, f ≠ 1 → h1 fo f = h fo f := fun f hf => by rw [hh1, jup_ne hfo, jup_ne hfo, ju_ne hf, jup_ne hfo]
  obtain ⟨s5, s6, s7⟩ := hs
  refine ⟨h1, ?_, go, gP, gf, ⟨⟨by rw [gP 5 (by decide) (by decide) (by decide)]; exact s5.1, s5.2.1, s5.2.2.1, by rw [gP 6 (by decide) (by decide) (by decide)]; exact s5.2.2.2.1, s5.2.2.2.2.1, s5.2.2.2.2.2.1, fun j v hj => by rw [go tq s5.2.2.1 (Ne.symm hd.2.2.1)]; exact s5.2.2.2.2.2.2 j v hj⟩, by rw [gP 7 (by decide) (by decide) (by decide), gP 3 (by decide) (by decide) (by decide), gP 4 (by decide) (by decide) (by decide)]; exact s6, by rw [gP 8 (by decide) (by decide) (by decide)]; exact s7⟩, ⟨⟨?_, h2, ?_, hd⟩, ?_, ?_, Nat.zero_le _, fun i c hc => by cases hc⟩, Nat.zero_le _⟩
  · unfold Pa_aim Fo_clear
    rw [ju_eq, show Int.ofNat fo = (fo : Int) from rfl, jdyn_at h2, Option.bind_some, Option.bind_some, hh1]
    rfl
  · rw [hh1, ju_ne (by decide), ju_ne (by decide), jup_ne (Ne.symm hfo), ju_eq]; rfl
  · rw [hh1, ju_ne (by decide), ju_eq]
  · rw [hh1, ju_eq]; rfl
  · rw [hh1, jup_ne hfo, jup_ne hfo, ju_eq]; rfl
/-- a formula of the plan is read -/
theorem c_codes {h : jH} {fd fo md : Nat} {X : jH → Option (Int × jH)} {R : spF} (hR : PRd T P tq tp fo md 0 X R) (hT : isX6 T pl) (hd : P < pl ∨ pl + 11 < P) (hq : tq < pl ∨ pl + 11 < tq) (hw : fd = 5 ∧ fo = pl + 1 ∧ md = 0 ∨ fd = 6 ∧ fo = pl + 5 ∧ md = 1) (hs : PJ T h P tq pl tp k g p) : ∃ h1 h' v, Pa_aim T (jup h pl fd 1) P fo (md : Int) = some h1 ∧ X h1 = some (v, h') ∧ PFj P pl h h' ∧ (v = 0 ∨ v = 1) ∧ (∀ e, R k g = .inl e → v = 0 ∧ PBad P h' e) ∧ ∀ k2 g2 K, R k g = .inr (k2, g2, K) → v = 1 ∧ PJ T h' P tq pl tp k2 g2 (if md = 0 then (some K, p.2) else (p.1, some K, p.2.2)) := by
  have h2 : isX2 T fo := by rcases hw with ⟨-, rfl, -⟩ | ⟨-, rfl, -⟩; exact hT.2.2.1; exact hT.2.2.2.2.1
  have hplP : pl ≠ P := by omega
  have s0 : PSs T (jup h pl fd 1) P tq tp k g := by
    obtain ⟨s5, s6, s7⟩ := hs.1
    have eP : (jup h pl fd 1) P = h P := jup_ne (Ne.symm hplP)
    exact ⟨⟨by rw [eP]; exact s5.1, s5.2.1, s5.2.2.1, by rw [eP]; exact s5.2.2.2.1, s5.2.2.2.2.1, s5.2.2.2.2.2.1, fun j v hj => by rw [jup_ne (by omega)]; exact s5.2.2.2.2.2.2 j v hj⟩, by rw [eP]; exact s6, by rw [eP]; exact s7⟩
  obtain ⟨h1, a1, a2, a3, a4, a5⟩ := c_aimAt (md := md) h2 (by omega) s0
  obtain ⟨h', v, b1, ⟨b2, b3, b4⟩, b5, b6⟩ := hR h1 k g [] a5
  have hP' : ∀ f, f ≠ 3 → f ≠ 4 → f ≠ 7 → f ≠ 8 → f ≠ 9 → f ≠ 10 → f ≠ 11 → h' P f = h P f := fun f x1 x2 x3 x4 x5 x6 x7 => by rw [b3 f x1 x2 x3 x4 x7, a3 f x5 x6 x7, jup_ne (Ne.symm hplP)]
  have hz : ∀ z, z ≠ P → z ≠ pl → z ≠ fo → z ≠ fo + 1 → h' z = h z := fun z z1 z2 z3 z4 => by rw [b2 z z1 z3 z4, a2 z z1 z3, jup_ne z2]
  have hpl : ∀ f, h' pl f = (jup h pl fd 1) pl f := fun f => by rw [b2 pl hplP (by omega) (by omega), a2 pl hplP (by omega)]
  have hfj : PFj P pl h h' := ⟨fun z z1 z2 => hz z z1 (by omega) (by omega) (by omega), hP', fun f hf => by rw [hpl, ju_ne (by omega)]⟩
  have hfo : ∀ f, f ≠ 1 → h' fo f = h fo f := fun f hf => by rw [b4 f hf, a4 f hf, jup_ne (by omega)]
  refine ⟨h1, h', v, a1, b1, hfj, ?_, b5, fun k2 g2 K he => ?_⟩
  · cases hr : R k g with
    | inl e => exact Or.inl (b5 e hr).1
    | inr x => obtain ⟨k2, g2, K⟩ := x; exact Or.inr (b6 k2 g2 K hr).1
  · obtain ⟨c1, c2⟩ := b6 k2 g2 K he
    rw [List.nil_append] at c2
    refine ⟨c1, c2.1, by rw [hP' 0 (by decide) (by decide) (by decide) (by decide) (by decide) (by decide) (by decide)]; exact hs.2.1, ?_⟩
    obtain ⟨⟨m1, m2⟩, ⟨m3, m4⟩, m5, m6, m7⟩ := hs.2.2
    have hputs : ∀ (i : Nat) (v : Int × Int × Int), p.2.2.2[i]? = some v → h' (pl + 9) i = v.1 ∧ h' (pl + 10) i = v.2.1 ∧ h' (pl + 11) i = v.2.2 := fun i v hv => by rw [hz (pl + 9) (by omega) (by omega) (by omega) (by omega), hz (pl + 10) (by omega) (by omega) (by omega) (by omega), hz (pl + 11) (by omega) (by omega) (by omega) (by omega)]; exact m7 i v hv
    rcases hw with ⟨rfl, rfl, rfl⟩ | ⟨rfl, rfl, rfl⟩
    · rw [if_pos rfl]
      exact ⟨⟨by rw [hpl, ju_eq], c2.2.1.2.2⟩, ⟨by rw [hpl, ju_ne (by decide)]; exact m3, m4.eq (by rw [hz _ (by omega) (by omega) (by omega) (by omega)]) (hz _ (by omega) (by omega) (by omega) (by omega))⟩, by rw [hpl, ju_ne (by decide)]; exact m5, by rw [hpl, ju_ne (by decide)]; exact m6, hputs⟩
    · rw [if_neg (by decide)]
      exact ⟨⟨by rw [hpl, ju_ne (by decide)]; exact m1, m2.eq (by rw [hz _ (by omega) (by omega) (by omega) (by omega)]) (hz _ (by omega) (by omega) (by omega) (by omega))⟩, ⟨by rw [hpl, ju_eq], c2.2.1.2.2⟩, by rw [hpl, ju_ne (by decide)]; exact m5, by rw [hpl, ju_ne (by decide)]; exact m6, hputs⟩
/-- a statement -/
theorem c_stm {h : jH} (hT : isX6 T pl) (hd : P < pl ∨ pl + 11 < P) (hq : tq < pl ∨ pl + 11 < tq) (hp : p.2.2.2.length ≤ 39) (hs : PJ T h P tq pl tp k g p) : ∃ h' v, Pa_statement T h P = some (v, h') ∧ PFj P pl h h' ∧ (∀ e, spStm tp k g p = .inl e → v = 0 ∧ PBad P h' e) ∧ ∀ k2 g2 p2, spStm tp k g p = .inr (k2, g2, p2) → v = 1 ∧ PJ T h' P tq pl tp k2 g2 p2 := by
  obtain ⟨h0, z1, z2, z3, -, -, -, z4⟩ := c_peek hs.1
  have j0 := hs.w hd z2 z4
  unfold Pa_statement
  rw [z1, Option.bind_some]
  dsimp only
  rw [z3]
  obtain ⟨h1, a1, a2, a3, a4⟩ := c_word (w := spWput) (by decide) z4
  rw [show Pa_word T h0 P [112, 117, 116] = _ from a1, Option.bind_some]
  dsimp only
  unfold spStm
  cases c0 : spWd tp g k spWput with
  | true =>
    rw [if_neg (show ¬ (if true = true then (1 : Int) else 0) = 0 by decide), if_pos (show true = true from rfl)]
    obtain ⟨h2, v, b1, b2, b3, b4⟩ := c_record hT hd hq hp (j0.w hd a2 (a3 c0).1)
    have hv : v = 0 ∨ v = 1 := by
      cases hr : spPut tp k p with
      | inl e => exact Or.inl (b3 e hr).1
      | inr x => obtain ⟨k2, g2, p2⟩ := x; exact Or.inr (b4 k2 g2 p2 hr).1
    rw [b1, Option.bind_some]
    dsimp only
    rw [if_pos hv]
    exact ⟨h2, v, rfl, ((z2.tr a2).jj hd).tr b2, b3, b4⟩
  | false =>
  rw [if_pos (show (if false = true then (1 : Int) else 0) = 0 from rfl), if_neg (show ¬ false = true by decide)]
  have j1 := j0.w hd a2 (a4 c0).1
  obtain ⟨h2, b1, b2, b3, b4⟩ := c_word (w := spWnoise) (by decide) j1.1
  rw [show Pa_word T h1 P [110, 111, 105, 115, 101] = _ from b1, Option.bind_some]
  dsimp only
  have f2 := z2.tr (a2.tr b2)
  cases c1 : spWd tp g k spWnoise with
  | true =>
    rw [if_neg (show ¬ (if true = true then (1 : Int) else 0) = 0 by decide), if_pos (show true = true from rfl)]
    have j2 : PJ T h2 P tq pl tp (spPk tp (k + 5)) ((k + 5 : Nat) : Int) p := j1.w hd b2 (b3 c1).1
    rw [j2.dyn hT, Option.bind_some]
    obtain ⟨h3, v, d1, d2, d3, d4⟩ := c_number (lo := 0) (hi := 100) (by decide) j2.1
    rw [d1, Option.bind_some]
    dsimp only
    have eP : (jup h3 pl 3 v) P = h3 P := jup_ne (by omega)
    have h30 : h3 P 0 = (pl : Int) := by rw [d2.2 0 (by decide) (by decide) (by decide) (by decide)]; exact j2.2.1
    rw [eP, h30, jdyn_at hT, Option.bind_some, ju_eq]
    have f3 : PFj P pl h (jup h3 pl 3 v) := ((f2.tr d2).jj hd).tr ⟨fun z z1 z2 => jup_ne (by omega), fun f _ _ _ _ _ _ _ => by rw [eP], fun f hf => ju_ne (by omega)⟩
    unfold spNoi
    cases hr : spNum tp ((k + 5 : Nat) : Int) (spPk tp (k + 5)) 0 100 with
    | inl e0 =>
      obtain ⟨rfl, hb⟩ := d3 e0 hr
      rw [if_pos rfl]
      exact ⟨_, 0, rfl, f3, fun e he => by rw [← Sum.inl.inj he]; exact ⟨rfl, by rw [eP]; exact hb.1, by rw [eP]; exact hb.2⟩, fun k2 g2 p2 he => (by cases he)⟩
    | inr x =>
      obtain ⟨x, e⟩ := x
      obtain ⟨rfl, s3⟩ := d4 x e hr
      have ok := spNum_ok hr
      rw [if_neg (by omega)]
      refine ⟨_, 1, rfl, f3, fun e he => (by cases he), fun k2 g2 p2 he => ?_⟩
      cases he
      obtain ⟨s5, s6, s7⟩ := s3
      obtain ⟨⟨m1, m2⟩, ⟨m3, m4⟩, m5, m6, m7⟩ := (j2.w hd d2 ⟨s5, s6, s7⟩).2.2
      exact ⟨rfl, ⟨⟨by rw [eP]; exact s5.1, s5.2.1, s5.2.2.1, by rw [eP]; exact s5.2.2.2.1, s5.2.2.2.2.1, s5.2.2.2.2.2.1, fun j v hj => by rw [jup_ne (by omega)]; exact s5.2.2.2.2.2.2 j v hj⟩, by rw [eP]; exact s6, by rw [eP]; exact s7⟩, by rw [eP]; exact h30, ⟨by rw [ju_ne (by decide)]; exact m1, m2.eq (by rw [jup_ne (by omega)]) (jup_ne (by omega))⟩, ⟨by rw [ju_ne (by decide)]; exact m3, m4.eq (by rw [jup_ne (by omega)]) (jup_ne (by omega))⟩, ju_eq, by rw [ju_ne (by decide)]; exact m6, fun i v hv => by rw [jup_ne (show pl + 9 ≠ pl by omega), jup_ne (show pl + 10 ≠ pl by omega), jup_ne (show pl + 11 ≠ pl by omega)]; exact m7 i v hv⟩
  | false =>
  rw [if_pos (show (if false = true then (1 : Int) else 0) = 0 from rfl), if_neg (show ¬ false = true by decide)]
  have j2 := j1.w hd b2 (b4 c1).1
  obtain ⟨h3, d1, d2, d3, d4⟩ := c_word (w := spWcloses) (by decide) j2.1
  rw [show Pa_word T h2 P [99, 108, 111, 115, 101, 115] = _ from d1, Option.bind_some]
  dsimp only
  have f3 := f2.tr d2
  cases c2 : spWd tp g k spWcloses with
  | true =>
    rw [if_neg (show ¬ (if true = true then (1 : Int) else 0) = 0 by decide), if_pos (show true = true from rfl)]
    have j3 : PJ T h3 P tq pl tp (spPk tp (k + 6)) ((k + 6 : Nat) : Int) p := j2.w hd d2 (d3 c2).1
    rw [j3.dyn hT, Option.bind_some]
    have m1 := j3.2.2.1.1
    unfold spClz
    cases hp1 : p.1 with
    | some K0 =>
      rw [hp1] at m1
      dsimp only at m1
      obtain ⟨h4, x1, x2, x3⟩ := c_failAt (P := P) (h := h3) (e := (5, k))
      rw [if_neg (show ¬ h3 pl 5 = 0 by rw [m1]; decide), show Pa_fail h3 P 5 (k : Int) = _ from x1, Option.bind_some]
      dsimp only
      rw [if_pos (Or.inl rfl)]
      exact ⟨h4, 0, rfl, (f3.tr x2).jj hd, fun e he => by rw [← Sum.inl.inj he]; exact ⟨rfl, x3⟩, fun k2 g2 p2 he => (by cases he)⟩
    | none =>
      rw [hp1] at m1
      dsimp only at m1
      obtain ⟨h4, h5, v, e1, e2, e3, e4, e5, e6⟩ := c_codes (R_testW (Or.inl rfl)) hT hd hq (Or.inl ⟨rfl, rfl, rfl⟩) j3
      rw [if_pos (show h3 pl 5 = 0 from m1), Option.bind_some, jup_ne (show P ≠ pl by omega), j3.2.1, jdyn_at hT, Option.bind_some, show Pa_aim T (jup h3 pl 5 1) P (pl + 1) 0 = _ from e1, Option.bind_some, e2, Option.bind_some]
      dsimp only
      rw [if_pos e4]
      refine ⟨h5, v, rfl, (f3.jj hd).tr e3, fun e he => ?_, fun k2 g2 p2 he => ?_⟩
      · cases hr : spTest tp (spFact tp 0 6) (spPk tp (k + 6)) ((k + 6 : Nat) : Int) with
        | inl e0 => rw [hr] at he; rw [← Sum.inl.inj he]; exact e5 e0 hr
        | inr x => rw [hr] at he; cases he
      · cases hr : spTest tp (spFact tp 0 6) (spPk tp (k + 6)) ((k + 6 : Nat) : Int) with
        | inl e0 => rw [hr] at he; cases he
        | inr x =>
          obtain ⟨k1, g1, K1⟩ := x
          rw [hr] at he
          cases he
          exact e6 _ _ K1 hr
  | false =>
  rw [if_pos (show (if false = true then (1 : Int) else 0) = 0 from rfl), if_neg (show ¬ false = true by decide)]
  have j3 := j2.w hd d2 (d4 c2).1
  obtain ⟨h4, e1, e2, e3, e4⟩ := c_word (w := spWtakes) (by decide) j3.1
  rw [show Pa_word T h3 P [116, 97, 107, 101, 115] = _ from e1, Option.bind_some]
  dsimp only
  have f4 := f3.tr e2
  cases c3 : spWd tp g k spWtakes with
  | false =>
    rw [if_pos (show (if false = true then (1 : Int) else 0) = 0 from rfl), if_neg (show ¬ false = true by decide)]
    obtain ⟨h5, x1, x2, x3⟩ := c_failAt (P := P) (h := h4) (e := (1, k))
    rw [show Pa_fail h4 P 1 (k : Int) = _ from x1, Option.bind_some]
    dsimp only
    rw [if_pos (Or.inl rfl)]
    exact ⟨h5, 0, rfl, (f4.tr x2).jj hd, fun e he => by rw [← Sum.inl.inj he]; exact ⟨rfl, x3⟩, fun k2 g2 p2 he => (by cases he)⟩
  | true =>
    rw [if_neg (show ¬ (if true = true then (1 : Int) else 0) = 0 by decide), if_pos (show true = true from rfl)]
    have j4 : PJ T h4 P tq pl tp (spPk tp (k + 5)) ((k + 5 : Nat) : Int) p := j3.w hd e2 (e3 c3).1
    rw [j4.dyn hT, Option.bind_some]
    have m1 := j4.2.2.2.1.1
    unfold spTak
    cases hp1 : p.2.1 with
    | some K0 =>
      rw [hp1] at m1
      dsimp only at m1
      obtain ⟨h5, x1, x2, x3⟩ := c_failAt (P := P) (h := h4) (e := (5, k))
      rw [if_neg (show ¬ h4 pl 6 = 0 by rw [m1]; decide), show Pa_fail h4 P 5 (k : Int) = _ from x1, Option.bind_some]
      dsimp only
      rw [if_pos (Or.inl rfl)]
      exact ⟨h5, 0, rfl, (f4.tr x2).jj hd, fun e he => by rw [← Sum.inl.inj he]; exact ⟨rfl, x3⟩, fun k2 g2 p2 he => (by cases he)⟩
    | none =>
      rw [hp1] at m1
      dsimp only at m1
      obtain ⟨h5, h6, v, g1, g2, g3, g4, g5, g6⟩ := c_codes (R_sumW (Or.inr (Or.inl rfl))) hT hd hq (Or.inr ⟨rfl, rfl, rfl⟩) j4
      rw [if_pos (show h4 pl 6 = 0 from m1), Option.bind_some, jup_ne (show P ≠ pl by omega), j4.2.1, jdyn_at hT, Option.bind_some, show Pa_aim T (jup h4 pl 6 1) P (pl + 5) 1 = _ from g1, Option.bind_some, g2, Option.bind_some]
      dsimp only
      rw [if_pos g4]
      refine ⟨h6, v, rfl, (f4.jj hd).tr g3, fun e he => ?_, fun k2 g2 p2 he => ?_⟩
      · cases hr : spSms tp (spPart tp 1 6) (spPk tp (k + 5)) ((k + 5 : Nat) : Int) with
        | inl e0 => rw [hr] at he; rw [← Sum.inl.inj he]; exact g5 e0 hr
        | inr x => rw [hr] at he; cases he
      · cases hr : spSms tp (spPart tp 1 6) (spPk tp (k + 5)) ((k + 5 : Nat) : Int) with
        | inl e0 => rw [hr] at he; cases he
        | inr x =>
          obtain ⟨k1, g1, K1⟩ := x
          rw [hr] at he
          cases he
          exact g6 _ _ K1 hr
end PJO
