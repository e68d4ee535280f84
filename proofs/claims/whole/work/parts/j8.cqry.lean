/-! a question: what its text tells; the class reads it -/
/-- which question, and where its word ends -/
def spQkd (tp : List Int) (k : Nat) (g : Int) : Option (Nat × Nat) :=
  if spWd tp g k spW7 = true then some (0, k + 5)
  else if spWd tp g k spWlast = true then some (1, k + 4)
  else if spWd tp g k spWoften = true then some (2, k + 5)
  else if spWd tp g k spWtotal = true then some (3, k + 5)
  else if spWd tp g k spWmost = true then some (4, k + 4)
  else if spWd tp g k spWleast = true then some (5, k + 5)
  else none
def spQrf (tp : List Int) (kd : Nat) : spF := if kd ≤ 2 then spTest tp (spFact tp 2 6) else spSms tp (spPart tp 2 6)
def spQry (tp : List Int) : spE (Nat × List Int) := match spQkd tp (spPk tp 0) (-1) with
  | none => .inl (1, spPk tp 0)
  | some (kd, e) => match spQrf tp kd (spPk tp e) (e : Int) with
    | .inl er => .inl er
    | .inr (k2, _, K) => if spTx tp k2 = -1 then .inr (kd, K) else .inl (1, k2)
theorem spQkd_lt {tp : List Int} {k : Nat} {g : Int} {kd e : Nat} (h : spQkd tp k g = some (kd, e)) : kd ≤ 5 := by
  unfold spQkd at h
  repeat' split at h
  all_goals first | (cases h; decide) | cases h
noncomputable def pCm (T : jT) (P : Nat) (w : List Int) (v : Int) (Y : jH → Option (Int × jH)) (h : jH) : Option (Int × jH) := Option.bind (Pa_word T h P w) (fun b => (if b.1 = 0 then Y b.2 else some (v, b.2)))
theorem pCm_eq {T : jT} {h : jH} {P : Nat} : Pa_command T h P = pCm T P spW7 0 (pCm T P spWlast 1 (pCm T P spWoften 2 (pCm T P spWtotal 3 (pCm T P spWmost 4 (pCm T P spWleast 5 (fun h => some (-1, h))))))) h := rfl
section CQY
variable {T : jT} {P tq : Nat} {tp : List Int} {k : Nat} {g : Int}
theorem PSs.f2 {h : jH} {v : Int} (hs : PSs T h P tq tp k g) : PSs T (jup h P 2 v) P tq tp k g := by
  obtain ⟨s5, s6, s7⟩ := hs
  exact ⟨⟨by rw [ju_ne (by decide)]; exact s5.1, s5.2.1, s5.2.2.1, by rw [ju_ne (by decide)]; exact s5.2.2.2.1, s5.2.2.2.2.1, s5.2.2.2.2.2.1, fun j v hj => by rw [jup_ne s5.2.2.1]; exact s5.2.2.2.2.2.2 j v hj⟩, by rw [ju_ne (by decide), ju_ne (by decide), ju_ne (by decide)]; exact s6, by rw [ju_ne (by decide)]; exact s7⟩
theorem c_cm {h : jH} {w : List Int} {v : Int} {Y : jH → Option (Int × jH)} (hw : 1 ≤ w.length ∧ w.length ≤ 20) (hs : PSs T h P tq tp k g) : ∃ h', PFw P h h' ∧ (spWd tp g k w = true → pCm T P w v Y h = some (v, h') ∧ PSs T h' P tq tp (spPk tp (k + w.length)) ((k + w.length : Nat) : Int)) ∧ (spWd tp g k w = false → pCm T P w v Y h = Y h' ∧ PSs T h' P tq tp k g ∧ h' P 7 = (k : Int)) := by
  obtain ⟨h1, a1, a2, a3, a4⟩ := c_word hw hs
  unfold pCm
  rw [a1, Option.bind_some]
  refine ⟨h1, a2, fun c => ?_, fun c => ?_⟩
  · rw [c]; exact ⟨by rw [if_pos (show true = true from rfl), if_neg (show ¬ (1 : Int) = 0 by decide)], (a3 c).1⟩
  · rw [c]; exact ⟨by rw [if_neg (show ¬ false = true by decide), if_pos rfl], (a4 c).1, (a4 c).2⟩
theorem c_command {h : jH} (hs : PSs T h P tq tp k g) : ∃ h' v, Pa_command T h P = some (v, h') ∧ PFw P h h' ∧ (spQkd tp k g = none → v = -1 ∧ PSs T h' P tq tp k g ∧ h' P 7 = (k : Int)) ∧ ∀ kd e, spQkd tp k g = some (kd, e) → v = (kd : Int) ∧ PSs T h' P tq tp (spPk tp e) (e : Int) := by
  rw [pCm_eq]
  unfold spQkd
  obtain ⟨h1, a1, a2, a3⟩ := c_cm (w := spW7) (v := 0) (Y := pCm T P spWlast 1 (pCm T P spWoften 2 (pCm T P spWtotal 3 (pCm T P spWmost 4 (pCm T P spWleast 5 (fun h => some (-1, h))))))) (by decide) hs
  cases c1 : spWd tp g k spW7 with
  | true =>
    obtain ⟨b1, b2⟩ := a2 c1
    rw [if_pos rfl]
    exact ⟨h1, 0, b1, a1, fun e => (by cases e), fun kd e he => by cases he; exact ⟨rfl, b2⟩⟩
  | false =>
  rw [if_neg (by decide)]
  obtain ⟨b1, b2, -⟩ := a3 c1
  rw [b1]
  obtain ⟨h2, d1, d2, d3⟩ := c_cm (w := spWlast) (v := 1) (Y := pCm T P spWoften 2 (pCm T P spWtotal 3 (pCm T P spWmost 4 (pCm T P spWleast 5 (fun h => some (-1, h)))))) (by decide) b2
  have f2 := a1.tr d1
  cases c2 : spWd tp g k spWlast with
  | true =>
    obtain ⟨e1, e2⟩ := d2 c2
    rw [if_pos rfl]
    exact ⟨h2, 1, e1, f2, fun e => (by cases e), fun kd e he => by cases he; exact ⟨rfl, e2⟩⟩
  | false =>
  rw [if_neg (by decide)]
  obtain ⟨e1, e2, -⟩ := d3 c2
  rw [e1]
  obtain ⟨h3, i1, i2, i3⟩ := c_cm (w := spWoften) (v := 2) (Y := pCm T P spWtotal 3 (pCm T P spWmost 4 (pCm T P spWleast 5 (fun h => some (-1, h))))) (by decide) e2
  have f3 := f2.tr i1
  cases c3 : spWd tp g k spWoften with
  | true =>
    obtain ⟨j1, j2⟩ := i2 c3
    rw [if_pos rfl]
    exact ⟨h3, 2, j1, f3, fun e => (by cases e), fun kd e he => by cases he; exact ⟨rfl, j2⟩⟩
  | false =>
  rw [if_neg (by decide)]
  obtain ⟨j1, j2, -⟩ := i3 c3
  rw [j1]
  obtain ⟨h4, l1, l2, l3⟩ := c_cm (w := spWtotal) (v := 3) (Y := pCm T P spWmost 4 (pCm T P spWleast 5 (fun h => some (-1, h)))) (by decide) j2
  have f4 := f3.tr l1
  cases c4 : spWd tp g k spWtotal with
  | true =>
    obtain ⟨m1, m2⟩ := l2 c4
    rw [if_pos rfl]
    exact ⟨h4, 3, m1, f4, fun e => (by cases e), fun kd e he => by cases he; exact ⟨rfl, m2⟩⟩
  | false =>
  rw [if_neg (by decide)]
  obtain ⟨m1, m2, -⟩ := l3 c4
  rw [m1]
  obtain ⟨h5, n1, n2, n3⟩ := c_cm (w := spWmost) (v := 4) (Y := pCm T P spWleast 5 (fun h => some (-1, h))) (by decide) m2
  have f5 := f4.tr n1
  cases c5 : spWd tp g k spWmost with
  | true =>
    obtain ⟨q1, q2⟩ := n2 c5
    rw [if_pos rfl]
    exact ⟨h5, 4, q1, f5, fun e => (by cases e), fun kd e he => by cases he; exact ⟨rfl, q2⟩⟩
  | false =>
  rw [if_neg (by decide)]
  obtain ⟨q1, q2, -⟩ := n3 c5
  rw [q1]
  obtain ⟨h6, r1, r2, r3⟩ := c_cm (w := spWleast) (v := 5) (Y := fun h => some (-1, h)) (by decide) q2
  have f6 := f5.tr r1
  cases c6 : spWd tp g k spWleast with
  | true =>
    obtain ⟨t1, t2⟩ := r2 c6
    rw [if_pos rfl]
    exact ⟨h6, 5, t1, f6, fun e => (by cases e), fun kd e he => by cases he; exact ⟨rfl, t2⟩⟩
  | false =>
  rw [if_neg (by decide)]
  obtain ⟨t1, t2, t3⟩ := r3 c6
  exact ⟨h6, -1, t1, f6, fun _ => ⟨rfl, t2, t3⟩, fun kd e he => (by cases he)⟩
/-- what reading a question may change: parser and question's formula -/
def PFq (P fo : Nat) (h h' : jH) : Prop := (∀ z, z ≠ P → z ≠ fo → z ≠ fo + 1 → h' z = h z) ∧ h' P 0 = h P 0
theorem PFq.tr {fo : Nat} {h h1 h2 : jH} (a : PFq P fo h h1) (b : PFq P fo h1 h2) : PFq P fo h h2 := ⟨fun z x y w => (b.1 z x y w).trans (a.1 z x y w), b.2.trans a.2⟩
theorem PFw.q {fo : Nat} {h h' : jH} (a : PFw P h h') : PFq P fo h h' := ⟨fun z x _ _ => a.1 z x, a.2 0 (by decide) (by decide) (by decide) (by decide)⟩
theorem spQry_ok {kd : Nat} {K : List Int} (h : spQry tp = .inr (kd, K)) : kd ≤ 5 ∧ spTys spAlQ K [] = some [decide (kd ≤ 2)] := by
  unfold spQry at h
  cases hk : spQkd tp (spPk tp 0) (-1) with
  | none => rw [hk] at h; cases h
  | some x =>
    obtain ⟨kd', e⟩ := x
    rw [hk] at h
    dsimp only at h
    cases hr : spQrf tp kd' (spPk tp e) (e : Int) with
    | inl er => rw [hr] at h; cases h
    | inr y =>
      obtain ⟨k2, g2, K'⟩ := y
      rw [hr] at h
      dsimp only at h
      split at h
      · cases h
        refine ⟨spQkd_lt hk, ?_⟩
        unfold spQrf at hr
        split at hr
        · rename_i c
          rw [decide_eq_true c]
          exact spTest_dp (spFact_dp 6) _ _ _ _ _ hr [] (by decide)
        · rename_i c
          rw [decide_eq_false c]
          exact spSms_dp (spPart_dp 6) _ _ _ _ _ hr [] (by decide)
      · cases h
theorem c_readQ {h : jH} {fo : Nat} (hfo : fo = P + 13) (h2 : isX2 T fo) (hA : T.1[tq]? = some (20, 1600)) (hd : fo ≠ tq ∧ fo + 1 ≠ tq) (hPq : tq ≠ P) (hl : tp.length ≤ 1600) (hby : spByt tp) (hc : ∀ (j : Nat) (v : Int), tp[j]? = some v → h tq j = v) : ∃ h' v, Pa_readQuestion T h P tq 1600 (tp.length : Int) = some (v, h') ∧ PFq P fo h h' ∧ (∀ e, spQry tp = .inl e → v = 0 ∧ PBad P h' e) ∧ ∀ kd K, spQry tp = .inr (kd, K) → v = 1 ∧ h' P 2 = (kd : Int) ∧ h' P 3 = 0 ∧ h' P 4 = -1 ∧ CFm h' fo K := by
  obtain ⟨h1, hh1⟩ : ∃ h1 : jH, h1 = jup (jup (jup (jup (jup (jup h P 5 (Int.ofNat tq)) P 6 (min (tp.length : Int) ((1600 : Nat) : Int))) P 7 0) P 8 (-1)) P 3 0) P 4 (-1) := ⟨_, rfl⟩
  have go1 : ∀ z, z ≠ P → h1 z = h z := fun z hz => by rw [hh1, jup_ne hz, jup_ne hz, jup_ne hz, jup_ne hz, jup_ne hz, jup_ne hz]
  have e0 : h1 P 0 = h P 0 := by rw [hh1, ju_ne (by decide), ju_ne (by decide), ju_ne (by decide), ju_ne (by decide), ju_ne (by decide), ju_ne (by decide)]
  have e5 : h1 P 5 = (tq : Int) := by rw [hh1, ju_ne (by decide), ju_ne (by decide), ju_ne (by decide), ju_ne (by decide), ju_ne (by decide), ju_eq]; rfl
  have e6 : h1 P 6 = (tp.length : Int) := by rw [hh1, ju_ne (by decide), ju_ne (by decide), ju_ne (by decide), ju_ne (by decide), ju_eq]; omega
  have e7 : h1 P 7 = 0 := by rw [hh1, ju_ne (by decide), ju_ne (by decide), ju_ne (by decide), ju_eq]
  have e8 : h1 P 8 = -1 := by rw [hh1, ju_ne (by decide), ju_ne (by decide), ju_eq]
  have e3 : h1 P 3 = 0 := by rw [hh1, ju_ne (by decide), ju_eq]
  have e4 : h1 P 4 = -1 := by rw [hh1, ju_eq]
  have s1 : PSs T h1 P tq tp (spPk tp 0) (-1) := ⟨⟨e5, hA, hPq, e6, hl, hby, fun j v hv => by rw [go1 tq hPq]; exact hc j v hv⟩, ⟨0, e7, Nat.zero_le _, rfl, e3, e4⟩, e8⟩
  have F1 : PFq P fo h h1 := ⟨fun z z1 _ _ => go1 z z1, e0⟩
  obtain ⟨g1, v1, a1, a2, a3, a4⟩ := c_command s1
  have hst : Pa_readQuestion T h P tq 1600 (tp.length : Int) = (if v1 = (-1) then Option.bind (Pa_fail (jup g1 P 2 v1) P 1 ((jup g1 P 2 v1) P 7)) (fun b4 => (if b4.1 = 0 ∨ b4.1 = 1 then some (b4.1, b4.2) else none)) else Option.bind (Pa_aim T (jup g1 P 2 v1) P fo 2) (fun b6 => (if 2 < (b6 P 2) then Option.bind ((jrecW T).2.2.2.2.1 b6 P) (fun b8 => Pa_readQuestion_p60 T b8.2 P b8.1) else Option.bind ((jrecW T).1 b6 P) (fun b9 => Pa_readQuestion_p60 T b9.2 P b9.1)))) := by
    unfold Pa_readQuestion Pa_begin
    rw [Option.bind_some, ← hh1, a1, Option.bind_some, ju_eq, hfo]
  have F2 : PFq P fo h (jup g1 P 2 v1) := F1.tr (a2.q.tr ⟨fun z z1 _ _ => jup_ne z1, ju_ne (by decide)⟩)
  unfold spQry
  cases hk : spQkd tp (spPk tp 0) (-1) with
  | none =>
    obtain ⟨rfl, x1, x2⟩ := a3 hk
    rw [if_pos rfl, ju_ne (show (7 : Nat) ≠ 2 by decide), x2] at hst
    obtain ⟨g2, b1, b2, b3⟩ := c_failAt (P := P) (h := jup g1 P 2 (-1)) (e := (1, spPk tp 0))
    rw [show Pa_fail (jup g1 P 2 (-1)) P 1 ((spPk tp 0 : Nat) : Int) = _ from b1, Option.bind_some] at hst
    dsimp only at hst
    rw [if_pos (Or.inl rfl)] at hst
    exact ⟨g2, 0, hst, F2.tr b2.q, fun e he => by cases he; exact ⟨rfl, b3⟩, fun kd K he => (by cases he)⟩
  | some x =>
  obtain ⟨kd, e⟩ := x
  obtain ⟨rfl, x1⟩ := a4 kd e hk
  have hkd := spQkd_lt hk
  rw [if_neg (by omega)] at hst
  obtain ⟨g2, b1, b2, b3, b4, b5⟩ := c_aimAt (md := 2) h2 ⟨by omega, by omega, hd.1, hd.2⟩ (x1.f2 (v := (kd : Int)))
  rw [show Pa_aim T (jup g1 P 2 (kd : Int)) P fo 2 = some g2 from b1, Option.bind_some, b3 2 (by decide) (by decide) (by decide), ju_eq] at hst
  have F3 : PFq P fo h g2 := F2.tr ⟨fun z z1 z2 _ => b2 z z1 z2, b3 0 (by decide) (by decide) (by decide)⟩
  have hR : ∃ X : jH → Option (Int × jH), Pa_readQuestion T h P tq 1600 (tp.length : Int) = Option.bind (X g2) (fun b => Pa_readQuestion_p60 T b.2 P b.1) ∧ PRd T P tq tp fo 2 0 X (spQrf tp kd) := by
    by_cases c : kd ≤ 2
    · rw [if_neg (by omega)] at hst
      refine ⟨fun h => (jrecW T).1 h P, hst, ?_⟩
      unfold spQrf
      rw [if_pos c]
      exact R_testW (Or.inr (Or.inr rfl))
    · rw [if_pos (by omega)] at hst
      refine ⟨fun h => (jrecW T).2.2.2.2.1 h P, hst, ?_⟩
      unfold spQrf
      rw [if_neg c]
      exact R_sumW (Or.inr (Or.inr rfl))
  obtain ⟨X, y1, y2⟩ := hR
  obtain ⟨g3, v, c1, ⟨c2, c3, c4⟩, c5, c6⟩ := y2 g2 _ _ [] b5
  rw [c1, Option.bind_some] at y1
  have F4 : PFq P fo h g3 := F3.tr ⟨c2, c3 0 (by decide) (by decide) (by decide) (by decide) (by decide)⟩
  have k2 : g3 P 2 = (kd : Int) := by rw [c3 2 (by decide) (by decide) (by decide) (by decide) (by decide), b3 2 (by decide) (by decide) (by decide), ju_eq]
  dsimp only
  unfold Pa_readQuestion_p60 Pa_readQuestion_p89 Pa_readQuestion_p85 at y1
  cases hr : spQrf tp kd (spPk tp e) (e : Int) with
  | inl er =>
    obtain ⟨rfl, hb⟩ := c5 er hr
    rw [if_pos rfl] at y1
    exact ⟨g3, 0, y1, F4, fun e he => by cases he; exact ⟨rfl, hb⟩, fun kd K he => (by cases he)⟩
  | inr z =>
  obtain ⟨k3, g3', K⟩ := z
  obtain ⟨rfl, z1, z2, -⟩ := c6 k3 g3' K hr
  rw [if_neg (show ¬ (1 : Int) = 0 by decide)] at y1
  rw [List.nil_append] at z2
  obtain ⟨g4, d1, d2, d3, d4, d5, d6, d7⟩ := c_peek z1
  rw [d1, Option.bind_some] at y1
  dsimp only at y1 ⊢
  have F5 := F4.tr d2.q
  by_cases c : spTx tp k3 = -1
  · rw [if_pos c] at y1
    rw [if_pos c]
    refine ⟨g4, 1, y1, F5, fun e he => (by cases he), fun kd' K' he => ?_⟩
    cases he
    obtain ⟨s5, ⟨u, u1, u2, u3, u4, u5⟩, s7⟩ := d7
    exact ⟨rfl, by rw [d2.2 2 (by decide) (by decide) (by decide) (by decide)]; exact k2, u4, u5, z2.2.2.eq (by rw [d2.1 fo (by omega)]) (d2.1 (fo + 1) (by omega))⟩
  · rw [if_neg c, d3] at y1
    rw [if_neg c]
    obtain ⟨g5, f1, f2, f3⟩ := c_failAt (P := P) (h := g4) (e := (1, k3))
    rw [show Pa_fail g4 P 1 (k3 : Int) = _ from f1, Option.bind_some] at y1
    dsimp only at y1
    rw [if_pos rfl] at y1
    exact ⟨g5, 0, y1, F5.tr f2.q, fun e he => by cases he; exact ⟨rfl, f3⟩, fun kd' K' he => (by cases he)⟩
end CQY
