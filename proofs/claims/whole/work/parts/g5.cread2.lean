/-! reading a formula: the class's readers -/
section PAH
variable {T : jT} {P tq : Nat} {tp : List Int} {fo md op : Nat}
theorem spWd_one {g : Int} {k : Nat} {w w' : List Int} (h : spWd tp g k w = true) (h' : spWd tp g k w' = true) : w = w' := by
  have a := spWd_len h
  have b := spWd_len h'
  have e : w.length = w'.length := by omega
  rw [← a.2.2, ← b.2.2, e]
theorem spWd_no {g : Int} {k : Nat} {w w' : List Int} (h : spWd tp g k w = true) (hne : w ≠ w') : spWd tp g k w' = false := by
  cases c : spWd tp g k w'
  · rfl
  · exact absurd (spWd_one h c) hne
theorem r_seq {R1 : spF} {L : Nat → Int → spR} {F1 : jH → Option (Int × jH)} {F : jH → Option (Int × jH)} (h1 : PRd T P tq tp fo md op F1 R1) (hbad : ∀ h h1, F1 h = some (0, h1) → F h = some (0, h1)) (h2 : ∀ h h1 k g K, F1 h = some (1, h1) → PSt T h1 P tq tp fo md k g op K → ∃ h' v, F h = some (v, h') ∧ PRs T P tq tp fo md op K (L k g) h1 h' v) : PRd T P tq tp fo md op F (fun k g => spThen (R1 k g) L) := by
  intro h k g K hs
  obtain ⟨h1', v, x1, x2, x3, x4⟩ := h1 h k g K hs
  show ∃ h' v, F h = some (v, h') ∧ PRs T P tq tp fo md op K (spThen (R1 k g) L) h h' v
  cases hr : R1 k g with
  | inl e =>
    obtain ⟨rfl, hb⟩ := x3 e hr
    rw [spThen_l]
    exact ⟨h1', 0, hbad _ _ x1, PRs.bad x2 hb⟩
  | inr y =>
    obtain ⟨k1, g1, K1⟩ := y
    obtain ⟨rfl, hst⟩ := x4 k1 g1 K1 hr
    obtain ⟨h', v, y1, y2⟩ := h2 _ _ _ _ _ x1 hst
    exact ⟨h', v, y1, PRs.seq x2 y2⟩
theorem r_prod {rec : jRec} {R : spF} (hR : PRd T P tq tp fo md op (fun h => rec.2.2.2.2.2.2.1 h P) R) (hG : spGr tp R) : PRd T P tq tp fo md op (fun h => Pa_product_b T rec h P) (spProd tp R) := by
  refine r_seq hR (fun h h1 e => ?_) (fun h h1 k g K e hs => ?_)
  · show Pa_product_b T rec h P = _
    unfold Pa_product_b
    have e' : rec.2.2.2.2.2.2.1 h P = some (0, h1) := e
    rw [e']
    simp only [Option.bind_some]
    unfold Pa_product_L7
    refine jloop_r ?_
    show Pa_product_B7 T rec h1 P 0 0 = _
    unfold Pa_product_B7
    rw [if_pos (by decide), if_pos rfl, if_pos (Or.inl rfl)]
    rfl
  · obtain ⟨h', v, y1, y2⟩ := c_prodL hR hG 1600 0 h1 k g K (by omega) hs
    refine ⟨h', v, ?_, y2⟩
    show Pa_product_b T rec h P = _
    unfold Pa_product_b
    have e' : rec.2.2.2.2.2.2.1 h P = some (1, h1) := e
    rw [e']
    exact y1
theorem r_sum {rec : jRec} {R : spF} (hR : PRd T P tq tp fo md op (fun h => rec.2.2.2.2.2.1 h P) (spProd tp R)) (hG : spGr tp R) : PRd T P tq tp fo md op (fun h => Pa_sum_b T rec h P) (spSms tp R) := by
  refine r_seq hR (fun h h1 e => ?_) (fun h h1 k g K e hs => ?_)
  · show Pa_sum_b T rec h P = _
    unfold Pa_sum_b
    have e' : rec.2.2.2.2.2.1 h P = some (0, h1) := e
    rw [e']
    simp only [Option.bind_some]
    unfold Pa_sum_L7
    refine jloop_r ?_
    show Pa_sum_B7 T rec h1 P 0 0 = _
    unfold Pa_sum_B7
    rw [if_pos (by decide), if_pos rfl, if_pos (Or.inl rfl)]
    rfl
  · obtain ⟨h', v, y1, y2⟩ := c_sumL hR hG 1600 0 h1 k g K (by omega) hs
    refine ⟨h', v, ?_, y2⟩
    show Pa_sum_b T rec h P = _
    unfold Pa_sum_b
    have e' : rec.2.2.2.2.2.1 h P = some (1, h1) := e
    rw [e']
    exact y1
theorem r_both {rec : jRec} {R : spF} (hR : PRd T P tq tp fo md op (fun h => rec.2.2.1 h P) R) (hG : spGr tp R) : PRd T P tq tp fo md op (fun h => Pa_both_b T rec h P) (spBoth tp R) := by
  refine r_seq hR (fun h h1 e => ?_) (fun h h1 k g K e hs => ?_)
  · show Pa_both_b T rec h P = _
    unfold Pa_both_b
    have e' : rec.2.2.1 h P = some (0, h1) := e
    rw [e']
    simp only [Option.bind_some]
    unfold Pa_both_L7
    refine jloop_r ?_
    show Pa_both_B7 T rec h1 P 0 0 = _
    unfold Pa_both_B7
    rw [if_pos (by decide), if_pos rfl, if_pos (Or.inl rfl)]
    rfl
  · obtain ⟨h', v, y1, y2⟩ := c_bothL hR hG 1600 0 h1 k g K (by omega) hs
    refine ⟨h', v, ?_, y2⟩
    show Pa_both_b T rec h P = _
    unfold Pa_both_b
    have e' : rec.2.2.1 h P = some (1, h1) := e
    rw [e']
    exact y1
theorem r_test {rec : jRec} {R : spF} (hR : PRd T P tq tp fo md op (fun h => rec.2.1 h P) (spBoth tp R)) (hG : spGr tp R) : PRd T P tq tp fo md op (fun h => Pa_test_b T rec h P) (spTest tp R) := by
  refine r_seq hR (fun h h1 e => ?_) (fun h h1 k g K e hs => ?_)
  · show Pa_test_b T rec h P = _
    unfold Pa_test_b
    have e' : rec.2.1 h P = some (0, h1) := e
    rw [e']
    simp only [Option.bind_some]
    unfold Pa_test_L7
    refine jloop_r ?_
    show Pa_test_B7 T rec h1 P 0 0 = _
    unfold Pa_test_B7
    rw [if_pos (by decide), if_pos rfl, if_pos (Or.inl rfl)]
    rfl
  · obtain ⟨h', v, y1, y2⟩ := c_testL hR hG 1600 0 h1 k g K (by omega) hs
    refine ⟨h', v, ?_, y2⟩
    show Pa_test_b T rec h P = _
    unfold Pa_test_b
    have e' : rec.2.1 h P = some (1, h1) := e
    rw [e']
    exact y1
/-- something opens -/
theorem c_opens {h : jH} {k b : Nat} {g : Int} {K : List Int} (hs : PSt T h P tq tp fo md k g op K) : (op < 6 → ∃ h', Pa_opens h P (b : Int) = some (1, h') ∧ PFg P fo h h' ∧ PSt T h' P tq tp fo md k g (op + 1) K ∧ h' P 7 = h P 7) ∧ (6 ≤ op → ∃ h', Pa_opens h P (b : Int) = some (0, h') ∧ PFg P fo h h' ∧ PBad P h' (4, b)) := by
  have hne := hs.ne
  obtain ⟨⟨s1, s2, s3⟩, ⟨⟨f1, f2, f3, f4⟩, f5, f6⟩, s4⟩ := hs
  unfold Pa_opens
  rw [f5]
  refine ⟨fun h6 => ?_, fun h6 => ?_⟩
  · rw [if_pos (by omega), pw (by omega) (by omega)]
    have go : ∀ z, z ≠ P → (jup h P 11 ((op : Int) + 1)) z = h z := fun z hz => jup_ne hz
    refine ⟨_, rfl, ⟨fun z z1 _ _ => go z z1, fun f _ _ _ _ f11 => ju_ne f11, fun f _ => by rw [go fo hne]⟩, ⟨⟨⟨by rw [ju_ne (by decide)]; exact s1.1, s1.2.1, s1.2.2.1, by rw [ju_ne (by decide)]; exact s1.2.2.2.1, s1.2.2.2.2.1, s1.2.2.2.2.2.1, fun j v hj => by rw [go tq s1.2.2.1]; exact s1.2.2.2.2.2.2 j v hj⟩, by rw [ju_ne (show (7 : Nat) ≠ 11 by decide), ju_ne (show (3 : Nat) ≠ 11 by decide), ju_ne (show (4 : Nat) ≠ 11 by decide)]; exact s2, by rw [ju_ne (by decide)]; exact s3⟩, ⟨⟨by rw [ju_ne (by decide)]; exact f1, f2, by rw [ju_ne (by decide)]; exact f3, f4⟩, by rw [ju_eq]; rfl, ?_⟩, s4⟩, ju_ne (by decide)⟩
    unfold CFm
    rw [go fo f4.1, go (fo + 1) f4.2.1]
    exact f6
  · rw [if_neg (by omega)]
    obtain ⟨h2, x1, x2, x3⟩ := c_failAt (P := P) (h := h) (e := (4, b))
    rw [show Pa_fail h P 4 (b : Int) = _ from x1]
    simp only [Option.bind_some]
    rw [if_pos (Or.inl True.intro)]
    exact ⟨h2, rfl, x2.g hne, x3⟩
theorem c_ends {h : jH} {k : Nat} {g : Int} {K : List Int} (hop : op ≤ 10) (hs : PSt T h P tq tp fo md k g (op + 1) K) : ∃ h', Pa_ends h P = some (1, h') ∧ PFg P fo h h' ∧ PSt T h' P tq tp fo md k g op K := by
  have hne := hs.ne
  obtain ⟨⟨s1, s2, s3⟩, ⟨⟨f1, f2, f3, f4⟩, f5, f6⟩, s4⟩ := hs
  unfold Pa_ends
  rw [f5, pw (by omega) (by omega)]
  have go : ∀ z, z ≠ P → (jup h P 11 (((op + 1 : Nat) : Int) - 1)) z = h z := fun z hz => jup_ne hz
  refine ⟨_, rfl, ⟨fun z z1 _ _ => go z z1, fun f _ _ _ _ f11 => ju_ne f11, fun f _ => by rw [go fo hne]⟩, ⟨⟨by rw [ju_ne (by decide)]; exact s1.1, s1.2.1, s1.2.2.1, by rw [ju_ne (by decide)]; exact s1.2.2.2.1, s1.2.2.2.2.1, s1.2.2.2.2.2.1, fun j v hj => by rw [go tq s1.2.2.1]; exact s1.2.2.2.2.2.2 j v hj⟩, by rw [ju_ne (show (7 : Nat) ≠ 11 by decide), ju_ne (show (3 : Nat) ≠ 11 by decide), ju_ne (show (4 : Nat) ≠ 11 by decide)]; exact s2, by rw [ju_ne (by decide)]; exact s3⟩, ⟨⟨by rw [ju_ne (by decide)]; exact f1, f2, by rw [ju_ne (by decide)]; exact f3, f4⟩, by rw [ju_eq]; omega, ?_⟩, s4⟩
  unfold CFm
  rw [go fo f4.1, go (fo + 1) f4.2.1]
  exact f6
/-- a sign expected in a formula -/
theorem PSt.expect {h : jH} {k : Nat} {g c : Int} {K : List Int} (hc : c ≠ -1) (hs : PSt T h P tq tp fo md k g op K) : ∃ h', Pa_expect T h P c = some (if spTx tp k = c then 1 else 0, h') ∧ PFg P fo h h' ∧ (spTx tp k = c → PSt T h' P tq tp fo md (spPk tp (k + 1)) g op K) ∧ (spTx tp k ≠ c → PBad P h' (1, k)) := by
  obtain ⟨h', e1, e2, e3, e4⟩ := c_expect hc hs.1
  have hp := (spPk_in (tp := tp) (k + 1)).1
  exact ⟨h', e1, e2.g hs.ne, fun e => hs.fr e2 (e3 e) (by omega), e4⟩
theorem PSt.word {h : jH} {k : Nat} {g : Int} {K : List Int} {w : List Int} (hw : 1 ≤ w.length ∧ w.length ≤ 20) (hs : PSt T h P tq tp fo md k g op K) : ∃ h', Pa_word T h P w = some (if spWd tp g k w = true then 1 else 0, h') ∧ PFg P fo h h' ∧ (spWd tp g k w = true → PSt T h' P tq tp fo md (spPk tp (k + w.length)) ((k + w.length : Nat) : Int) op K) ∧ (spWd tp g k w = false → PSt T h' P tq tp fo md k g op K ∧ h' P 7 = (k : Int)) := by
  obtain ⟨h', e1, e2, e3, e4⟩ := c_word hw hs.1
  have hp := (spPk_in (tp := tp) (k + w.length)).1
  exact ⟨h', e1, e2.g hs.ne, fun e => hs.fr e2 (e3 e).1 (by omega), fun e => ⟨hs.fr e2 (e4 e).1 (Nat.le_refl _), (e4 e).2⟩⟩
theorem PSt.sign {h : jH} {k : Nat} {g c : Int} {K : List Int} (hc : c ≠ -1) (hs : PSt T h P tq tp fo md k g op K) : ∃ h', Pa_sign T h P c = some (if spTx tp k = c then 1 else 0, h') ∧ PFg P fo h h' ∧ PSt T h' P tq tp fo md (if spTx tp k = c then spPk tp (k + 1) else k) g op K ∧ (spTx tp k ≠ c → h' P 7 = (k : Int)) := by
  obtain ⟨h', e1, e2, e3, e4, e5⟩ := c_sign hc hs.1
  have hp := (spPk_in (tp := tp) (k + 1)).1
  exact ⟨h', e1, e2.g hs.ne, hs.fr e2 e4 (by split <;> omega), e5⟩
theorem PSt.peek {h : jH} {k : Nat} {g : Int} {K : List Int} (hs : PSt T h P tq tp fo md k g op K) : ∃ h', Pa_peek T h P = some (spTx tp k, h') ∧ PFg P fo h h' ∧ PSt T h' P tq tp fo md k g op K ∧ h' P 7 = (k : Int) := by
  obtain ⟨h', e1, e2, e3, -, -, -, e5⟩ := c_peek hs.1
  exact ⟨h', e1, e2.g hs.ne, hs.fr e2 e5 (Nat.le_refl _), e3⟩
/-- in brackets: what a sum tells, a sign behind it, one less open -/
theorem PRs.close {h h' : jH} {K : List Int} {res : spR} {v c : Int} (hc : c ≠ -1) (hop : op ≤ 10) (hr : PRs T P tq tp fo md (op + 1) K res h h' v) : (v = 0 ∧ ∃ e, spSign tp c res = .inl e ∧ PBad P h' e) ∨ (v = 1 ∧ ∃ h2, (∃ e, Pa_expect T h' P c = some (0, h2) ∧ spSign tp c res = .inl e ∧ PFg P fo h h2 ∧ PBad P h2 e) ∨ (∃ k2 g2 K2, Pa_expect T h' P c = some (1, h2) ∧ spSign tp c res = .inr (k2, g2, K2) ∧ PFg P fo h h2 ∧ PSt T h2 P tq tp fo md k2 g2 (op + 1) (K ++ K2))) := by
  obtain ⟨r1, r2, r3⟩ := hr
  cases res with
  | inl e => exact Or.inl ⟨(r2 e rfl).1, e, rfl, (r2 e rfl).2⟩
  | inr y =>
    obtain ⟨k1, g1, K1⟩ := y
    obtain ⟨rfl, hst⟩ := r3 k1 g1 K1 rfl
    obtain ⟨h2, x1, x2, x3, x4⟩ := hst.expect hc
    refine Or.inr ⟨rfl, h2, ?_⟩
    by_cases a : spTx tp k1 = c
    · rw [if_pos a] at x1
      refine Or.inr ⟨spPk tp (k1 + 1), g1, K1, x1, ?_, r1.tr x2, x3 a⟩
      show (if spTx tp k1 = c then _ else _) = _
      rw [if_pos a]
    · rw [if_neg a] at x1
      refine Or.inl ⟨(1, k1), x1, ?_, r1.tr x2, x4 a⟩
      show (if spTx tp k1 = c then _ else _) = _
      rw [if_neg a]
end PAH
