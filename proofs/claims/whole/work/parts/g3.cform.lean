/-! reading a formula: the class -/
def PFg (P fo : Nat) (h h' : jH) : Prop := (∀ z, z ≠ P → z ≠ fo → z ≠ fo + 1 → h' z = h z) ∧ (∀ f, f ≠ 3 → f ≠ 4 → f ≠ 7 → f ≠ 8 → f ≠ 11 → h' P f = h P f) ∧ ∀ f, f ≠ 1 → h' fo f = h fo f
theorem PFg.rf {P fo : Nat} {h : jH} : PFg P fo h h := ⟨fun _ _ _ _ => rfl, fun _ _ _ _ _ _ => rfl, fun _ _ => rfl⟩
theorem PFg.tr {P fo : Nat} {h h1 h2 : jH} (a : PFg P fo h h1) (b : PFg P fo h1 h2) : PFg P fo h h2 := ⟨fun z x y w => (b.1 z x y w).trans (a.1 z x y w), fun f x1 x2 x3 x4 x5 => (b.2.1 f x1 x2 x3 x4 x5).trans (a.2.1 f x1 x2 x3 x4 x5), fun f x => (b.2.2 f x).trans (a.2.2 f x)⟩
theorem PFw.g {P fo : Nat} {h h' : jH} (hne : fo ≠ P) (a : PFw P h h') : PFg P fo h h' := ⟨fun z x _ _ => a.1 z x, fun f x1 x2 x3 x4 _ => a.2 f x1 x2 x3 x4, fun f _ => by rw [a.1 fo hne]⟩
/-- where the formula goes -/
def PFo (T : jT) (h : jH) (P tq fo md op : Nat) (K : List Int) : Prop := (h P 9 = (fo : Int) ∧ isX2 T fo ∧ h P 10 = (md : Int) ∧ (fo ≠ P ∧ fo + 1 ≠ P ∧ fo ≠ tq ∧ fo + 1 ≠ tq)) ∧ h P 11 = (op : Int) ∧ CFm h fo K
def PSt (T : jT) (h : jH) (P tq : Nat) (tp : List Int) (fo md k : Nat) (g : Int) (op : Nat) (K : List Int) : Prop := PSs T h P tq tp k g ∧ PFo T h P tq fo md op K ∧ K.length ≤ k
def PRs (T : jT) (P tq : Nat) (tp : List Int) (fo md op : Nat) (K : List Int) (res : spR) (h h' : jH) (v : Int) : Prop := PFg P fo h h' ∧ (∀ e, res = .inl e → v = 0 ∧ PBad P h' e) ∧ ∀ k2 g2 K2, res = .inr (k2, g2, K2) → v = 1 ∧ PSt T h' P tq tp fo md k2 g2 op (K ++ K2)
/-- a class's reader reads as it should -/
def PRd (T : jT) (P tq : Nat) (tp : List Int) (fo md op : Nat) (F : jH → Option (Int × jH)) (R : spF) : Prop := ∀ (h : jH) (k : Nat) (g : Int) (K : List Int), PSt T h P tq tp fo md k g op K → ∃ h' v, F h = some (v, h') ∧ PRs T P tq tp fo md op K (R k g) h h' v
theorem spByt_neg {tp : List Int} {k : Nat} {c : Int} (h : spTx tp k = c) (hc : c ≠ -1) : k < tp.length := spTx_lt (by rw [h]; exact hc)
section PAF
variable {T : jT} {P tq : Nat} {tp : List Int} {fo md op k : Nat} {g : Int} {K : List Int}
theorem PFo.fr {h h' : jH} (hf : PFo T h P tq fo md op K) (e : PFw P h h') : PFo T h' P tq fo md op K := by
  obtain ⟨⟨f1, f2, f3, f4⟩, f5, f6⟩ := hf
  refine ⟨⟨by rw [e.2 9 (by decide) (by decide) (by decide) (by decide)]; exact f1, f2, by rw [e.2 10 (by decide) (by decide) (by decide) (by decide)]; exact f3, f4⟩, by rw [e.2 11 (by decide) (by decide) (by decide) (by decide)]; exact f5, ?_⟩
  unfold CFm
  rw [e.1 fo f4.1, e.1 (fo + 1) f4.2.1]
  exact f6
theorem PSt.fr {h h' : jH} {k' : Nat} {g' : Int} (hs : PSt T h P tq tp fo md k g op K) (e : PFw P h h') (hs' : PSs T h' P tq tp k' g') (hk : k ≤ k') : PSt T h' P tq tp fo md k' g' op K := ⟨hs', hs.2.1.fr e, Nat.le_trans hs.2.2 hk⟩
theorem PSt.dyn {h : jH} (hs : PSt T h P tq tp fo md k g op K) : jdyn (isX2 T) (h P 9) = some fo := by rw [hs.2.1.1.1]; exact jdyn_at hs.2.1.1.2.1
theorem PSt.ne {h : jH} (hs : PSt T h P tq tp fo md k g op K) : fo ≠ P := hs.2.1.1.2.2.2.1
theorem c_emitAny {h : jH} {v : Int} : ∃ h', Fo_emit h fo v = some h' ∧ (∀ z, z ≠ fo → z ≠ fo + 1 → h' z = h z) ∧ ∀ f, f ≠ 1 → h' fo f = h fo f := by
  unfold Fo_emit
  rw [g_put]
  simp only [Option.bind_some]
  refine ⟨_, rfl, fun z z1 z2 => ?_, fun f hf => ?_⟩
  · rw [jup_ne z1]
    split
    · exact jup_ne z2
    · rfl
  · rw [ju_ne hf]
    split
    · exact congrFun (jup_ne (by omega)) f
    · rfl
theorem c_emit {h : jH} {c : Int} (hf : CFm h fo K) (hK : K.length < 1600) : ∃ h', Fo_emit h fo (spTr c) = some h' ∧ (∀ z, z ≠ fo → z ≠ fo + 1 → h' z = h z) ∧ (∀ f, f ≠ 1 → h' fo f = h fo f) ∧ CFm h' fo (K ++ [c]) := by
  obtain ⟨c1, c2, c3⟩ := hf
  unfold Fo_emit
  rw [c1, g_putN hK]
  simp only [Option.bind_some]
  rw [jup_ne (by omega), c1, pw (by omega) (by omega)]
  refine ⟨_, rfl, fun z z1 z2 => by rw [jup_ne z1, jup_ne z2], fun f hf => by rw [ju_ne hf, jup_ne (by omega)], by rw [ju_eq, List.length_append]; rfl, by rw [List.length_append]; show K.length + 1 ≤ 1600; omega, fun j w hj => ?_⟩
  rw [jup_ne (by omega), ju_if]
  by_cases e : j = K.length
  · rw [if_pos e]
    rw [e, List.getElem?_append_right (Nat.le_refl _), Nat.sub_self] at hj
    rw [Option.some.inj hj]
  · rw [if_neg e]
    have := (List.getElem?_eq_some_iff.mp hj).1
    rw [List.length_append] at this
    have h1 : j < K.length := by
      have h2 : ([c] : List Int).length = 1 := rfl
      omega
    rw [List.getElem?_append_left h1] at hj
    exact c3 j w hj
/-- a code is told -/
theorem PSt.emit {h : jH} {c : Int} (hs : PSt T h P tq tp fo md k g op K) (hK : K.length + 1 ≤ k) : ∃ h', Fo_emit h fo (spTr c) = some h' ∧ PFg P fo h h' ∧ PSt T h' P tq tp fo md k g op (K ++ [c]) := by
  obtain ⟨⟨s1, s2, s3⟩, ⟨⟨f1, f2, f3, f4⟩, f5, f6⟩, s4⟩ := hs
  have hl := PSs.le ⟨s1, s2, s3⟩
  obtain ⟨h', e1, e2, e3, e4⟩ := c_emit (c := c) f6 (by omega)
  have eP : h' P = h P := e2 P (Ne.symm f4.1) (Ne.symm f4.2.1)
  have eT : h' tq = h tq := e2 tq (Ne.symm f4.2.2.1) (Ne.symm f4.2.2.2)
  refine ⟨h', e1, ⟨fun z _ z2 z3 => e2 z z2 z3, fun f _ _ _ _ _ => by rw [eP], e3⟩, ⟨⟨by rw [eP]; exact s1.1, s1.2.1, s1.2.2.1, by rw [eP]; exact s1.2.2.2.1, s1.2.2.2.2.1, s1.2.2.2.2.2.1, fun j v hj => by rw [eT]; exact s1.2.2.2.2.2.2 j v hj⟩, by rw [eP]; exact s2, by rw [eP]; exact s3⟩, ⟨⟨by rw [eP]; exact f1, f2, by rw [eP]; exact f3, f4⟩, by rw [eP]; exact f5, e4⟩, ?_⟩
  rw [List.length_append]
  exact hK
/-- a code is told where all has failed -/
theorem PBad.emit {h : jH} {v : Int} {e : Int × Nat} (hb : PBad P h e) (h1 : fo ≠ P) (h2 : fo + 1 ≠ P) : ∃ h', Fo_emit h fo v = some h' ∧ PFg P fo h h' ∧ PBad P h' e := by
  obtain ⟨h', e1, e2, e3⟩ := c_emitAny (fo := fo) (h := h) (v := v)
  have eP : h' P = h P := e2 P (Ne.symm h1) (Ne.symm h2)
  exact ⟨h', e1, ⟨fun z _ z2 z3 => e2 z z2 z3, fun f _ _ _ _ _ => by rw [eP], e3⟩, by unfold PBad; rw [eP]; exact hb⟩
theorem PRs.bad {h h' : jH} {e : Int × Nat} (a : PFg P fo h h') (b : PBad P h' e) : PRs T P tq tp fo md op K (.inl e) h h' 0 := ⟨a, fun e' he => ⟨rfl, by rw [← Sum.inl.inj he]; exact b⟩, fun _ _ _ he => (by cases he)⟩
theorem PRs.good {h h' : jH} {k2 : Nat} {g2 : Int} {K2 : List Int} (a : PFg P fo h h') (b : PSt T h' P tq tp fo md k2 g2 op (K ++ K2)) : PRs T P tq tp fo md op K (.inr (k2, g2, K2)) h h' 1 := ⟨a, fun _ he => (by cases he), fun k3 g3 K3 he => by
  obtain ⟨rfl, h2⟩ := Prod.mk.inj (Sum.inr.inj he)
  obtain ⟨rfl, rfl⟩ := Prod.mk.inj h2
  exact ⟨rfl, b⟩⟩
theorem PRs.fr {h0 h h' : jH} {v : Int} {res : spR} (a : PFg P fo h0 h) (b : PRs T P tq tp fo md op K res h h' v) : PRs T P tq tp fo md op K res h0 h' v := ⟨a.tr b.1, b.2⟩
theorem PFg.dyn {h h' : jH} (a : PFg P fo h h') (hs : PSt T h P tq tp fo md k g op K) : jdyn (isX2 T) (h' P 9) = some fo := by
  rw [a.2.1 9 (by decide) (by decide) (by decide) (by decide) (by decide)]; exact hs.dyn
/-- the next byte taken -/
theorem PSt.next {h : jH} (hs : PSt T h P tq tp fo md k g op K) (h7 : h P 7 = (k : Int)) (hk : k < tp.length) : PFw P h (jup h P 7 (wr (h P 7 + 1))) ∧ PSt T (jup h P 7 (wr (h P 7 + 1))) P tq tp fo md (spPk tp (k + 1)) g op K := by
  have hl := hs.1.le
  have hf : PFw P h (jup h P 7 (wr (h P 7 + 1))) := ⟨fun z hz => jup_ne hz, fun f _ _ f7 _ => ju_ne f7⟩
  have hp := (spPk_in (tp := tp) (k + 1)).1
  exact ⟨hf, hs.fr hf (hs.1.mv hf (a := k + 1) (by rw [ju_eq, h7, pw (by omega) (by omega)]; rfl) hk (by rw [ju_ne (by decide)]; exact hs.1.2.2) (by rw [ju_ne (by decide)]) (by rw [ju_ne (by decide)])) (by omega)⟩
theorem spEmt_r {c : List Int} {k : Nat} {g : Int} {K : List Int} : spEmt c (.inr (k, g, K)) = .inr (k, g, K ++ c) := rfl
theorem spEmt_l {c : List Int} {e : Int × Nat} : spEmt c (.inl e) = .inl e := rfl
theorem spThen_l {L : Nat → Int → spR} {e : Int × Nat} : spThen (.inl e) L = .inl e := rfl
theorem PRs.seq {h h1 h' : jH} {v : Int} {k1 : Nat} {g1 : Int} {K1 : List Int} {L : Nat → Int → spR} (a : PFg P fo h h1) (b : PRs T P tq tp fo md op (K ++ K1) (L k1 g1) h1 h' v) : PRs T P tq tp fo md op K (spThen (.inr (k1, g1, K1)) L) h h' v := by
  obtain ⟨b1, b2, b3⟩ := b
  cases hL : L k1 g1 with
  | inl e =>
    have e1 : spThen (.inr (k1, g1, K1)) L = .inl e := by
      show (match L k1 g1 with | .inl e => Sum.inl e | .inr (k2, g2, K2) => .inr (k2, g2, K1 ++ K2)) = _
      rw [hL]
    rw [e1]
    obtain ⟨rfl, hb⟩ := b2 e hL
    exact PRs.bad (a.tr b1) hb
  | inr y =>
    obtain ⟨k2, g2, K2⟩ := y
    have e1 : spThen (.inr (k1, g1, K1)) L = .inr (k2, g2, K1 ++ K2) := by
      show (match L k1 g1 with | .inl e => Sum.inl e | .inr (k2, g2, K2) => .inr (k2, g2, K1 ++ K2)) = _
      rw [hL]
    rw [e1]
    obtain ⟨rfl, hb⟩ := b3 k2 g2 K2 hL
    rw [List.append_assoc] at hb
    exact PRs.good (a.tr b1) hb
theorem c_prodL {rec : jRec} {R : spF} (hR : PRd T P tq tp fo md op (fun h => rec.2.2.2.2.2.2.1 h P) R) (hG : spGr tp R) : ∀ (f i : Nat) (h : jH) (k : Nat) (g : Int) (K : List Int), i + f = 1600 → PSt T h P tq tp fo md k g op K → ∃ h' v, Pa_product_L7 T rec h P 1 (i : Int) = some (v, h') ∧ PRs T P tq tp fo md op K (spProdL tp R f k g) h h' v := by
  have stop0 : ∀ (h : jH) (i : Int), Pa_product_L7 T rec h P 0 i = some (0, h) := by
    intro h i
    unfold Pa_product_L7
    refine jloop_r ?_
    show Pa_product_B7 T rec h P 0 i = _
    unfold Pa_product_B7
    rw [if_pos (Or.inl rfl), if_pos rfl]
    split <;> rfl
  intro f
  induction f with
  | zero =>
    intro i h k g K hi hs
    refine ⟨h, 1, ?_, PRs.good PFg.rf (by rw [List.append_nil]; exact hs)⟩
    unfold Pa_product_L7
    refine jloop_r ?_
    show Pa_product_B7 T rec h P 1 (i : Int) = _
    unfold Pa_product_B7
    rw [if_neg (by omega), if_pos (Or.inr rfl)]
    rfl
  | succ f ih =>
    intro i h k g K hi hs
    obtain ⟨h1, e1, e2, e3, e4, -, -, e5⟩ := c_peek hs.1
    have hs1 := hs.fr e2 e5 (Nat.le_refl _)
    have hne := hs.ne
    have hl := hs.1.le
    unfold spProdL
    by_cases c : spTx tp k = 42 ∨ spTx tp k = 47
    rotate_left
    · rw [if_neg c]
      refine ⟨h1, 1, ?_, PRs.good (e2.g hne) (by rw [List.append_nil]; exact hs1)⟩
      unfold Pa_product_L7
      refine jloop_r ?_
      show Pa_product_B7 T rec h P 1 (i : Int) = _
      unfold Pa_product_B7
      rw [if_pos (by omega), if_neg (by decide), e1]
      simp only [Option.bind_some]
      rw [if_neg (fun e => c (Or.inl e)), if_neg (fun e => c (Or.inr e))]
      rfl
    rw [if_pos c]
    have hk : k < tp.length := by rcases c with c | c; exact spByt_neg c (by decide); exact spByt_neg c (by decide)
    obtain ⟨hf2, hs2⟩ := hs1.next e3 hk
    obtain ⟨h2, v, x1, x2, x3, x4⟩ := hR _ _ _ _ hs2
    have hB : ∀ (h3 : jH), Fo_emit h2 fo (spTr (if spTx tp k = 42 then 3 else 4)) = some h3 → Pa_product_B7 T rec h P 1 (i : Int) = some (.inl (v, ((i + 1 : Nat) : Int), h3)) := by
      intro h3 hem
      have hdy := ((hf2.g hne).tr x2).dyn hs1
      unfold Pa_product_B7 Pa_product_p37 Pa_product_p71
      rw [if_pos (by omega), if_neg (by decide), e1]
      simp only [Option.bind_some]
      have x1' : rec.2.2.2.2.2.2.1 (jup h1 P 7 (wr (h1 P 7 + 1))) P = some (v, h2) := x1
      rw [x1']
      simp only [Option.bind_some]
      rw [hdy]
      simp only [Option.bind_some]
      rw [pw (x := (i : Int) + 1) (by omega) (by omega)]
      by_cases c1 : spTx tp k = 42
      · rw [if_pos c1, if_pos c1]
        rw [if_pos c1] at hem
        rw [show (30007 : Int) = spTr 3 from rfl, hem]
        rfl
      · have c2 : spTx tp k = 47 := c.resolve_left c1
        rw [if_neg c1, if_pos c2, if_neg c1]
        rw [if_neg c1] at hem
        rw [show (30008 : Int) = spTr 4 from rfl, hem]
        rfl
    cases hr : R (spPk tp (k + 1)) g with
    | inl e =>
      obtain ⟨rfl, hb⟩ := x3 e hr
      obtain ⟨h3, y1, y2, y3⟩ := hb.emit (v := spTr (if spTx tp k = 42 then 3 else 4)) hne hs.2.1.1.2.2.2.2.1
      rw [spEmt_l, spThen_l]
      refine ⟨h3, 0, ?_, PRs.bad (((e2.g hne).tr ((hf2.g hne).tr x2)).tr y2) y3⟩
      refine Eq.trans ?_ (stop0 h3 ((i + 1 : Nat) : Int))
      unfold Pa_product_L7
      refine jloop_l (s' := ((0 : Int), ((i + 1 : Nat) : Int), h3)) ?_
      show Pa_product_B7 T rec h P 1 (i : Int) = _
      exact hB h3 y1
    | inr y =>
      obtain ⟨k1, g1, K1⟩ := y
      obtain ⟨rfl, hst⟩ := x4 k1 g1 K1 hr
      have hgr := hG _ _ _ _ _ hr
      have hp := (spPk_in (tp := tp) (k + 1)).1
      obtain ⟨h3, y1, y2, y3⟩ := hst.emit (c := if spTx tp k = 42 then 3 else 4) (by rw [List.length_append]; have := hs.2.2; omega)
      obtain ⟨h4, v4, z1, z2⟩ := ih (i + 1) h3 k1 g1 _ (by omega) y3
      have hfr := ((e2.g hne).tr ((hf2.g hne).tr x2)).tr y2
      refine ⟨h4, v4, ?_, ?_⟩
      · refine Eq.trans ?_ z1
        unfold Pa_product_L7
        refine jloop_l (s' := ((1 : Int), ((i + 1 : Nat) : Int), h3)) ?_
        show Pa_product_B7 T rec h P 1 (i : Int) = _
        exact hB h3 y1
      · rw [spEmt_r]
        rw [List.append_assoc] at z2
        exact PRs.seq hfr z2
end PAF
