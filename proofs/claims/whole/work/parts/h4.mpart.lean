/-! the reference reads a part -/
theorem jloop_q {S O : Type} {f : S → Option (S ⊕ O)} {P : S → Prop} {Q : O → Prop} (hl : ∀ s s', P s → f s = some (.inl s') → P s') (hr : ∀ s o, P s → f s = some (.inr o) → Q o) {s : S} {o : O} (hs : P s) (h : jloop f s = some o) : Q o := by
  obtain ⟨n, hn⟩ := jloop_iff.mp h
  clear h
  induction n generalizing s with
  | zero => cases hn
  | succ n ih =>
    unfold jit at hn
    split at hn
    · cases hn
    · rename_i s' e
      exact ih (hl s s' hs e) hn
    · rename_i o' e
      cases hn
      exact hr s _ hs e
theorem m_code5 {o : Nat} {h h' : jH} {v : Int} (e : M_qCode h o v = some h') : h' o 5 = h o 5 := by
  unfold M_qCode at e
  split at e
  · cases e; rw [ju_ne (by decide), jup_ne (by omega)]
  · cases e
theorem m_drops5 {o : Nat} {h h' : jH} (e : M_qDrops h o = some h') : h' o 5 = h o 5 := by
  unfold M_qDrops at e
  split at e
  · cases e2 : M_qCode (jup h o 101 (wr (h o 101 - 1))) o ((jup h o 101 (wr (h o 101 - 1))) (o + 66) ((jup h o 101 (wr (h o 101 - 1))) o 101).toNat) with
    | none => rw [e2] at e; cases e
    | some b => rw [e2] at e; cases e; rw [m_code5 e2, ju_ne (by decide)]
  · cases e
theorem m_ends5 {o : Nat} {h h' : jH} (e : M_qEndsPart h o = some h') : h' o 5 = h o 5 := by
  refine jloop_q (f := fun s : jH => M_qEndsPart_B0 s o) (P := fun s => s o 5 = h o 5) (Q := fun s => s o 5 = h o 5) ?_ ?_ rfl e
  · intro s s' hs es
    have es' : M_qEndsPart_B0 s o = some (.inl s') := es
    unfold M_qEndsPart_B0 at es'
    split at es'
    · split at es'
      · split at es'
        · split at es'
          · cases es'
          · cases e2 : M_qDrops (jup s o 102 (wr (s o 102 - 1))) o with
            | none => rw [e2] at es'; cases es'
            | some b => rw [e2] at es'; cases es'; rw [m_drops5 e2, ju_ne (by decide)]; exact hs
        · cases es'
      · cases es'
    · cases es'
  · intro s s' hs es
    have es' : M_qEndsPart_B0 s o = some (.inr s') := es
    unfold M_qEndsPart_B0 at es'
    split at es'
    · split at es'
      · split at es'
        · split at es'
          · cases es'; exact hs
          · cases e2 : M_qDrops (jup s o 102 (wr (s o 102 - 1))) o with
            | none => rw [e2] at es'; cases es'
            | some b => rw [e2] at es'; cases es'
        · cases es'
      · cases es'; exact hs
    · cases es'; exact hs
theorem spLe_no {tp : List Int} {k : Nat} (h : spLt (spTx tp k) = false) : spLe tp k = k := by
  unfold spLe
  cases tp.length - k with
  | zero => rfl
  | succ f => unfold spLeN; rw [if_neg (by rw [h]; decide)]
theorem spWd_noLt {tp : List Int} {k : Nat} {g : Int} {w : List Int} (h : spLt (spTx tp k) = false) (hw : 1 ≤ w.length) : spWd tp g k w = false := by
  cases e : spWd tp g k w with
  | false => rfl
  | true => have := (spWd_len e).1; rw [spLe_no h] at this; omega
theorem spWq_noLt {tp : List Int} {k : Nat} {g : Int} (h : spLt (spTx tp k) = false) : spWq tp g k = -1 := by
  by_cases e : spWq tp g k = -1
  · exact e
  · have := (spWq_word e).2.2.1; rw [spLe_no h] at this; omega
theorem mBd.tr {o : Nat} {h h1 : jH} {X : Option jH} {e : Int × Nat} (f : MKg o h h1) (b : mBd o h1 X e) : mBd o h X e := by
  obtain ⟨h', a1, a2, a3⟩ := b
  exact ⟨h', a1, f.tr a2, a3⟩
def MKo (h : jH) (o : Nat) (tp : List Int) (md k : Nat) (g : Int) (op bs : Nat) (W C : List Int) : Prop := MSs h o tp k g ∧ MWd h o ∧ h o 44 = (md : Int) ∧ h o 102 = (op : Int) ∧ h o 103 = (bs : Int) ∧ MStk h o W C
section MPT
variable {o : Nat} {tp : List Int} {md k op bs : Nat} {g was : Int} {W C : List Int}
theorem MK.p {h : jH} (s : MK h o tp md k g op bs W C) : MKo h o tp md k g op bs W C := ⟨s.1, s.2.1, s.2.2.1, s.2.2.2.1, s.2.2.2.2.1, s.2.2.2.2.2.1⟩
theorem MKo.full {h : jH} (s : MKo h o tp md k g op bs W C) (hl : W.length + C.length ≤ k) : MK h o tp md k g op bs W C := ⟨s.1, s.2.1, s.2.2.1, s.2.2.2.1, s.2.2.2.2.1, s.2.2.2.2.2, hl⟩
theorem MKo.fr {h h' : jH} {k' : Nat} {g' : Int} (hs : MKo h o tp md k g op bs W C) (e : MFw o h h') (hs' : MSs h' o tp k' g') : MKo h' o tp md k' g' op bs W C := by
  obtain ⟨s1, s2, s3, s4, s5, ⟨s6, s7⟩, s8, s9⟩ := hs
  have ff : ∀ f, f ≠ 2 → f ≠ 4 → f ≠ 5 → f ≠ 6 → f ≠ 10 → h' o f = h o f := e.2
  exact ⟨hs', s2.fr (fun z z1 _ _ => e.1 z z1), by rw [ff 44 (by decide) (by decide) (by decide) (by decide) (by decide)]; exact s3, by rw [ff 102 (by decide) (by decide) (by decide) (by decide) (by decide)]; exact s4, by rw [ff 103 (by decide) (by decide) (by decide) (by decide) (by decide)]; exact s5, ⟨by rw [ff 101 (by decide) (by decide) (by decide) (by decide) (by decide)]; exact s6, fun i v hv => by rw [e.1 _ (by omega)]; exact s7 i v hv⟩, by rw [ff 99 (by decide) (by decide) (by decide) (by decide) (by decide)]; exact s8, fun i v hv => by rw [e.1 _ (by omega)]; exact s9 i v hv⟩
/-- a bracket is opened, if it may be -/
theorem k_open {h : jH} {v : Int} {pos : Nat} (hs : MK h o tp md k g op bs W C) (hop : op ≤ 6) : (op = 6 → ∃ h', M_qOpens h o v (pos : Int) = some h' ∧ MFw o h h' ∧ MBad o h' (4, pos)) ∧ (op ≤ 5 → ∃ h', M_qOpens h o v (pos : Int) = some h' ∧ MKg o h h' ∧ MKo h' o tp md k g (op + 1) bs (v :: W) C ∧ h' o 2 = h o 2) := by
  have hl := hs.1.le
  obtain ⟨s1, s2, s3, s4, s5, s6, s10⟩ := hs
  unfold M_qOpens
  rw [s1.2.2.2, if_pos rfl, s4]
  refine ⟨fun e => ?_, fun e => ?_⟩
  · obtain ⟨h1, a1, a2, a3, -⟩ := m_failAt (o := o) (h := h) (e := (4, pos)) s1.2.2.2 (show ¬ (4 : Int) = 0 by decide)
    rw [if_pos (by omega), show M_fail h o 4 (pos : Int) = _ from a1, Option.bind_some]
    exact ⟨h1, rfl, a2, a3⟩
  · rw [if_neg (by omega), ju_ne (show 101 ≠ 102 by decide), s6.1.1, if_pos (by omega), Int.toNat_natCast, jup_ne (by omega), ju_ne (show 101 ≠ 102 by decide), s6.1.1, pw (by omega) (by omega), pw (by omega) (by omega)]
    obtain ⟨h1, hh1⟩ : ∃ h1 : jH, h1 = jup h o 102 ((op : Int) + 1) := ⟨_, rfl⟩
    have go1 : ∀ z, z ≠ o → h1 z = h z := fun z z1 => by rw [hh1, jup_ne z1]
    have gf1 : ∀ f, f ≠ 102 → h1 o f = h o f := fun f hf => by rw [hh1, ju_ne hf]
    have q1 : MStk h1 o W C := ⟨⟨by rw [gf1 101 (by decide)]; exact s6.1.1, fun i v hv => by rw [go1 _ (by omega)]; exact s6.1.2 i v hv⟩, by rw [gf1 99 (by decide)]; exact s6.2.1, fun i v hv => by rw [go1 _ (by omega)]; exact s6.2.2 i v hv⟩
    have q2 := k_push (v := v) (show W.length < 1700 by omega) q1
    rw [← hh1]
    obtain ⟨h2, hh2⟩ : ∃ h2 : jH, h2 = jup (jup h1 (o + 66) W.length v) o 101 ((W.length : Int) + 1) := ⟨_, rfl⟩
    rw [← hh2] at q2 ⊢
    have go : ∀ z, z ≠ o → z ≠ o + 66 → h2 z = h z := fun z z1 z2 => by rw [hh2, jup_ne z1, jup_ne z2, go1 z z1]
    have gf : ∀ f, f ≠ 102 → f ≠ 101 → h2 o f = h o f := fun f hf hf2 => by rw [hh2, ju_ne hf2, jup_ne (by omega), gf1 f hf]
    exact ⟨h2, rfl, ⟨fun z z1 _ z3 => go z z1 z3, fun f _ _ _ _ _ _ f7 f8 _ => gf f f8 f7⟩, ⟨s1.fd (go _ (by omega) (by omega)) (fun f hf => gf f (by omega) (by omega)), s2.fr (fun z z1 _ z3 => go z z1 z3), by rw [gf 44 (by decide) (by decide)]; exact s3, by rw [hh2, ju_ne (by decide), jup_ne (by omega), hh1, ju_eq]; rfl, by rw [gf 103 (by decide) (by decide)]; exact s5, q2⟩, gf 2 (by decide) (by decide)⟩
theorem mFR_E {h : jH} (h5 : h o 5 = 0) : Option.bind (M_qEndsPart h o) (mFR o was) = mFE o was h := by
  unfold mFE
  cases e : M_qEndsPart h o with
  | none => rfl
  | some x =>
    rw [Option.bind_some, Option.bind_some]
    unfold mFR
    rw [if_pos (by rw [m_ends5 e]; exact h5)]
theorem mBd.R {h h1 : jH} {e : Int × Nat} (hf : MKg o h h1) (hb : MBad o h1 e) (hn : M99 o h1) : mBd o h (mFR o was h1) e := by
  unfold mFR
  rw [if_neg (by rw [hb.1]; exact hb.2.2)]
  exact mBd.of hf hb hn
theorem pt_step {h h' : jH} (hB : M_qPartTold_B2 h o 1 = some (.inl (1, h'))) : mFT o was h = mFT o was h' := by
  unfold mFT M_qPartTold_L2
  rw [jloop_l (f := fun s : (Int × jH) => M_qPartTold_B2 s.2 o s.1) (s := (1, h)) (s' := (1, h')) hB]
theorem pt_leave {h h' : jH} (hB : M_qPartTold_B2 h o 1 = some (.inl (0, h'))) : mFT o was h = Option.bind (M_qPartTold_p186 h' o) (mFR o was) := by
  unfold mFT M_qPartTold_L2
  rw [jloop_l (f := fun s : (Int × jH) => M_qPartTold_B2 s.2 o s.1) (s := (1, h)) (s' := (0, h')) hB]
  rw [jloop_x (f := fun s : (Int × jH) => M_qPartTold_B2 s.2 o s.1) (s := (0, h')) (X := M_qPartTold_p186 h' o) (show M_qPartTold_B2 h' o 0 = _ by unfold M_qPartTold_B2; rw [if_pos (show (0 : Int) = 0 from rfl)])]
theorem pt_bad {h : jH} (h5 : h o 5 ≠ 0) : mFT o was h = mFR o was h := by
  unfold mFT M_qPartTold_L2
  rw [jloop_x (f := fun s : (Int × jH) => M_qPartTold_B2 s.2 o s.1) (s := (1, h)) (X := some h) (show M_qPartTold_B2 h o 1 = _ by unfold M_qPartTold_B2 M_qPartTold_p186; rw [if_neg (show ¬ (1 : Int) = 0 by decide), if_neg h5, if_neg h5])]
  rfl
theorem mBd.T {h h1 : jH} {e : Int × Nat} (hf : MKg o h h1) (hb : MBad o h1 e) (hn : M99 o h1) : mBd o h (mFT o was h1) e := by
  rw [pt_bad (by rw [hb.1]; exact hb.2.2)]
  exact mBd.R hf hb hn
theorem MBad.fd {h h' : jH} {e : Int × Nat} (hb : MBad o h e) (e5 : h' o 5 = h o 5) (e6 : h' o 6 = h o 6) : MBad o h' e := ⟨e5.trans hb.1, e6.trans hb.2.1, hb.2.2⟩
theorem m_asksBad {h : jH} {r n : Nat} (h5 : h o 5 ≠ 0) : M_asks h o r n = some h := by unfold M_asks; rw [if_neg h5]
theorem m_signBad {h : jH} {c : Int} (h5 : h o 5 ≠ 0) : M_asksSign h o c = some h := by unfold M_asksSign; rw [if_neg h5]
theorem m_wordBad {h : jH} {v : Int} (h5 : h o 5 ≠ 0) : M_qAsksWord h o v = some h := by
  unfold M_qAsksWord
  rw [m_asksBad h5, m_asksBad h5, m_asksBad h5, m_asksBad h5, m_asksBad h5, m_asksBad h5, m_asksBad h5, m_asksBad h5, m_asksBad h5, m_asksBad h5, m_asksBad h5, Option.bind_some]
  split
  · rfl
  split
  · rfl
  split
  · rfl
  split
  · rfl
  split
  · rfl
  split
  · rfl
  split
  · rfl
  split
  · rfl
  split
  · rfl
  split <;> rfl
theorem MKo.ju2 {h : jH} (hs : MKo h o tp md k g op bs W C) (h2 : h o 2 = (k : Int)) (hk : k < tp.length) (hb : W.length + C.length ≤ k + 1) : MKg o h (jup h o 2 (wr (h o 2 + 1))) ∧ MK (jup h o 2 (wr (h o 2 + 1))) o tp md (spPk tp (k + 1)) g op bs W C := by
  have hl := hs.1.le
  have hpk := (spPk_in (tp := tp) (k + 1)).1
  have f2 : MFw o h (jup h o 2 (wr (h o 2 + 1))) := ⟨fun z hz => by rw [jup_ne hz], fun f f2 _ _ _ _ => by rw [ju_ne f2]⟩
  refine ⟨f2.k, (hs.fr f2 (hs.1.mv f2 (a := k + 1) (by rw [ju_eq, h2, pw (by omega) (by omega)]; rfl) hk (by rw [ju_ne (by decide)]; exact hs.1.2.2.1) (by rw [ju_ne (by decide)]; exact hs.1.2.2.2) (by rw [ju_ne (by decide)]))).full (by omega)⟩
/-- before a part: what stands there -/
theorem pt_pre (hmd : md = 0 ∨ md = 1 ∨ md = 2) {h : jH} (hs : MK h o tp md k g op bs W C) : ∃ h2, MFw o h h2 ∧ MK h2 o tp md k g op bs W C ∧ h2 o 2 = (k : Int) ∧ M_qPartTold_B2 h o 1 = (if spTx tp k = 40 then Option.bind (M_qOpens h2 o 20 (k : Int)) (fun b6 => some (.inl (1, (jup b6 o 2 (wr ((b6 o 2) + 1)))))) else Option.bind (M_isHere h2 o (o + 53) 3) (fun b7 => (if b7.1 = 0 then Option.bind (M_isHere b7.2 o (o + 54) 3) (fun b9 => (if b9.1 = 0 then (if (if 9 ≤ spWq tp g k ∧ spWq tp g k < 11 ∧ spAld md (spWq tp g k) = true then spWq tp g k else -1) = (-1) then some (.inl (0, b9.2)) else Option.bind (M_qOpens b9.2 o (wr ((wr (60 + (if 9 ≤ spWq tp g k ∧ spWq tp g k < 11 ∧ spAld md (spWq tp g k) = true then spWq tp g k else -1))) - 9)) (b9.2 o 2)) (fun b12 => Option.bind (M_qAsksWord b12 o (if 9 ≤ spWq tp g k ∧ spWq tp g k < 11 ∧ spAld md (spWq tp g k) = true then spWq tp g k else -1)) (fun b13 => some (.inl (1, b13))))) else M_qPartTold_p78 b9.2 o 1)) else M_qPartTold_p78 b7.2 o 1))) := by
  obtain ⟨h1, a1, a2, a3, a4, -⟩ := m_look hs.1
  have s1 := hs.fr a2 a4 (Nat.le_refl _)
  obtain ⟨h2, b1, b2, b3, b4⟩ := k_wordOf (lo := 9) (hi := 11) hmd s1.2.1 s1.2.2.1 s1.1
  refine ⟨h2, a2.tr b2, s1.fr b2 b3 (Nat.le_refl _), b4, ?_⟩
  unfold M_qPartTold_B2
  rw [if_neg (show ¬ (1 : Int) = 0 by decide), if_pos hs.1.2.2.2, a1, Option.bind_some]
  dsimp only
  rw [b1, Option.bind_some]
  dsimp only
  rw [b4]
theorem pt_par (hmd : md = 0 ∨ md = 1 ∨ md = 2) (hop : op ≤ 6) {h : jH} (hs : MK h o tp md k g op bs W C) (hc : spTx tp k = 40) : (op = 6 → mBd o h (mFT o was h) (4, k)) ∧ (op ≤ 5 → ∃ h', mFT o was h = mFT o was h' ∧ MKg o h h' ∧ MK h' o tp md (spPk tp (k + 1)) g (op + 1) bs (20 :: W) C) := by
  obtain ⟨h2, a1, a2, a3, a4⟩ := pt_pre hmd hs
  rw [if_pos hc] at a4
  have hk : k < tp.length := spByt_neg hc (by decide)
  obtain ⟨o6, o5⟩ := k_open (v := 20) (pos := k) a2 hop
  refine ⟨fun e => ?_, fun e => ?_⟩
  · obtain ⟨h3, b1, b2, b3⟩ := o6 e
    rw [b1, Option.bind_some] at a4
    rw [pt_step a4]
    have f4 : MKg o h3 (jup h3 o 2 (wr (h3 o 2 + 1))) := ⟨fun z z1 _ _ => jup_ne z1, fun f f2 _ _ _ _ _ _ _ _ => ju_ne f2⟩
    exact mBd.T (a1.k.tr (b2.k.tr f4)) (b3.fd (by rw [ju_ne (by decide)]) (by rw [ju_ne (by decide)])) ((a2.c99.fw b2).eq (ju_ne (by decide)))
  · obtain ⟨h3, b1, b2, b3, b4⟩ := o5 e
    rw [b1, Option.bind_some] at a4
    have hbd := hs.2.2.2.2.2.2
    obtain ⟨f4, s4⟩ := b3.ju2 (b4.trans a3) hk (by rw [List.length_cons]; omega)
    exact ⟨_, pt_step a4, a1.k.tr (b2.tr f4), s4⟩
/-- behind min, max -/
theorem pt_101 (hop : op ≤ 6) {h h0 : jH} {v : Int} (hf : MKg o h h0) (hs : MK h0 o tp md k g op bs W C) (hv : v = 0 ∨ v = 1) (hB : M_qPartTold_B2 h o 1 = M_qPartTold_p101 h0 o 1 v) : (spTx tp k ≠ 40 → mBd o h (mFT o was h) (1, k)) ∧ (spTx tp k = 40 → op = 6 → mBd o h (mFT o was h) (4, k)) ∧ (spTx tp k = 40 → op ≤ 5 → ∃ h', mFT o was h = mFT o was h' ∧ MKg o h h' ∧ MK h' o tp md (spPk tp (k + 1)) g (op + 1) bs ((if v = 0 then 22 else 21) :: W) C) := by
  obtain ⟨h1, a1, a2, a3, a4, -⟩ := m_look hs.1
  have s1 := hs.fr a2 a4 (Nat.le_refl _)
  have hbd := hs.2.2.2.2.2.2
  unfold M_qPartTold_p101 at hB
  rw [a1, Option.bind_some] at hB
  dsimp only at hB
  refine ⟨fun hc => ?_, fun hc e => ?_, fun hc e => ?_⟩
  · obtain ⟨h2, b1, b2, b3, b4⟩ := m_asksSign (c := 40) (by decide) s1.1
    rw [if_neg hc] at hB
    unfold M_qPartTold_p118 M_qPartTold_p144 at hB
    rw [if_pos (show (-1 : Int) = -1 from rfl), b1, Option.bind_some] at hB
    rw [pt_step hB]
    exact mBd.T (hf.tr (a2.k.tr b2.k)) (b4 hc) (s1.c99.fw b2)
  · obtain ⟨h2, b1, b2, b3⟩ := (k_open (v := if v = 0 then 22 else 21) (pos := k) s1 hop).1 e
    have h5 : h2 o 5 ≠ 0 := by rw [b3.1]; exact b3.2.2
    rw [if_pos hc] at hB
    unfold M_qPartTold_p118 M_qPartTold_p139 M_qPartTold_p144 at hB
    rw [a3, if_neg (show ¬ (k : Int) = -1 by omega)] at hB
    have hB2 : M_qPartTold_B2 h o 1 = some (.inl (1, h2)) := by
      rw [hB]
      rcases hv with rfl | rfl
      · rw [if_pos rfl] at b1 ⊢
        rw [b1, Option.bind_some, m_signBad h5, Option.bind_some]
      · rw [if_neg (by decide)] at b1 ⊢
        rw [b1, Option.bind_some, m_signBad h5, Option.bind_some]
    rw [pt_step hB2]
    exact mBd.T (hf.tr (a2.k.tr b2.k)) b3 (s1.c99.fw b2)
  · obtain ⟨h2, b1, b2, b3, b4⟩ := (k_open (v := if v = 0 then 22 else 21) (pos := k) s1 hop).2 e
    obtain ⟨h3, c1, c2, c3, c4⟩ := m_asksSign (c := 40) (by decide) b3.1
    have hpk := (spPk_in (tp := tp) (k + 1)).1
    rw [if_pos hc] at hB
    unfold M_qPartTold_p118 M_qPartTold_p139 M_qPartTold_p144 at hB
    rw [a3, if_neg (show ¬ (k : Int) = -1 by omega)] at hB
    have hB2 : M_qPartTold_B2 h o 1 = some (.inl (1, h3)) := by
      rw [hB]
      rcases hv with rfl | rfl
      · rw [if_pos rfl] at b1 ⊢
        rw [b1, Option.bind_some, c1, Option.bind_some]
      · rw [if_neg (by decide)] at b1 ⊢
        rw [b1, Option.bind_some, c1, Option.bind_some]
    exact ⟨h3, pt_step hB2, hf.tr (a2.k.tr (b2.tr c2.k)), (b3.fr c2 (c3 hc).1).full (by rw [List.length_cons]; omega)⟩
end MPT
