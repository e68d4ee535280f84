/-! what holds of halted states; giving up keeps what holds at all times -/
section HAL
variable {ns blk len : Nat} {b : Int}
theorem spInv_giv {s : spSt} (hI : spInv ns blk len b s) (hH : spHal s) (hl1 : s.2.2.2.2.2.2.2.2.2.1 = true) : spInv ns blk len b (spGiv ns len s).1 := by
  obtain ⟨⟨D, C⟩, ⟨F, lf⟩, ⟨q, fl, first⟩, ⟨wt, kp⟩, ⟨tab, stab, snap, tops⟩, ⟨sg, at', ser, gr, hl, tk⟩⟩ := s
  obtain ⟨i1, i2, i3, i4, i5, i6, i7⟩ := hI
  dsimp only at hl1
  obtain ⟨hq, hF, htp⟩ := hH hl1
  subst hq
  subst hF
  have hl5 := i1.1.len
  have hns := i1.1.1
  have hGD : spByD ns len (spGw (spGk D len ser sg at') D) := by
    intro s hs j hj
    unfold spGw
    split
    · omega
    · exact i1.2.1 s hs j hj
  have hGC : ∀ s k, s < ns → k < len → 0 ≤ spGw (spGk D len ser sg at') C s k ∧ spGw (spGk D len ser sg at') C s k ≤ 1 := by
    intro s k hs hk
    unfold spGw
    split
    · omega
    · exact i1.2.2 s k hs hk
  have hu : ∃ u : Nat → Nat, (∀ i, u i ≤ len) ∧ ∀ (x y : Nat), u x ≤ y ∧ ([] : spFl).length ≤ u 0 + u 1 + u 2 + u 3 ∧ ∀ i, u i ≠ 0 → ∃ e ∈ ([] : spFl), e.1 = i := ⟨fun _ => 0, fun _ => Nat.zero_le _, fun x y => ⟨Nat.zero_le _, Nat.zero_le _, fun i h => absurd rfl h⟩⟩
  obtain ⟨u, u1, u2⟩ := hu
  unfold spGiv
  dsimp only
  by_cases z : ser = 0
  · rw [if_pos z]
    refine ⟨⟨i1.1, spArrD_by (D := D) _ _ (fun e he => ?_) hGD, spArrC_in _ _ hGC⟩, i2, i3, i4, i5, ⟨by omega, by omega, wr_in _, wr_in _, i6.2.2.2.2⟩, u, u1, u2 0 5⟩
    have hm := spOut_mem _ _ _ he
    have h4 := hm.2.2.2
    unfold spHdB at h4
    rcases List.mem_append.mp h4 with h5 | h5
    · exact spHd4_in _ h5
    · have := spCk_in (spHd4 (wr (gr + 1)) first) 7 (by omega) (by omega)
      rw [List.mem_singleton.mp h5]
      omega
  · rw [if_neg z]
    exact ⟨⟨i1.1, hGD, hGC⟩, i2, i3, i4, i5, i6, u, u1, u2 sg at'⟩
theorem spChain_head {D : Nat → Nat → Int} {snap : Int} : ∀ (f s : Nat) (r : spR3), spHead (D s) = true → spHead (D (spChain D ns blk len snap f s r).2) = true := by
  intro f
  induction f with
  | zero => intro s r h; exact h
  | succ f ih =>
    intro s r h
    unfold spChain
    split
    · exact h
    · rename_i hne
      refine ih _ _ ?_
      have hp := (spPick_in (p := fun i => spHead (D i) && decide (spSer (D s) < spSer (D i)) && decide (spFst (D i) = (spRd D blk len snap s r).1)) (v := fun i => spSer (D i)) ns).2.2 hne
      simp only [Bool.and_eq_true] at hp
      exact hp.1.1
theorem spRecov_top {D : Nat → Nat → Int} {snap : Int} {stab : Nat → Int} (h : (spRecov D ns blk len snap stab).2.2.2.1 = 0) : (spRecov D ns blk len snap stab).1.2.2 0 = -1 := by
  unfold spRecov at h ⊢
  split
  · rfl
  · rename_i hne
    rw [if_neg hne] at h
    split
    · rfl
    · rename_i hge
      rw [if_neg hge] at h
      have hp := (spPick_in (p := fun i => spHead (D i) && decide (spFst (D i) ≤ snap)) (v := fun i => spSer (D i)) ns).2.2 hne
      simp only [Bool.and_eq_true] at hp
      have hh := spChain_head (ns := ns) (blk := blk) (len := len) (D := D) (snap := snap) 3 (spBegin D ns snap).toNat (spFst (D (spBegin D ns snap).toNat), stab, fun _ => -1) hp.1
      dsimp only at h
      unfold spHead at hh
      simp only [Bool.and_eq_true, decide_eq_true_eq] at hh
      exact absurd h hh.2
theorem spHal_cra {k : Nat} {s : spSt} : spHal (spCra ns blk len k s) := by
  obtain ⟨⟨D, C⟩, ⟨F, lf⟩, ⟨q, fl, first⟩, ⟨wt, kp⟩, ⟨tab, stab, snap, tops⟩, ⟨sg, at', ser, gr, hl, tk⟩⟩ := s
  exact fun _ => ⟨rfl, rfl, spRecov_top⟩
theorem spHal_tick {s : spSt} {p : spPl} {rule : Nat} (h : spHal s) : spHal (spTick p rule s).1 := by
  obtain ⟨⟨D, C⟩, ⟨F, lf⟩, ⟨q, fl, first⟩, ⟨wt, kp⟩, ⟨tab, stab, snap, tops⟩, ⟨sg, at', ser, gr, hl, tk⟩⟩ := s
  cases hl with
  | true =>
    obtain ⟨hq, hF, ht⟩ := h rfl
    subst hF
    have e1 : (spFl1 ((D, C), (([] : spFl), lf), (q, fl, first), (wt, kp), (tab, stab, snap, tops), (sg, at', ser, gr, true, tk))).1 = ((D, C), (([] : spFl), lf), (q, fl, first), (wt, kp), (tab, stab, snap, tops), (sg, at', ser, gr, true, tk)) := by
      unfold spFl1; dsimp only; rw [if_pos rfl]
    unfold spTick
    rw [e1]
    unfold spFl2
    rw [if_neg (fun hh => by have := hh.2.2.1; cases this)]
    exact fun _ => ⟨hq, rfl, ht⟩
  | false =>
    have hf : (spTick p rule ((D, C), (F, lf), (q, fl, first), (wt, kp), (tab, stab, snap, tops), (sg, at', ser, gr, false, tk))).1.2.2.2.2.2.2.2.2.2.1 = false := by
      unfold spTick spFl3
      dsimp only
      unfold spFl2 spClo
      have : (spFl1 ((D, C), (F, lf), (q, fl, first), (wt, kp), (tab, stab, snap, tops), (sg, at', ser, gr, false, tk))).1.2.2.2.2.2.2.2.2.2.1 = false := by
        unfold spFl1; dsimp only
        split
        · rfl
        · split <;> rfl
      split
      · split
        · exact this
        · exact this
      · exact this
    generalize (spTick p rule ((D, C), (F, lf), (q, fl, first), (wt, kp), (tab, stab, snap, tops), (sg, at', ser, gr, false, tk))).1 = s' at hf
    obtain ⟨⟨D, C⟩, ⟨F, lf⟩, ⟨q, fl, first⟩, ⟨wt, kp⟩, ⟨tab, stab, snap, tops⟩, ⟨sg, at', ser, gr, hl, tk⟩⟩ := s'
    dsimp only at hf
    subst hf
    exact fun h => by cases h
theorem spHal_app {k v sz : Int} {s : spSt} (hc : spCanA blk len k v sz s = true) : spHal (spApp k v sz s) := by
  obtain ⟨⟨D, C⟩, ⟨F, lf⟩, ⟨q, fl, first⟩, ⟨wt, kp⟩, ⟨tab, stab, snap, tops⟩, ⟨sg, at', ser, gr, hl, tk⟩⟩ := s
  intro h
  unfold spCanA at hc
  simp only [Bool.and_eq_true, decide_eq_true_eq] at hc
  have h1 := hc.1.1.1.1.1.1.1.1
  rw [h] at h1
  cases h1
theorem spHal_snp {s : spSt} (h : spHal s) : spHal (spSnp s) := by
  obtain ⟨⟨D, C⟩, ⟨F, lf⟩, ⟨q, fl, first⟩, ⟨wt, kp⟩, ⟨tab, stab, snap, tops⟩, ⟨sg, at', ser, gr, hl, tk⟩⟩ := s
  exact h
theorem spHal_wai {who num : Int} {s : spSt} (h : spHal s) : spHal (spWai who num s) := by
  obtain ⟨⟨D, C⟩, ⟨F, lf⟩, ⟨q, fl, first⟩, ⟨wt, kp⟩, ⟨tab, stab, snap, tops⟩, ⟨sg, at', ser, gr, hl, tk⟩⟩ := s
  exact h
theorem spHal_flp {s' k : Nat} {s : spSt} (h : spHal s) : spHal (spFlp s' k s) := by
  obtain ⟨⟨D, C⟩, ⟨F, lf⟩, ⟨q, fl, first⟩, ⟨wt, kp⟩, ⟨tab, stab, snap, tops⟩, ⟨sg, at', ser, gr, hl, tk⟩⟩ := s
  exact h
theorem spHal_giv {s : spSt} : spHal (spGiv ns len s).1 := by
  obtain ⟨⟨D, C⟩, ⟨F, lf⟩, ⟨q, fl, first⟩, ⟨wt, kp⟩, ⟨tab, stab, snap, tops⟩, ⟨sg, at', ser, gr, hl, tk⟩⟩ := s
  unfold spGiv
  dsimp only
  split
  · exact fun h => by cases h
  · exact fun h => by cases h
/-- what holds of every state that either machine holds -/
def spOK (ns blk len : Nat) (b : Int) (s : spSt) : Prop := spInv ns blk len b s ∧ spHal s
end HAL
