/-! a crash, on both sides -/
section CRA
variable {ns blk len : Nat}
theorem c_wipeL {od s : Nat} (hd0 : spDim ns blk len) (hs : s < ns) : ∀ (m k : Nat) (h : jH) (D C : Nat → Nat → Int) (acc : Int), k + m = len → CD h od ns blk len D C → 0 ≤ acc → acc + (m : Int) ≤ 1000000 → ∃ h', Di_wipe_L5 h od (s : Int) acc (k : Int) = some (acc + spNz (D s) m k, h') ∧ (∀ z, z ≠ od + 1 → z ≠ od + 2 → h' z = h z) ∧ CD h' od ns blk len (spWipe D s k) (spWipe C s k) := by
  have hl := hd0.len
  have hn4 := hd0.2.1
  unfold Di_wipe_L5
  intro m
  induction m with
  | zero =>
    intro k h D C acc hk hc h0 h1
    refine ⟨h, jloop_r ?_, fun _ _ _ => rfl, ?_⟩
    · show Di_wipe_B5 h od (s : Int) acc (k : Int) = _
      unfold Di_wipe_B5
      rw [hc.2.1, if_neg (by omega)]
      simp [spNz]
    · obtain ⟨x1, x2, x3, x4, x5, x6⟩ := hc
      refine ⟨x1, x2, x3, fun s' k' hs' hk' => ?_, fun s' k' hs' hk' => ?_, x6⟩
      · unfold spWipe; rw [if_neg (by omega)]; exact x4 s' k' hs' hk'
      · unfold spWipe; rw [if_neg (by omega)]; exact x5 s' k' hs' hk'
  | succ m ih =>
    intro k h D C acc hk hc h0 h1
    have hkl : k < len := by omega
    obtain ⟨h1', e1, e2, e3⟩ := c_write (v := 0) hd0 hc hs hkl rfl
    have hadr := hd0.adr hs hkl
    have hmul : ((s * len : Nat) : Int) = (s : Int) * (len : Int) := Int.natCast_mul s len
    obtain ⟨h', w1, w2, w3⟩ := ih (k + 1) h1' _ _ (acc + (if D s k = 0 then 0 else 1)) (by omega) e3 (by split <;> omega) (by split <;> omega)
    rw [spWipe_step, spWipe_step] at w3
    have hz : spNz (up2 D s k 0 s) m (k + 1) = spNz (D s) m (k + 1) := spNz_congr m (k + 1) (fun j hj => by unfold up2; rw [if_neg (by omega)])
    rw [hz] at w1
    have ew : wr (wr ((s : Int) * (len : Int)) + (k : Int)) = ((s * len + k : Nat) : Int) := by
      rw [pw (x := (s : Int) * (len : Int)) (by omega) (by omega), pw (by omega) (by omega)]
      omega
    refine ⟨h', (jloop_l (s' := (acc + (if D s k = 0 then 0 else 1), ((k + 1 : Nat) : Int), h1')) ?_).trans ?_, fun z z1 z2 => (w2 z z1 z2).trans (e2 z z1 z2), w3⟩
    · show Di_wipe_B5 h od (s : Int) acc (k : Int) = _
      unfold Di_wipe_B5 Di_wipe_p30
      rw [hc.2.1, if_pos (by omega), c_oct hd0 hc hs hkl]
      simp only [Option.bind_some]
      rw [ew, e1]
      simp only [Option.bind_some]
      by_cases a : D s k = 0
      · rw [if_pos a, if_pos a, pw (by omega) (by omega), pw (by omega) (by omega)]; rfl
      · rw [if_neg a, if_neg a, pw (by omega) (by omega), pw (by omega) (by omega)]; rfl
    · rw [show spNz (D s) (m + 1) k = (if D s k = 0 then 0 else 1) + spNz (D s) m (k + 1) from rfl]
      rw [← Int.add_assoc]
      exact w1
theorem c_wipe {h : jH} {od s k : Nat} {D C : Nat → Nat → Int} (hd0 : spDim ns blk len) (hs : s < ns) (hk : k ≤ len) (hc : CD h od ns blk len D C) : ∃ h', Di_wipe h od (s : Int) (k : Int) = some (spNz (D s) (len - k) k, h') ∧ (∀ z, z ≠ od + 1 → z ≠ od + 2 → h' z = h z) ∧ CD h' od ns blk len (spWipe D s k) (spWipe C s k) := by
  have hl := hd0.len
  obtain ⟨h', e1, e2⟩ := c_wipeL hd0 hs (len - k) k h D C 0 (by omega) hc (by omega) (by omega)
  rw [Int.zero_add] at e1
  exact ⟨h', e1, e2⟩
/-- what the records of a walk tell -/
theorem spWalk_recs {b : Nat → Int} : ∀ (f k : Nat) (ins : Bool) (pay : Nat) (hd : Int) (e : Nat), ∀ r ∈ (spWalk blk len b f k ins pay hd e).2.1, 0 ≤ r.2 ∧ r.2 < 1000 := by
  intro f
  induction f with
  | zero => intro k ins pay hd e r hr; unfold spWalk at hr; cases hr
  | succ f ih =>
    intro k ins pay hd e r hr
    unfold spWalk at hr
    split at hr
    · cases hr
    · split at hr
      · cases hr
      · rename_i hg
        have hgo : spGo blk len b (spStart blk k) ins pay hd = true := by
          cases hq : spGo blk len b (spStart blk k) ins pay hd with
          | true => rfl
          | false => exact absurd hq hg
        split at hr
        · rename_i hlast
          have := (spGo_frame hgo).2.2 hlast
          have hok := spOk_of this
          unfold spCons at hr
          rcases List.mem_append.mp hr with h | h
          · rw [List.mem_singleton.mp h]
            dsimp only
            omega
          · exact ih _ _ _ _ _ r h
        · unfold spCons at hr
          rcases List.mem_append.mp hr with h | h
          · cases h
          · exact ih _ _ _ _ _ r h
theorem spRecs_in {snap : Int} : ∀ (l : List (Int × Int)) (n : Int) (tab : Nat → Int), (∀ r ∈ l, 0 ≤ r.2 ∧ r.2 < 1000) → (∀ i, i < 16 → -1 ≤ tab i ∧ tab i < 1000) → ∀ i, i < 16 → -1 ≤ spRecs snap l n tab i ∧ spRecs snap l n tab i < 1000 := by
  intro l
  induction l with
  | nil => intro n tab _ h; exact h
  | cons r l ih =>
    intro n tab hl h
    refine ih _ _ (fun x hx => hl x (List.mem_cons_of_mem _ hx)) (fun i hi => ?_)
    have := hl r List.mem_cons_self
    have := h i hi
    split
    · unfold pu; split <;> omega
    · exact this
def spTi (tab : Nat → Int) : Prop := ∀ i, i < 16 → -1 ≤ tab i ∧ tab i < 1000
theorem spRd_ti {D : Nat → Nat → Int} {snap : Int} {s : Nat} {r : spR3} (h : spTi r.2.1) : spTi (spRd D blk len snap s r).2.1 := spRecs_in _ _ _ (spWalk_recs _ _ _ _ _ _) h
theorem spChain_ok {D : Nat → Nat → Int} {snap : Int} (hd0 : spDim ns blk len) : ∀ (f s : Nat) (r : spR3), s < ns → spTi r.2.1 → 0 ≤ r.1 → (spChain D ns blk len snap f s r).2 < ns ∧ spTi (spChain D ns blk len snap f s r).1.2.1 ∧ 0 ≤ (spChain D ns blk len snap f s r).1.1 ∧ (spChain D ns blk len snap f s r).1.1 ≤ r.1 + 128 * ((f : Int) + 1) := by
  intro f
  induction f with
  | zero =>
    intro s r hs ht h0
    have hn := spRd_next (D := D) (snap := snap) (s := s) (r := r) hd0
    exact ⟨hs, spRd_ti ht, by show 0 ≤ (spRd D blk len snap s r).1; omega, by show (spRd D blk len snap s r).1 ≤ _; omega⟩
  | succ f ih =>
    intro s r hs ht h0
    have hn := spRd_next (D := D) (snap := snap) (s := s) (r := r) hd0
    unfold spChain
    split
    · exact ⟨hs, spRd_ti ht, by show 0 ≤ (spRd D blk len snap s r).1; omega, by show (spRd D blk len snap s r).1 ≤ _; omega⟩
    · rename_i hne
      have hp := spPick_in (p := fun i => spHead (D i) && decide (spSer (D s) < spSer (D i)) && decide (spFst (D i) = (spRd D blk len snap s r).1)) (v := fun i => spSer (D i)) ns
      have hlt : (spFollow D ns (spSer (D s)) (spRd D blk len snap s r).1).toNat < ns := by unfold spFollow at hne ⊢; omega
      have := ih _ (spRd D blk len snap s r) hlt (spRd_ti ht) (by omega)
      exact ⟨this.1, this.2.1, this.2.2.1, by have := this.2.2.2; omega⟩
theorem spRecov_ok {D : Nat → Nat → Int} {snap : Int} {stab : Nat → Int} (hd0 : spDim ns blk len) (hy : spByD ns len D) (h0 : 0 ≤ snap) (ht : spTi stab) : snap ≤ (spRecov D ns blk len snap stab).1.1 ∧ ((spRecov D ns blk len snap stab).1.1 ≤ snap ∨ (spRecov D ns blk len snap stab).1.1 ≤ 66100) ∧ spTi (spRecov D ns blk len snap stab).1.2.1 ∧ (spRecov D ns blk len snap stab).2.1 < ns ∧ 0 ≤ (spRecov D ns blk len snap stab).2.2.1 ∧ (spRecov D ns blk len snap stab).2.2.1 ≤ len ∧ jI32 (spRecov D ns blk len snap stab).2.2.2.1 := by
  have hl := hd0.len
  have hns := hd0.1
  have z32 : jI32 0 := ⟨by decide, by decide⟩
  unfold spRecov
  split
  · exact ⟨Int.le_refl _, Or.inl (Int.le_refl _), ht, by show 0 < ns; omega, by show (0 : Int) ≤ 5; decide, by show (5 : Int) ≤ len; omega, z32⟩
  · rename_i hne
    have hp := spPick_in (p := fun i => spHead (D i) && decide (spFst (D i) ≤ snap)) (v := fun i => spSer (D i)) ns
    have hlt : (spBegin D ns snap).toNat < ns := by unfold spBegin at hne ⊢; omega
    have hsf := spSer_in (hy _ hlt) (by omega)
    have hc := spChain_ok (D := D) (snap := snap) hd0 3 (spBegin D ns snap).toNat (spFst (D (spBegin D ns snap).toNat), stab, fun _ => -1) hlt ht (by show 0 ≤ spFst _; omega)
    dsimp only at hc
    split
    · exact ⟨Int.le_refl _, Or.inl (Int.le_refl _), hc.2.1, by show 0 < ns; omega, by show (0 : Int) ≤ 5; decide, by show (5 : Int) ≤ len; omega, z32⟩
    · rename_i hge
      have he := spWk_end hd0 (b := D (spChain D ns blk len snap 3 (spBegin D ns snap).toNat (spFst (D (spBegin D ns snap).toNat), stab, fun _ => -1)).2)
      have hs2 := spSer_in (hy _ hc.1) (by omega)
      refine ⟨by dsimp only; omega, Or.inr (by dsimp only; omega), hc.2.1, hc.1, by dsimp only; omega, by dsimp only; omega, ⟨by dsimp only; omega, by dsimp only; omega⟩⟩
/-- a crash -/
def spCra (ns blk len k : Nat) : spSt → spSt
  | ((D, C), (F, _), _, (_, kp), (_, stab, snap, _), (_, _, _, gr, _, tk)) =>
    ((spRdisk (spArrD (F.take k) D) ns blk len snap stab (spArrD (F.take k) D), spRdisk (spArrD (F.take k) D) ns blk len snap stab (spArrC (F.take k) C)), ([], 0), ([], 0, (spRecov (spArrD (F.take k) D) ns blk len snap stab).1.1), ([], kp), ((spRecov (spArrD (F.take k) D) ns blk len snap stab).1.2.1, stab, snap, (spRecov (spArrD (F.take k) D) ns blk len snap stab).1.2.2), ((spRecov (spArrD (F.take k) D) ns blk len snap stab).2.1, (spRecov (spArrD (F.take k) D) ns blk len snap stab).2.2.1.toNat, (spRecov (spArrD (F.take k) D) ns blk len snap stab).2.2.2.1, gr, (spRecov (spArrD (F.take k) D) ns blk len snap stab).2.2.2.2, tk))
theorem spInv_cra {b : Int} {k : Nat} {s : spSt} (hb : 66200 ≤ b) (hI : spInv ns blk len b s) : spInv ns blk len b (spCra ns blk len k s) := by
  obtain ⟨⟨D, C⟩, ⟨F, lf⟩, ⟨q, fl, first⟩, ⟨wt, kp⟩, ⟨tab, stab, snap, tops⟩, ⟨sg, at', ser, gr, hl, tk⟩⟩ := s
  obtain ⟨i1, i2, i3, i4, i5, i6, i7⟩ := hI
  have hy := spArrD_by (D := D) (F.take k) D (fun e he => ⟨(i2.1 e (List.mem_of_mem_take he)).2.2.1, (i2.1 e (List.mem_of_mem_take he)).2.2.2.1⟩) i1.2.1
  have hC := spArrC_in (F.take k) C i1.2.2
  have hr := spRecov_ok (snap := snap) (stab := stab) i1.1 hy i3.2.2.2.2.1 i5.2
  unfold spCra spInv
  dsimp only
  generalize spRecov (spArrD (F.take k) D) ns blk len snap stab = R at hr
  have hw1 : spByD ns len (spRdisk (spArrD (F.take k) D) ns blk len snap stab (spArrD (F.take k) D)) := by
    unfold spRdisk
    split
    · exact hy
    · intro s hs j hj
      unfold spWipe
      split
      · omega
      · exact hy s hs j hj
  have hw2 : ∀ s j, s < ns → j < len → 0 ≤ spRdisk (spArrD (F.take k) D) ns blk len snap stab (spArrC (F.take k) C) s j ∧ spRdisk (spArrD (F.take k) D) ns blk len snap stab (spArrC (F.take k) C) s j ≤ 1 := by
    intro s j hs hj
    unfold spRdisk
    split
    · exact hC s j hs hj
    · unfold spWipe
      split
      · omega
      · exact hC s j hs hj
  obtain ⟨r1, r2, r3, r4, r5, r6, r7⟩ := hr
  obtain ⟨j1, j2, j3, j4, j5, j6, j7, j8⟩ := i3
  refine ⟨⟨i1.1, hw1, hw2⟩, ⟨fun e he => (by cases he), fun h => absurd rfl h, fun _ => rfl⟩, ⟨fun r hr => (by cases hr), Nat.le_refl _, by omega, by simp, j5, r1, by simp only [List.length_nil]; omega, j8⟩, ⟨by simp, ⟨fun e he => (by cases he), List.nodup_nil⟩, i4.2.2⟩, ⟨r3, i5.2⟩, ⟨r4, by omega, r7, i6.2.2.2.1, i6.2.2.2.2⟩, fun _ => 0, fun _ => Nat.zero_le _, Nat.zero_le _, Nat.zero_le _, fun i h => absurd rfl h⟩
end CRA
