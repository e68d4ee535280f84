/-! the acts keep what holds; thinking ahead -/
section KEEP
variable {ns blk len : Nat} {b : Int} {p : spPl} {X : spX}
theorem spXk_append {k v sz : Int} (hb : b + 1 ≤ 700000) (hk : spXk ns blk len b X) : spXk ns blk len (b + 1) (spDAppend blk len k v sz X).2 := by
  have h1 := spXk_mono (b' := b + 1) (by omega) hb hk
  unfold spDAppend
  split
  · rename_i a
    exact spXk_to (spXk_rem h1) ⟨spInv_app hb hk.1.1 a, spHal_app a⟩
  · exact spXk_rfu h1
theorem spXk_crash {k : Int} (hb : 66200 ≤ b) (hk : spXk ns blk len b X) : spXk ns blk len b (spDCrash ns blk len k X).2 := by
  unfold spDCrash
  split
  · exact spXk_to (spXk_rem hk) ⟨spInv_cra hb hk.1.1, spHal_cra⟩
  · exact spXk_rfu hk
theorem spXk_snap (hk : spXk ns blk len b X) : spXk ns blk len b (spDSnap X).2 := by
  unfold spDSnap
  split
  · exact spXk_to (spXk_rem hk) ⟨spInv_snp hk.1.1, spHal_snp hk.1.2⟩
  · exact spXk_rfu hk
theorem spXk_flip {s k : Int} (hk : spXk ns blk len b X) : spXk ns blk len b (spDFlip ns len s k X).2 := by
  unfold spDFlip
  split
  · exact spXk_to (spXk_rem hk) ⟨spInv_flp (by omega) (by omega) hk.1.1, spHal_flp hk.1.2⟩
  · exact spXk_rfu hk
theorem spXk_waits {who num : Int} (hk : spXk ns blk len b X) : spXk ns blk len b (spDWaits who num X).2 := by
  have hi := hk.1.1.que
  unfold spDWaits
  split
  · rename_i a
    exact spXk_to (spXk_rem hk) ⟨spInv_wai hk.1.1 ⟨a.1, a.2.1⟩ (by omega) a.2.2.2.2, spHal_wai hk.1.2⟩
  · exact spXk_rfu hk
theorem spXk_give (hk : spXk ns blk len b X) : spXk ns blk len b (spDGive ns len X).2 := by
  unfold spDGive
  split
  · rename_i a
    exact spXk_to (spXk_rem hk) ⟨spInv_giv hk.1.1 hk.1.2 a, spHal_giv⟩
  · exact spXk_rfu hk
theorem spXk_undo (hk : spXk ns blk len b X) : spXk ns blk len b (spDUndo X).2 := by
  obtain ⟨s, past, rf⟩ := X
  cases past with
  | nil => exact spXk_rfu hk
  | cons x past => exact ⟨hk.2 x List.mem_cons_self, fun y hy => hk.2 y (List.mem_cons_of_mem _ hy)⟩
theorem spXk_ticks {n : Int} (hp : spPp ns blk len p) (hk : spXk ns blk len b X) : spXk ns blk len b (spDTicks p n X).2 := by
  unfold spDTicks
  split
  · exact spXk_to (spXk_rem hk) (spTks_ok hp _ _ hk.1 (by omega))
  · exact spXk_rfu hk
/-- a state joined from two rows -/
theorem MS.join {h h' : jH} {o : Nat} {kpm kpm' : spKp} {s : spSt} (hI : spInv ns blk len b s) (hs : MS h o ns blk len kpm s) (e1 : h' (o + 28) = h (o + 28)) (e2 : ∀ i, i < 2244 → h' (o + 33) i = h (o + 33) i) (hk : MKp (h' (o + 33)) kpm') : MS h' o ns blk len kpm' s := by
  have hF := spInv_F hI
  obtain ⟨⟨D, C⟩, ⟨F, lf⟩, ⟨q, fl, first⟩, ⟨wt, kp⟩, ⟨tab, stab, snap, tops⟩, ⟨sg, at', ser, gr, hl, tk⟩⟩ := s
  obtain ⟨i1, i2, i3, i4, i5, i6, i7⟩ := hI
  obtain ⟨c1, ⟨c2, c2'⟩, c3, ⟨c4, c4', c4''⟩, c5, ⟨t1, t2, t3, t4⟩, p1, p2, p3, p4, p5, p6, p7⟩ := hs
  dsimp only at hF
  have k := e2
  refine ⟨c1.fr i1.1 e1 (fun i _ _ => k i (by omega)), ⟨⟨by rw [k _ (by decide)]; exact c2.1, fun i e he => ?_⟩, by rw [k _ (by decide)]; exact c2'⟩, ⟨by rw [k _ (by decide)]; exact c3.1, by rw [k _ (by decide)]; exact c3.2.1, by rw [k _ (by decide)]; exact c3.2.2.1, c3.2.2.2.1, c3.2.2.2.2.1, fun i r hr => ?_⟩, ⟨by rw [k _ (by decide)]; exact c4, fun i e he => ?_, fun x hx => by rw [k _ (by omega)]; exact c4'' x hx⟩, hk, ⟨fun i hi => by rw [k _ (by omega)]; exact t1 i hi, fun i hi => by rw [k _ (by omega)]; exact t2 i hi, by rw [k _ (by decide)]; exact t3, fun i hi => by rw [k _ (by omega)]; exact t4 i hi⟩, by rw [k _ (by decide)]; exact p1, by rw [k _ (by decide)]; exact p2, by rw [k _ (by decide)]; exact p3, by rw [k _ (by decide)]; exact p4, by rw [k _ (by decide)]; exact p5, by rw [k _ (by decide)]; exact p6, by rw [k _ (by decide)]; exact p7⟩
  · have hi := (List.getElem?_eq_some_iff.mp he).1
    rw [k _ (by omega), k _ (by omega)]; exact c2.2 i e he
  · have hm : ((first + (i : Int)) % 32).toNat < 32 := by omega
    rw [k _ (by omega), k _ (by omega), k _ (by omega), k _ (by omega)]; exact c3.2.2.2.2.2 i r hr
  · have hi := (List.getElem?_eq_some_iff.mp he).1
    have := i4.1
    rw [k _ (by omega)]; exact c4' i e he
theorem MS.kp {h : jH} {o : Nat} {kpm : spKp} {s : spSt} (hs : MS h o ns blk len kpm s) : MKp (h (o + 33)) kpm := by
  obtain ⟨⟨D, C⟩, ⟨F, lf⟩, ⟨q, fl, first⟩, ⟨wt, kp⟩, ⟨tab, stab, snap, tops⟩, ⟨sg, at', ser, gr, hl, tk⟩⟩ := s
  exact hs.2.2.2.2.1
/-- while the reference thinks: what is put aside, what it thinks of -/
def RT (h g : jH) (o ns blk len : Nat) (s sX : spSt) : Prop := (∀ i, i < 2244 → g (o + 36) i = h (o + 33) i) ∧ MS g o ns blk len s.2.2.2.1.2 sX ∧ g (o + 28) = h (o + 28)
theorem RT.anew {h g : jH} {o : Nat} {s sX : spSt} (hs : MS h o ns blk len s.2.2.2.1.2 s) (hI : spInv ns blk len b s) (t : RT h g o ns blk len s sX) : ∃ h', M_triesAnew g o = some h' ∧ (∀ z, z ≠ o + 33 → h' z = g z) ∧ RT h h' o ns blk len s s := by
  obtain ⟨h', e1, e2, e3⟩ := m_anew (h := g) (o := o)
  obtain ⟨t1, t2, t3⟩ := t
  refine ⟨h', e1, e2, fun i hi => by rw [e2 _ (by omega)]; exact t1 i hi, MS.join hI hs (by rw [e2 _ (by omega)]; exact t3) (fun i hi => by rw [e3, if_pos hi]; exact t1 i hi) ?_, by rw [e2 _ (by omega)]; exact t3⟩
  have hk := t2.kp
  refine ⟨by rw [e3, if_neg (by omega)]; exact hk.1, hk.2.1, fun i e he => ?_⟩
  rw [e3, e3, e3, if_neg (by omega), if_neg (by omega), if_neg (by omega)]
  exact hk.2.2 i e he
theorem RT.back {h g : jH} {o : Nat} {s sX : spSt} (hs : MS h o ns blk len s.2.2.2.1.2 s) (hI : spInv ns blk len b s) (t : RT h g o ns blk len s sX) : ∃ h', M_takesBack g o = some h' ∧ (∀ z, z ≠ o → z ≠ o + 33 → h' z = g z) ∧ (∀ f, f ≠ 56 → h' o f = g o f) ∧ h' o 56 = 0 ∧ MS h' o ns blk len s.2.2.2.1.2 s := by
  obtain ⟨g1, e1, e2, e3⟩ := t.anew hs hI
  unfold M_takesBack
  rw [e1]
  refine ⟨_, rfl, fun z z1 z2 => by rw [jup_ne z1, e2 z z2], fun f hf => by rw [ju_ne hf, e2 o (by omega)], ju_eq, e3.2.1.eq (jup_ne (by omega)) (jup_ne (by omega))⟩
theorem RM.aside {h : jH} {o : Nat} (r : RM h o ns blk len p X) : ∃ g, M_putsAside h o = some g ∧ (∀ z, z ≠ o → z ≠ o + 36 → g z = h z) ∧ (∀ f, f ≠ 56 → g o f = h o f) ∧ g o 56 = 1 ∧ RT h g o ns blk len X.1 X.1 := by
  obtain ⟨g, e1, e2, e3, e4, e5⟩ := m_aside (h := h) (o := o)
  exact ⟨g, e1, e2, e3, e4, e5, (r.2.elim (fun m hm => hm.2.2.2.2.2)).eq (e2 _ (by omega) (by omega)) (e2 _ (by omega) (by omega)), e2 _ (by omega) (by omega)⟩
theorem RM.same {h h' : jH} {o : Nat} (r : RM h o ns blk len p X) (e : ∀ z, z = o + 2 ∨ z = o + 28 ∨ z = o + 30 ∨ z = o + 31 ∨ z = o + 32 ∨ z = o + 42 → h' z = h z) (ef : ∀ f, f = 43 ∨ f = 73 ∨ f = 74 → h' o f = h o f) (h52 : h' o 52 = -1) (h56 : h' o 56 = 0) (h53 : jI32 (h' o 53)) (hs : MS h' o ns blk len X.1.2.2.2.1.2 X.1) : RM h' o ns blk len p X := by
  obtain ⟨⟨r1, r2, r3, r4, r5, r6⟩, m, q1, q2, q3, q4, q5, q6⟩ := r
  exact ⟨⟨by rw [ef 43 (by decide)]; exact r1, h52, h56, h53, r5.eq (e _ (by omega)) (e _ (by omega)) (e _ (by omega)), fun i hi => by rw [e _ (by omega)]; exact r6 i hi⟩, m, by rw [ef 74 (by decide)]; exact q1, q2, by rw [ef 73 (by decide)]; exact q3, q4, q5.eq (e _ (by omega)) (e _ (by omega)), hs⟩
end KEEP
