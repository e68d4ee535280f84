/-! what laying keeps, and the class's laying -/
def spLI (ns len : Nat) (tp : Nat → Int) (snap : Int) (st : Nat) (x : spL) : Prop :=
  x.1.1 < ns ∧ x.1.2.1 ≤ len ∧ x.1.2.2.2.2 x.1.1 = true ∧ (∀ i, i < 4 → x.1.2.2.2.2 i = false → x.2.2 i = tp i) ∧
  (∃ u : Nat → Nat, (∀ i, u i ≤ len) ∧ u x.1.1 ≤ x.1.2.1 ∧ (∀ i, i < 4 → x.1.2.2.2.2 i = false → tp i < snap → u i = 0) ∧ x.2.1.length ≤ u 0 + u 1 + u 2 + u 3 ∧ ∀ i, u i ≠ 0 → ∃ e ∈ x.2.1, e.1 = i) ∧
  (∀ e ∈ x.2.1, e.1 < ns ∧ e.2.1 < len ∧ (x.1.2.2.2.2 e.1 = true ∨ snap ≤ tp e.1)) ∧
  (∀ i, i < 4 → x.1.2.2.2.2 i = true → i = st ∨ ∃ e ∈ x.2.1, e.1 = i) ∧ jI32 x.1.2.2.1 ∧ jI32 x.1.2.2.2.1
theorem spOut_mem {s : Nat} : ∀ (l : List Int) (k : Nat) (e : Nat × Nat × Int), e ∈ spOut s k l → e.1 = s ∧ k ≤ e.2.1 ∧ e.2.1 < k + l.length ∧ e.2.2 ∈ l := by
  intro l
  induction l with
  | nil => intro k e h; cases h
  | cons x l ih =>
    intro k e h
    rcases List.mem_cons.mp (show e ∈ (s, k, x) :: spOut s (k + 1) l from h) with h | h
    · rw [h]; exact ⟨rfl, Nat.le_refl _, by simp, List.mem_cons_self⟩
    · have := ih _ _ h
      rw [List.length_cons]
      exact ⟨this.1, by omega, by omega, List.mem_cons_of_mem _ this.2.2.2⟩
theorem spGoes_same {ns blk len : Nat} {tp : Nat → Int} {snap : Int} {P : Nat} {q y : spP} (h : spGoes ns blk len tp snap P q = some (y, false)) : y = q ∧ ∃ e, spBeh blk len 6 q.2.1 P = some e := by
  unfold spGoes at h
  split at h
  · rename_i a
    cases hb : spBeh blk len 6 q.2.1 P with
    | none => exact absurd hb a
    | some e => exact ⟨(congrArg Prod.fst (Option.some.inj h)).symm, e, rfl⟩
  · split at h
    · cases h
    · split at h
      · cases h
      · cases (congrArg Prod.snd (Option.some.inj h))
theorem spGoes_new {ns blk len : Nat} {tp : Nat → Int} {snap : Int} {P : Nat} {q y : spP} (h : spGoes ns blk len tp snap P q = some (y, true)) : ∃ t, t < ns ∧ q.2.2.2.2 t = false ∧ tp t < snap ∧ y = (t, 5, wr (q.2.2.2.1 + 1), wr (q.2.2.2.1 + 1), spVis q.2.2.2.2 t) ∧ ∃ e, spBeh blk len 6 5 P = some e := by
  unfold spGoes at h
  split at h
  · cases (congrArg Prod.snd (Option.some.inj h))
  · split at h
    · cases h
    · rename_i a
      split at h
      · cases h
      · rename_i b
        rcases spFirst_in (p := spIsF tp snap q.2.2.2.2) ns 0 with hf | ⟨t, hf, _, ht2, ht3⟩
        · exact absurd hf a
        · have hy := congrArg Prod.fst (Option.some.inj h)
          dsimp only at hy
          rw [hf, Int.toNat_natCast] at hy
          unfold spIsF at ht3
          simp at ht3
          cases hb : spBeh blk len 6 5 P with
          | none => exact absurd hb b
          | some e => exact ⟨t, by omega, ht3.1, ht3.2, hy.symm, e, rfl⟩
theorem spHdB_len {ser num : Int} : (spHdB ser num).length = 5 := rfl
section LAYI
variable {ns blk len : Nat} {tp : Nat → Int} {snap : Int} {st : Nat}
theorem spLayB_pos {blk : Nat} {r : spRec} {sl : Int} {f k fr : Nat} (h : fr < spSz r) : 4 ≤ (spLayB blk r sl (f + 1) k fr).length := by
  unfold spLayB
  rw [if_neg (by omega), List.length_append, List.length_append, List.length_cons, spFrB_len]
  omega
theorem spOne_LI (hd0 : spDim ns blk len) {r : spRec} {num : Int} {x y : spL} (h : spOne ns blk len tp snap r num x = some y) (hx : spLI ns len tp snap st x) : spLI ns len tp snap st y ∧ x.2.1.length + 4 ≤ y.2.1.length := by
  have hl := hd0.len
  have b1 := hd0.2.2.1
  have hn4 := hd0.2.1
  obtain ⟨x1, x2, x3, x4, ⟨u, u1, u2, u3, u4, u5⟩, x6, x7, x8, x9⟩ := hx
  obtain ⟨q, F, tops⟩ := x
  dsimp only at x1 x2 x3 x4 u2 u3 u4 u5 x6 x7 x8 x9
  unfold spOne at h
  dsimp only at h
  split at h
  · cases h
  · rename_i q' hg
    obtain ⟨rfl, e, he⟩ := spGoes_same hg
    have hy := Option.some.inj h
    have hL := spLayB_len (r := r) (sl := q'.2.2.1 % 256) (show 4 < blk by omega) hl.2.2.2 6 q'.2.1 0 e (by omega) x2 he
    have hpos := spLayB_pos (blk := blk) (r := r) (sl := q'.2.2.1 % 256) (f := 5) (k := q'.2.1) (fr := 0) (by unfold spSz; omega)
    generalize spLayB blk r (q'.2.2.1 % 256) 6 q'.2.1 0 = B at hy hL hpos
    rw [← hy]
    refine ⟨⟨x1, by dsimp only; omega, x3, fun i hi hv => ?_, ⟨fun i => if i = q'.1 then q'.2.1 + B.length else u i, fun i => ?_, ?_, fun i hi hv ht => ?_, ?_, fun i hi => ?_⟩, fun e' he' => ?_, fun i hi hv => ?_, x8, x9⟩, ?_⟩
    · show pu tops q'.1 num i = tp i
      unfold pu
      have : i ≠ q'.1 := fun e => by rw [e, x3] at hv; cases hv
      rw [if_neg this]
      exact x4 i hi hv
    · show (if i = q'.1 then q'.2.1 + B.length else u i) ≤ len
      have := u1 i
      split <;> omega
    · show (if q'.1 = q'.1 then q'.2.1 + B.length else u q'.1) ≤ q'.2.1 + B.length
      rw [if_pos rfl]; exact Nat.le_refl _
    · show (if i = q'.1 then q'.2.1 + B.length else u i) = 0
      have : i ≠ q'.1 := fun e => by rw [e, x3] at hv; cases hv
      rw [if_neg this]
      exact u3 i hi hv ht
    · dsimp only
      rw [List.length_append, spOut_len]
      have hq4 : q'.1 = 0 ∨ q'.1 = 1 ∨ q'.1 = 2 ∨ q'.1 = 3 := by omega
      rcases hq4 with h | h | h | h <;> rw [h] at u2 ⊢ <;> simp <;> omega
    · by_cases c : i = q'.1
      · cases hBB : B with
        | nil => rw [hBB] at hpos; simp at hpos
        | cons b l => exact ⟨(q'.1, q'.2.1, b), List.mem_append_right _ List.mem_cons_self, c.symm⟩
      · have : u i ≠ 0 := by
          intro h0
          apply hi
          show (if i = q'.1 then q'.2.1 + B.length else u i) = 0
          rw [if_neg c]; exact h0
        obtain ⟨e', h1, h2⟩ := u5 i this
        exact ⟨e', List.mem_append_left _ h1, h2⟩
    · rcases List.mem_append.mp he' with h | h
      · exact x6 e' h
      · have := spOut_mem _ _ _ h
        exact ⟨by omega, by omega, Or.inl (by rw [this.1]; exact x3)⟩
    · rcases x7 i hi hv with h | ⟨e', h1, h2⟩
      · exact Or.inl h
      · exact Or.inr ⟨e', List.mem_append_left _ h1, h2⟩
    · dsimp only; rw [List.length_append, spOut_len]; omega
  · rename_i q' hg
    obtain ⟨t, t1, t2, t3, rfl, e, he⟩ := spGoes_new hg
    have hy := Option.some.inj h
    dsimp only at hy
    have hL := spLayB_len (r := r) (sl := wr (q.2.2.2.1 + 1) % 256) (show 4 < blk by omega) hl.2.2.2 6 5 0 e (by omega) (by omega) he
    generalize spLayB blk r (wr (q.2.2.2.1 + 1) % 256) 6 5 0 = B at hy hL
    have t0 : u t = 0 := u3 t (by omega) t2 t3
    rw [← hy]
    refine ⟨⟨t1, by dsimp only; omega, by unfold spVis; simp, fun i hi hv => ?_, ⟨fun i => if i = t then 5 + B.length else u i, fun i => ?_, ?_, fun i hi hv ht => ?_, ?_, fun i hi => ?_⟩, fun e' he' => ?_, fun i hi hv => ?_, wr_in _, wr_in _⟩, ?_⟩
    · show pu tops t num i = tp i
      dsimp only at hv
      unfold spVis at hv
      simp at hv
      unfold pu
      rw [if_neg hv.1]
      exact x4 i hi hv.2
    · show (if i = t then 5 + B.length else u i) ≤ len
      have := u1 i
      split <;> omega
    · show (if t = t then 5 + B.length else u t) ≤ 5 + B.length
      rw [if_pos rfl]; exact Nat.le_refl _
    · show (if i = t then 5 + B.length else u i) = 0
      dsimp only at hv
      unfold spVis at hv
      simp at hv
      rw [if_neg hv.1]
      exact u3 i hi hv.2 ht
    · dsimp only
      rw [List.length_append, spOut_len, List.length_append, spHdB_len]
      have hq4 : t = 0 ∨ t = 1 ∨ t = 2 ∨ t = 3 := by omega
      rcases hq4 with h | h | h | h <;> rw [h] at t0 ⊢ <;> simp <;> omega
    · by_cases c : i = t
      · exact ⟨(t, 0, wr (q.2.2.2.1 + 1) / 256 % 256), List.mem_append_right _ List.mem_cons_self, c.symm⟩
      · have : u i ≠ 0 := by
          intro h0
          apply hi
          show (if i = t then 5 + B.length else u i) = 0
          rw [if_neg c]; exact h0
        obtain ⟨e', h1, h2⟩ := u5 i this
        exact ⟨e', List.mem_append_left _ h1, h2⟩
    · rcases List.mem_append.mp he' with h | h
      · have := x6 e' h
        refine ⟨this.1, this.2.1, ?_⟩
        rcases this.2.2 with h | h
        · left; show spVis q.2.2.2.2 t e'.1 = true; unfold spVis; rw [h]; simp
        · exact Or.inr h
      · have := spOut_mem _ _ _ h
        rw [List.length_append, spHdB_len] at this
        refine ⟨by omega, by omega, Or.inl ?_⟩
        show spVis q.2.2.2.2 t e'.1 = true
        unfold spVis
        rw [this.1]
        simp
    · dsimp only at hv ⊢
      unfold spVis at hv
      simp at hv
      rcases hv with h | h
      · right
        refine ⟨(t, 0, wr (q.2.2.2.1 + 1) / 256 % 256), List.mem_append_right _ List.mem_cons_self, ?_⟩
        rw [h]
      · rcases x7 i hi h with h | ⟨e', h1, h2⟩
        · exact Or.inl h
        · exact Or.inr ⟨e', List.mem_append_left _ h1, h2⟩
    · dsimp only; rw [List.length_append, spOut_len, List.length_append, spHdB_len]; omega
theorem spLI_len (hd0 : spDim ns blk len) {x : spL} (hx : spLI ns len tp snap st x) : x.2.1.length ≤ 512 := by
  have hl := hd0.len
  obtain ⟨_, _, _, _, ⟨u, u1, _, _, u4, _⟩, _⟩ := hx
  have := u1 0; have := u1 1; have := u1 2; have := u1 3
  omega
end LAYI
section CL3
variable {ns blk len : Nat} {D C : Nat → Nat → Int}
theorem c_padL {o pn s j : Nat} {w P fr t : Int} (hd0 : spDim ns blk len) (hs : s < ns) (hj : j ≤ len) (hp : pn < o + 4 ∨ o + 6 < pn) : ∀ (m k : Nat) (h : jH) (F : spFl), k + m = j → CF h (o + 4) len F → F.length + m ≤ 512 → h pn 0 = (s : Int) → h (o + 1) 3 = (len : Int) →
    ∃ h', Pe_writeRecord_L46 h pn o w P fr t (j : Int) (k : Int) = (Option.bind (Di_frameLength (jup h' pn 1 (j : Int)) (o + 1) (j : Int) (wr (P - fr))) (fun b7 => (if (wr (fr + b7)) = P then Pe_writeRecord_p119 (jup h' pn 1 (j : Int)) pn o w P fr t b7 1 else Pe_writeRecord_p119 (jup h' pn 1 (j : Int)) pn o w P fr t b7 0))) ∧ CFf (o + 4) h h' ∧ CF h' (o + 4) len (F ++ spOut s k (List.replicate m 0)) := by
  have hl := hd0.len
  unfold Pe_writeRecord_L46
  intro m
  induction m with
  | zero =>
    intro k h F hk hF hn h0 hl3
    obtain rfl : k = j := by omega
    refine ⟨h, jloop_x ?_, CFf.rf, by simpa [spOut] using hF⟩
    show Pe_writeRecord_B46 h pn o w P fr t (k : Int) (k : Int) = _
    unfold Pe_writeRecord_B46
    rw [if_neg (by omega), ju_eq]
  | succ m ih =>
    intro k h F hk hF hn h0 hl3
    have hadr := hd0.adr (s := s) (k := k) hs (by omega)
    obtain ⟨h1, a1, a2, a3⟩ := c_add hF (by omega) (s := s) (k := k) (v := 0) rfl
    obtain ⟨h', e1, e2, e3⟩ := ih (k + 1) h1 _ (by omega) a3 (by rw [List.length_append]; simp; omega) (by rw [a2.1 pn (by omega), h0]) (by rw [a2.1 _ (by omega), hl3])
    refine ⟨h', (jloop_l (s' := (((k + 1 : Nat) : Int), h1)) ?_).trans e1, a2.tr e2, ?_⟩
    · show Pe_writeRecord_B46 h pn o w P fr t (j : Int) (k : Int) = _
      unfold Pe_writeRecord_B46
      have e : h pn 0 * h (o + 1) 3 = ((s * len : Nat) : Int) := by rw [h0, hl3]; simp
      rw [if_pos (by omega), e, pw (x := ((s * len : Nat) : Int)) (by omega) (by omega), pw (x := ((s * len : Nat) : Int) + (k : Int)) (by omega) (by omega), show ((s * len : Nat) : Int) + (k : Int) = ((s * len + k : Nat) : Int) by omega, a1]
      simp only [Option.bind_some]
      rw [pw (by omega) (by omega)]
      rfl
    · rw [List.append_assoc] at e3
      exact e3
/-- a record's frames are written -/
theorem c_wrL {r : spRec} {o pn s w : Nat} {ser : Int} (hr : spRok r) (hd0 : spDim ns blk len) (hs : s < ns) (hp : pn < o ∨ o + 20 < pn) : ∀ (f k fr t e : Nat) (h : jH) (F : spFl), t + f = 6 → fr ≤ spSz r → k ≤ len → spBeh blk len f k (spSz r - fr) = some e → CD h (o + 1) ns blk len D C → CF h (o + 4) len F → F.length + (spLayB blk r (ser % 256) f k fr).length ≤ 512 → h pn 0 = (s : Int) → h pn 1 = (k : Int) → h pn 2 = ser → CQr h (o + 7) w r →
    ∃ h', Pe_writeRecord_L15 h pn o (w : Int) (spSz r : Int) (fr : Int) (t : Int) = some h' ∧ (∀ x, x ≠ pn → (x < o + 4 ∨ o + 6 < x) → h' x = h x) ∧ h' (o + 4) 3 = h (o + 4) 3 ∧ (∀ i, i ≠ 1 → h' pn i = h pn i) ∧ h' pn 1 = (e : Int) ∧ CF h' (o + 4) len (F ++ spOut s k (spLayB blk r (ser % 256) f k fr)) := by
  have hl := hd0.len
  have b0 : 0 < blk := by have := hd0.2.2.1; omega
  have b1 := hd0.2.2.1
  have b2 := hd0.2.2.2.1
  have hsz : spSz r ≤ 43 := by unfold spRok at hr; unfold spSz; omega
  unfold Pe_writeRecord_L15
  intro f
  induction f with
  | zero => intro k fr t e h F _ _ _ hb; cases hb
  | succ f ih =>
    intro k fr t e h F ht hfr hk hb hc hF hn h0 h1 h2 hq
    have hst := spStart_le b0 hl.2.2.2 hk
    conv at hn => lhs; unfold spLayB
    conv => enter [1, h', 2, 2, 2, 2, 2]; unfold spLayB
    unfold spBeh at hb
    by_cases a : spSz r ≤ fr
    · rw [if_pos (by omega)] at hb
      rw [if_pos a]
      have : k = e := Option.some.inj hb
      refine ⟨h, jloop_r ?_, fun _ _ _ => rfl, rfl, fun _ _ => rfl, by rw [h1, this], by simpa [spOut] using hF⟩
      show Pe_writeRecord_B15 h pn o _ _ _ _ = _
      unfold Pe_writeRecord_B15
      rw [if_neg (by omega)]
      rfl
    · rw [if_neg (by omega)] at hb
      rw [if_neg a]
      rw [if_neg a] at hn
      by_cases b : len ≤ spStart blk k
      · rw [if_pos b] at hb; cases hb
      rw [if_neg b] at hb
      have hf1 : 1 ≤ f := by
        cases f with
        | zero => cases hb
        | succ f => omega
      have hr2 := spStart_room (blk := blk) (k := k) (by omega)
      have he2 := spEnd_le b0 hl.2.2.2 (show spStart blk k < len by omega)
      have hge := spEnd_gt (blk := blk) (k := spStart blk k) b0
      have hfs := c_fstart hd0 hc (k := k) (by omega)
      generalize spStart blk k = j at hb hst b hr2 he2 hn hge hfs ⊢
      generalize hnn : min (spSz r - fr) (spEnd blk j - j - 4) = n at hb hn ⊢
      rw [show spSz r - fr - n = spSz r - (fr + n) by omega] at hb
      rw [List.length_append, List.length_append, List.length_replicate, List.length_cons, spFrB_len] at hn
      obtain ⟨g1, p1, p2, p3⟩ := c_padL (w := (w : Int)) (P := (spSz r : Int)) (fr := (fr : Int)) (t := (t : Int)) hd0 hs (show j ≤ len by omega) (show pn < o + 4 ∨ o + 6 < pn by omega) (j - k) k h F (by omega) hF (by omega) h0 hc.2.1
      obtain ⟨g2, hg2⟩ : ∃ g2 : jH, g2 = jup g1 pn 1 (j : Int) := ⟨_, rfl⟩
      rw [← hg2] at p1
      have g2o : ∀ x, x ≠ pn → (x < o + 4 ∨ o + 6 < x) → g2 x = h x := fun x x1 x2 => by rw [hg2, jup_ne x1, p2.1 x (by omega)]
      have hc2 : CD g2 (o + 1) ns blk len D C := hc.fr (g2o _ (by omega) (by omega)) (g2o _ (by omega) (by omega)) (g2o _ (by omega) (by omega))
      have hfl : Di_frameLength g2 (o + 1) (j : Int) (wr ((spSz r : Int) - (fr : Int))) = some (n : Int) := by
        unfold Di_frameLength
        rw [c_bend hd0 hc2 (by omega)]
        simp only [Option.bind_some]
        rw [pw (x := (spSz r : Int) - (fr : Int)) (by omega) (by omega), pw (x := (spEnd blk j : Int) - (j : Int)) (by omega) (by omega), pw (by omega) (by omega)]
        congr 1
        omega
      rw [hfl] at p1
      simp only [Option.bind_some] at p1
      have hF2 : CF g2 (o + 4) len (F ++ spOut s k (List.replicate (j - k) 0)) := by
        unfold CF
        rw [hg2, jup_ne (by omega), jup_ne (by omega), jup_ne (by omega)]
        exact p3
      have hq2 : CQr g2 (o + 7) w r := by
        unfold CQr
        rw [g2o _ (by omega) (by omega), g2o _ (by omega) (by omega), g2o _ (by omega) (by omega)]
        exact hq
      have gp : ∀ i, i ≠ 1 → g2 pn i = h pn i := fun i hi => by rw [hg2, ju_ne hi, p2.1 pn (by omega)]
      obtain ⟨g3, w1, w2, w3⟩ := c_frame1 (h := g2) (r := r) (o := o) (pn := pn) (s := s) (k := j) (fr := fr) (n := n) (w := w) (ser := ser) (kind := spKind (spSz r) fr n) hr hd0 hs (by omega) (by omega) hF2 (by rw [List.length_append, spOut_len, List.length_replicate]; omega) (by rw [gp 0 (by decide), h0]) (by rw [hg2, ju_eq]) (by rw [gp 2 (by decide), h2]) hc2.2.1 hq2 (by omega) rfl (by omega)
      obtain ⟨g4, hg4⟩ : ∃ g4 : jH, g4 = jup g3 pn 1 ((j + 4 + n : Nat) : Int) := ⟨_, rfl⟩
      have hstep : Pe_writeRecord_B15 h pn o (w : Int) (spSz r : Int) (fr : Int) (t : Int) = some (.inl (((fr + n : Nat) : Int), ((t + 1 : Nat) : Int), g4)) := by
        unfold Pe_writeRecord_B15
        rw [if_pos (by omega), if_neg (by omega), h1, hfs]
        simp only [Option.bind_some]
        rw [p1, pw (x := (fr : Int) + (n : Int)) (by omega) (by omega)]
        have p149 : ∀ kd : Int, kd = spKind (spSz r) fr n → Pe_writeRecord_p149 g2 pn o (w : Int) (spSz r : Int) (fr : Int) (t : Int) (n : Int) kd = some (.inl (((fr + n : Nat) : Int), ((t + 1 : Nat) : Int), g4)) := by
          intro kd hkd
          unfold Pe_writeRecord_p149
          rw [hkd, w1]
          simp only [Option.bind_some]
          rw [w2.1 pn (by omega), show g2 pn 1 = (j : Int) by rw [hg2, ju_eq], pw (x := 4 + (n : Int)) (by omega) (by omega), pw (x := (j : Int) + (4 + (n : Int))) (by omega) (by omega), pw (x := (fr : Int) + (n : Int)) (by omega) (by omega), pw (x := (t : Int) + 1) (by omega) (by omega), show (j : Int) + (4 + (n : Int)) = ((j + 4 + n : Nat) : Int) by omega, ← hg4]
          rfl
        unfold Pe_writeRecord_p119
        unfold spKind at p149
        by_cases c1 : (fr : Int) + (n : Int) = (spSz r : Int)
        · rw [if_pos c1]
          by_cases c2 : (fr : Int) = 0
          · rw [if_pos c2, if_neg (by decide)]
            exact p149 1 (by rw [if_pos (by omega)])
          · rw [if_neg c2, if_neg (by decide)]
            exact p149 4 (by rw [if_neg (by omega), if_neg (by omega), if_pos (by omega)])
        · rw [if_neg c1]
          by_cases c2 : (fr : Int) = 0
          · rw [if_pos c2, if_pos rfl]
            exact p149 2 (by rw [if_neg (by omega), if_pos (by omega)])
          · rw [if_neg c2, if_pos rfl]
            exact p149 3 (by rw [if_neg (by omega), if_neg (by omega), if_neg (by omega)])
      have g4o : ∀ x, x ≠ pn → (x < o + 4 ∨ o + 6 < x) → g4 x = h x := fun x x1 x2 => by rw [hg4, jup_ne x1, w2.1 x (by omega), g2o x x1 x2]
      have g4p : ∀ i, i ≠ 1 → g4 pn i = h pn i := fun i hi => by rw [hg4, ju_ne hi, w2.1 pn (by omega), gp i hi]
      have hF4 : CF g4 (o + 4) len (F ++ spOut s k (List.replicate (j - k) 0) ++ spOut s j (spCk (spFrB r fr n (ser % 256)) 7 :: spFrB r fr n (ser % 256))) := by
        unfold CF
        rw [hg4, jup_ne (by omega), jup_ne (by omega), jup_ne (by omega)]
        exact w3
      have hc4 : CD g4 (o + 1) ns blk len D C := hc.fr (g4o _ (by omega) (by omega)) (g4o _ (by omega) (by omega)) (g4o _ (by omega) (by omega))
      have hq4 : CQr g4 (o + 7) w r := by
        unfold CQr
        rw [g4o _ (by omega) (by omega), g4o _ (by omega) (by omega), g4o _ (by omega) (by omega)]
        exact hq
      obtain ⟨h', x1, x2, x3, x4, x5, x6⟩ := ih (j + 4 + n) (fr + n) (t + 1) e g4 _ (by omega) (by omega) (by omega) hb hc4 hF4 (by rw [List.length_append, List.length_append, spOut_len, spOut_len, List.length_replicate, List.length_cons, spFrB_len]; omega) (by rw [g4p 0 (by decide), h0]) (by rw [hg4, ju_eq]) (by rw [g4p 2 (by decide), h2]) hq4
      refine ⟨h', (jloop_l hstep).trans x1, fun x y1 y2 => (x2 x y1 y2).trans (g4o x y1 y2), ?_, fun i hi => (x4 i hi).trans (g4p i hi), x5, ?_⟩
      · rw [x3, hg4, jup_ne (by omega), w2.2, hg2, jup_ne (by omega), p2.2]
      · have e1 : F ++ spOut s k (List.replicate (j - k) 0 ++ spCk (spFrB r fr n (ser % 256)) 7 :: spFrB r fr n (ser % 256) ++ spLayB blk r (ser % 256) f (j + 4 + n) (fr + n)) = F ++ spOut s k (List.replicate (j - k) 0) ++ spOut s j (spCk (spFrB r fr n (ser % 256)) 7 :: spFrB r fr n (ser % 256)) ++ spOut s (j + 4 + n) (spLayB blk r (ser % 256) f (j + 4 + n) (fr + n)) := by
          rw [spOut_app, spOut_app, List.length_append, List.length_replicate, List.length_cons, spFrB_len, show k + (j - k) = j by omega, show k + (j - k + (3 + n + 1)) = j + 4 + n by omega]
          simp only [List.append_assoc]
        rw [e1]
        exact x6
end CL3
