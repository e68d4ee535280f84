/-! what holds at all times goes on to hold -/
section INV
variable {ns blk len : Nat} {b : Int}
theorem spKeep_len {kp : spKp} {e : Int × Int × Int} (h : kp.length ≤ 40) : (spKeep kp e).length ≤ 40 := by
  unfold spKeep
  split
  · rw [List.length_append]; simp; omega
  · rw [List.length_append, List.length_drop]; simp; omega
theorem spRelK_len {tick num : Int} : ∀ (w : spWt) (kp : spKp), kp.length ≤ 40 → (spRelK tick num w kp).length ≤ 40 := by
  intro w
  induction w with
  | nil => intro kp h; exact h
  | cons e r ih =>
    intro kp h
    refine ih _ ?_
    split
    · exact spKeep_len h
    · exact h
theorem spRelW_whos {num : Int} : ∀ (w : spWt), spWhos w → spWhos (spRelW num w) := by
  intro w
  induction w with
  | nil => intro h; exact h
  | cons e r ih =>
    intro h
    obtain ⟨h1, h2⟩ := h
    rw [List.map_cons] at h2
    have h3 := List.nodup_cons.mp h2
    have hr := ih ⟨fun x hx => h1 x (List.mem_cons_of_mem _ hx), h3.2⟩
    unfold spRelW
    split
    · exact hr
    · refine ⟨fun x hx => ?_, ?_⟩
      · rcases List.mem_cons.mp hx with h | h
        · rw [h]; exact h1 e List.mem_cons_self
        · exact hr.1 x h
      · rw [List.map_cons]
        refine List.nodup_cons.mpr ⟨fun hm => h3.1 ?_, hr.2⟩
        obtain ⟨y, y1, y2⟩ := List.mem_map.mp hm
        exact List.mem_map.mpr ⟨y, spRelW_sub r y y1, y2⟩
theorem spAck_ok {tick : Int} : ∀ (l : List spRec) (num : Int) (x : spA), (∀ r ∈ l, spRok r) → x.2.1.length ≤ 8 → spWhos x.2.1 → x.2.2.1.length ≤ 40 → (∀ i, i < 16 → -1 ≤ x.1 i ∧ x.1 i < 1000) → (spAck tick l num x).2.1.length ≤ 8 ∧ spWhos (spAck tick l num x).2.1 ∧ (spAck tick l num x).2.2.1.length ≤ 40 ∧ (∀ i, i < 16 → -1 ≤ (spAck tick l num x).1 i ∧ (spAck tick l num x).1 i < 1000) := by
  intro l
  induction l with
  | nil => intro num x _ h1 h2 h3 h4; exact ⟨h1, h2, h3, h4⟩
  | cons r l ih =>
    intro num x hr h1 h2 h3 h4
    refine ih _ _ (fun y hy => hr y (List.mem_cons_of_mem _ hy)) ?_ (spRelW_whos _ h2) (spRelK_len _ _ h3) (fun i hi => ?_)
    · have := spRelW_len (num := num) x.2.1
      show (spRelW num x.2.1).length ≤ 8
      omega
    · show -1 ≤ pu x.1 r.1.toNat r.2.1 i ∧ pu x.1 r.1.toNat r.2.1 i < 1000
      have := hr r List.mem_cons_self
      unfold spRok at this
      unfold pu
      split
      · omega
      · exact h4 i hi
theorem spInv_fl1 {s : spSt} (hI : spInv ns blk len b s) : spInv ns blk len b (spFl1 s).1 := by
  obtain ⟨⟨D, C⟩, ⟨F, lf⟩, ⟨q, fl, first⟩, ⟨wt, kp⟩, ⟨tab, stab, snap, tops⟩, ⟨sg, at', ser, gr, hl, tk⟩⟩ := s
  have hI0 := hI
  obtain ⟨i1, i2, i3, i4, i5, i6, i7⟩ := hI
  unfold spFl1
  dsimp only
  by_cases a : F = []
  · rw [if_pos a]; exact hI0
  · rw [if_neg a]
    by_cases c : lf - 1 ≤ 0
    · rw [if_pos c]
      have hk := spAck_ok (tick := tk) (q.take fl) first (tab, wt, kp, 0) (fun r hr => (i3.1 r (List.mem_of_mem_take hr)).1) i4.1 i4.2.1 i4.2.2 i5.1
      refine ⟨⟨i1.1, spArrD_by (D := D) F D (fun e he => ⟨(i2.1 e he).2.2.1, (i2.1 e he).2.2.2.1⟩) i1.2.1, spArrC_in F C i1.2.2⟩, ⟨fun e he => (by cases he), fun h => absurd rfl h, fun _ => rfl⟩, ⟨fun r hr => i3.1 r (List.mem_of_mem_drop hr), Nat.zero_le _, Nat.zero_le _, ?_, i3.2.2.2.2.1, by omega, ?_, i3.2.2.2.2.2.2.2⟩, ⟨hk.1, hk.2.1, hk.2.2.1⟩, ⟨hk.2.2.2, i5.2⟩, i6, fun _ => 0, fun _ => Nat.zero_le _, Nat.zero_le _, Nat.zero_le _, fun i h => absurd rfl h⟩
      · rw [List.length_drop]; omega
      · rw [List.length_drop]; omega
    · rw [if_neg c]
      exact ⟨i1, ⟨i2.1, fun _ => by have := i2.2.1 a; omega, i2.2.2⟩, i3, i4, i5, i6, i7⟩
/-- the bytes of laid records, and where they lie -/
def spLB (first : Int) (x : spL) : Prop := ∀ e ∈ x.2.1, 0 ≤ e.2.2 ∧ e.2.2 < 256 ∧ first ≤ x.2.2 e.1
theorem spOne_LB {tp : Nat → Int} {snap first num : Int} {r : spRec} {x y : spL} (hd0 : spDim ns blk len) (hr : spRok r) (hn : first ≤ num) (h : spOne ns blk len tp snap r num x = some y) (hx : spLB first x) : spLB first y := by
  have b1 := hd0.2.2.1
  have b2 := hd0.2.2.2.1
  have old : ∀ (e : Nat × Nat × Int) (s : Nat), e ∈ x.2.1 → first ≤ pu x.2.2 s num e.1 := by
    intro e s he
    unfold pu
    split
    · exact hn
    · exact (hx e he).2.2
  have new : ∀ (s : Nat), first ≤ pu x.2.2 s num s := by
    intro s
    unfold pu
    rw [if_pos rfl]
    exact hn
  unfold spOne at h
  split at h
  · cases h
  · rename_i q hg
    rw [← Option.some.inj h]
    intro e he
    rcases List.mem_append.mp he with h1 | h1
    · exact ⟨(hx e h1).1, (hx e h1).2.1, old e q.1 h1⟩
    · have h2 := spOut_mem _ _ _ h1
      have h3 := spLayB_in hr (by omega) (by omega) b2 (by omega) 6 _ _ _ h2.2.2.2
      exact ⟨h3.1, h3.2, by rw [h2.1]; exact new q.1⟩
  · rename_i q hg
    rw [← Option.some.inj h]
    intro e he
    rcases List.mem_append.mp he with h1 | h1
    · exact ⟨(hx e h1).1, (hx e h1).2.1, old e q.1 h1⟩
    · have h2 := spOut_mem _ _ _ h1
      have h3 : 0 ≤ e.2.2 ∧ e.2.2 < 256 := by
        rcases List.mem_append.mp h2.2.2.2 with h4 | h4
        · unfold spHdB at h4
          rcases List.mem_append.mp h4 with h5 | h5
          · exact spHd4_in _ h5
          · have := spCk_in (spHd4 q.2.2.1 num) 7 (by omega) (by omega)
            rw [List.mem_singleton.mp h5]
            omega
        · exact spLayB_in hr (by omega) (by omega) b2 (by omega) 6 _ _ _ h4
      exact ⟨h3.1, h3.2, by rw [h2.1]; exact new q.1⟩
theorem spAll_ok {tp : Nat → Int} {snap first : Int} {st : Nat} (hd0 : spDim ns blk len) : ∀ (l : List spRec) (num : Int) (x y : spL), (∀ r ∈ l, spRok r) → first ≤ num → spAll ns blk len tp snap l num x = some y → spLI ns len tp snap st x → spLB first x → spLI ns len tp snap st y ∧ spLB first y ∧ x.2.1.length + 4 * l.length ≤ y.2.1.length := by
  intro l
  induction l with
  | nil =>
    intro num x y _ _ h hI hB
    rw [← Option.some.inj h]
    exact ⟨hI, hB, by simp⟩
  | cons r l ih =>
    intro num x y hr hn h hI hB
    unfold spAll at h
    split at h
    · cases h
    · rename_i z hz
      have h1 := spOne_LI hd0 hz hI
      have h2 := ih (num + 1) z y (fun y hy => hr y (List.mem_cons_of_mem _ hy)) (by omega) h h1.1 (spOne_LB hd0 (hr r List.mem_cons_self) hn hz hB)
      refine ⟨h2.1, h2.2.1, ?_⟩
      rw [List.length_cons]
      omega
theorem spInv_clo {s : spSt} {p : spPl} {nn : Nat} (hp1 : p.1 = ns) (hp2 : p.2.1 = blk) (hp3 : p.2.2.1 = len) (hI : spInv ns blk len b s) (hF : s.2.1.1 = []) (hn1 : 1 ≤ nn) (hn : nn ≤ spWtg s) : spInv ns blk len b (spClo p nn s) := by
  have hX := spX0_LI hI hF
  have hI0 := hI
  obtain ⟨⟨D, C⟩, ⟨F, lf⟩, ⟨q, fl, first⟩, ⟨wt, kp⟩, ⟨tab, stab, snap, tops⟩, ⟨sg, at', ser, gr, hl, tk⟩⟩ := s
  obtain ⟨i1, i2, i3, i4, i5, i6, i7⟩ := hI
  dsimp only at hF
  subst hF
  have hfl : fl = 0 := i2.2.2 rfl
  subst hfl
  have hwt : spWtg ((D, C), (([] : spFl), lf), (q, 0, first), (wt, kp), (tab, stab, snap, tops), (sg, at', ser, gr, hl, tk)) = q.length := rfl
  rw [hwt] at hn
  unfold spClo
  dsimp only
  rw [hp1, hp2, hp3]
  split
  · exact hI0
  · rename_i y hy
    have h1 := spAll_ok (first := first) (st := sg) i1.1 (q.take nn) first _ y (fun r hr => (i3.1 r (List.mem_of_mem_take hr)).1) (Int.le_refl _) hy hX (fun e he => by cases he)
    obtain ⟨⟨y1, y2, y3, y4, ⟨u, u1, u2, u3, u4, u5⟩, y6, y7, y8, y9⟩, yB, yl⟩ := h1
    have hne : y.2.1 ≠ [] := by
      intro h0
      rw [h0, List.length_take] at yl
      simp at yl
      omega
    refine ⟨i1, ⟨fun e he => ⟨(y6 e he).1, (y6 e he).2.1, (yB e he).1, (yB e he).2.1, (yB e he).2.2⟩, fun _ => by omega, fun h => absurd h hne⟩, ⟨i3.1, hn, by omega, by omega, i3.2.2.2.2⟩, i4, i5, ⟨y1, y2, y8, y9, i6.2.2.2.2⟩, u, u1, u2, u4, u5⟩
theorem spInv_fl2 {s : spSt} {p : spPl} {rule : Nat} (hp1 : p.1 = ns) (hp2 : p.2.1 = blk) (hp3 : p.2.2.1 = len) (hI : spInv ns blk len b s) : spInv ns blk len b (spFl2 p rule s) := by
  unfold spFl2
  split
  · rename_i h
    refine spInv_clo hp1 hp2 hp3 hI h.1 ?_ ?_
    · split <;> omega
    · split <;> omega
  · exact hI
theorem spInv_fl3 {s : spSt} (hI : spInv ns blk len b s) (ht : s.2.2.2.2.2.2.2.2.2.2 ≤ 998) : spInv ns blk len b (spFl3 s) := by
  obtain ⟨⟨D, C⟩, ⟨F, lf⟩, ⟨q, fl, first⟩, ⟨wt, kp⟩, ⟨tab, stab, snap, tops⟩, ⟨sg, at', ser, gr, hl, tk⟩⟩ := s
  obtain ⟨i1, i2, i3, i4, i5, i6, i7⟩ := hI
  dsimp only at ht
  exact ⟨i1, i2, i3, i4, i5, ⟨i6.1, i6.2.1, i6.2.2.1, i6.2.2.2.1, by show 0 ≤ tk + 1; omega, by show tk + 1 ≤ 999; omega⟩, i7⟩
theorem spFl1_tk {s : spSt} : (spFl1 s).1.2.2.2.2.2.2.2.2.2.2 = s.2.2.2.2.2.2.2.2.2.2 := by
  obtain ⟨⟨D, C⟩, ⟨F, lf⟩, ⟨q, fl, first⟩, ⟨wt, kp⟩, ⟨tab, stab, snap, tops⟩, ⟨sg, at', ser, gr, hl, tk⟩⟩ := s
  unfold spFl1
  dsimp only
  split
  · rfl
  · split <;> rfl
theorem spFl2_tk {s : spSt} {p : spPl} {rule : Nat} : (spFl2 p rule s).2.2.2.2.2.2.2.2.2.2 = s.2.2.2.2.2.2.2.2.2.2 := by
  unfold spFl2 spClo
  split
  · split <;> rfl
  · rfl
theorem spTick_tk {s : spSt} {p : spPl} {rule : Nat} : (spTick p rule s).1.2.2.2.2.2.2.2.2.2.2 = s.2.2.2.2.2.2.2.2.2.2 + 1 := by
  unfold spTick spFl3
  show (spFl2 p rule (spFl1 s).1).2.2.2.2.2.2.2.2.2.2 + 1 = _
  rw [spFl2_tk, spFl1_tk]
theorem spInv_tick {s : spSt} {p : spPl} {rule : Nat} (hp1 : p.1 = ns) (hp2 : p.2.1 = blk) (hp3 : p.2.2.1 = len) (hI : spInv ns blk len b s) (ht : s.2.2.2.2.2.2.2.2.2.2 ≤ 998) : spInv ns blk len b (spTick p rule s).1 := by
  unfold spTick
  exact spInv_fl3 (spInv_fl2 hp1 hp2 hp3 (spInv_fl1 hI)) (by rw [spFl2_tk, spFl1_tk]; exact ht)
theorem spInv_F {s : spSt} (hI : spInv ns blk len b s) : s.2.1.1.length ≤ 512 := by
  obtain ⟨⟨D, C⟩, ⟨F, lf⟩, ⟨q, fl, first⟩, ⟨wt, kp⟩, ⟨tab, stab, snap, tops⟩, ⟨sg, at', ser, gr, hl, tk⟩⟩ := s
  obtain ⟨i1, i2, i3, i4, i5, i6, ⟨u, u1, u2, u4, u5⟩⟩ := hI
  have := i1.1.len
  have := u1 0; have := u1 1; have := u1 2; have := u1 3
  show F.length ≤ 512
  omega
end INV
section CT3
variable {ns blk len : Nat} {T : jT}
theorem c_tick {h : jH} {o pn pl n rule : Nat} {b : Int} {s : spSt} {p : spPl} (hp1 : p.1 = ns) (hp2 : p.2.1 = blk) (hp3 : p.2.2.1 = len) (hpl : pl + 8 < o ∨ o + 20 < pl) (hpn : pn < o ∨ o + 20 < pn) (hpp : pn < pl ∨ pl + 8 < pn) (hT : isX6 T pl) (h0 : h o 0 = (pl : Int)) (hP : CPl h pl p) (hpk : spPok p) (hs : CS h o ns blk len n s) (hI : spInv ns blk len b s) (hn : n + s.2.2.2.1.1.length ≤ 1000000) (hr : rule ≤ 100) :
    ∃ h' n', St_passTick T h o pn (rule : Int) = some ((spTick p rule s).2, h') ∧ (∀ z, (z < o ∨ o + 20 < z) → z ≠ pn → (z < pl + 1 ∨ pl + 8 < z) → h' z = h z) ∧ CPl h' pl p ∧ CS h' o ns blk len n' (spTick p rule s).1 ∧ h' o 0 = (pl : Int) ∧ n' + (spTick p rule s).1.2.2.2.1.1.length = n + s.2.2.2.1.1.length := by
  have hF := spInv_F hI
  obtain ⟨h1, n1, e1, e2, e3, e4, e5⟩ := c_fl1 hs hI hn hF
  have hI1 := spInv_fl1 hI
  have hpass : St_passTick T h o pn (rule : Int) = St_passTick_p44 T h1 o pn (rule : Int) (spFl1 s).2 := by
    unfold St_passTick St_passTick_p43
    by_cases a : 0 < h (o + 4) 2
    · rw [if_pos a] at e1 ⊢
      by_cases c : 0 < ((jup h (o + 4) 3 (wr ((h (o + 4) 3) - 1))) (o + 4) 3)
      · rw [if_pos c] at e1 ⊢
        have := Option.some.inj e1
        rw [← (Prod.mk.inj this).1, ← (Prod.mk.inj this).2]
      · rw [if_neg c] at e1 ⊢
        cases hx : St_acknowledge (jup h (o + 4) 3 (wr ((h (o + 4) 3) - 1))) o with
        | none => rw [hx] at e1; cases e1
        | some y =>
          rw [hx] at e1
          have := Option.some.inj e1
          rw [← (Prod.mk.inj this).1, ← (Prod.mk.inj this).2]
          rfl
    · rw [if_neg a] at e1 ⊢
      have := Option.some.inj e1
      rw [← (Prod.mk.inj this).1, ← (Prod.mk.inj this).2]
  rw [hpass]
  have hPof : ∀ g : jH, (∀ z, (z = pl + 1 ∨ z = pl + 2 ∨ z = pl + 5 ∨ z = pl + 6) → g z = h z) → CPl g pl p := by
    intro g hg
    refine ⟨?_, ?_⟩
    · unfold CFm; rw [hg _ (by omega), hg _ (by omega)]; exact hP.1
    · unfold CFm; rw [hg _ (by omega), hg _ (by omega)]; exact hP.2
  have hP1 : CPl h1 pl p := hPof h1 (fun z hz => e2 z (by omega))
  have h01 : h1 o 0 = (pl : Int) := by rw [e3 0]; exact h0
  -- the tick itself
  have fin : ∀ (g : jH) (s2 : spSt), CS g o ns blk len n1 s2 → spInv ns blk len b s2 → CPl g pl p → g o 0 = (pl : Int) → (∀ z, (z < o ∨ o + 20 < z) → z ≠ pn → (z < pl + 1 ∨ pl + 8 < z) → g z = h z) → ∃ h', St_passTick_p106 T g o (spFl1 s).2 = some ((spFl1 s).2, h') ∧ (∀ z, (z < o ∨ o + 20 < z) → z ≠ pn → (z < pl + 1 ∨ pl + 8 < z) → h' z = h z) ∧ CPl h' pl p ∧ CS h' o ns blk len n1 (spFl3 s2) ∧ h' o 0 = (pl : Int) := by
    intro g s2 gs gi gp g0 go
    obtain ⟨⟨D, C⟩, ⟨F, lf⟩, ⟨q, fl, first⟩, ⟨wt, kp⟩, ⟨tab, stab, snap, tops⟩, ⟨sg, at', ser, gr, hl, tk⟩⟩ := s2
    obtain ⟨c1, ⟨c2, c2'⟩, c3, ⟨c4, c4'⟩, ⟨t1, t2, t3, t4⟩, p1, p2, p3, p4, p5, p6⟩ := gs
    obtain ⟨i1, i2, i3, i4, i5, i6, i7⟩ := gi
    unfold St_passTick_p106
    rw [p6, pw (by omega) (by omega)]
    have k : ∀ z, z ≠ o → (jup g o 9 (tk + 1)) z = g z := fun z hz => jup_ne hz
    refine ⟨_, rfl, fun z z1 z2 z3 => by rw [k z (by omega), go z z1 z2 z3], ?_, ⟨c1.eq (fun z z1 z2 => k z (by omega)), ⟨?_, by rw [k _ (by omega)]; exact c2'⟩, c3.of (fun z z1 z2 => k z (by omega)), ⟨?_, ?_⟩, ⟨?_, ?_, ?_, ?_⟩, ?_, ?_, ?_, ?_, ?_, ju_eq⟩, by rw [ju_ne (by decide)]; exact g0⟩
    · refine ⟨?_, ?_⟩
      · unfold CFm; rw [k _ (by omega), k _ (by omega)]; exact gp.1
      · unfold CFm; rw [k _ (by omega), k _ (by omega)]; exact gp.2
    · unfold CF; rw [k _ (by omega), k _ (by omega), k _ (by omega)]; exact c2
    · unfold CW CWa; rw [k _ (by omega), k _ (by omega), k _ (by omega)]; exact c4
    · unfold CKn; rw [k _ (by omega), k _ (by omega), k _ (by omega), k _ (by omega)]; exact c4'
    · rw [k _ (by omega)]; exact t1
    · rw [k _ (by omega)]; exact t2
    · rw [ju_ne (by decide)]; exact t3
    · rw [k _ (by omega)]; exact t4
    · rw [ju_ne (by decide)]; exact p1
    · rw [ju_ne (by decide)]; exact p2
    · rw [ju_ne (by decide)]; exact p3
    · rw [ju_ne (by decide)]; exact p4
    · rw [ju_ne (by decide)]; exact p5
  have h1o : ∀ z, (z < o ∨ o + 20 < z) → z ≠ pn → (z < pl + 1 ∨ pl + 8 < z) → h1 z = h z := fun z z1 _ _ => e2 z z1
  -- what is asked
  have heq : spTick p rule s = (spFl3 (spFl2 p rule (spFl1 s).1), (spFl1 s).2) := rfl
  have hwtt : (spFl2 p rule (spFl1 s).1).2.2.2.1.1 = (spFl1 s).1.2.2.2.1.1 := by
    unfold spFl2 spClo
    split
    · split <;> rfl
    · rfl
  rw [heq]
  dsimp only
  generalize spFl1 s = s1 at e1 e4 e5 hI1 fin hwtt ⊢
  obtain ⟨s1, rel⟩ := s1
  dsimp only at e1 e4 e5 hI1 fin hwtt ⊢
  have hlen : n1 + (spFl3 (spFl2 p rule s1)).2.2.2.1.1.length = n + s.2.2.2.1.1.length := by
    show n1 + (spFl2 p rule s1).2.2.2.1.1.length = _
    rw [hwtt]; exact e5
  have hcond : h1 (o + 4) 2 = (s1.2.1.1.length : Int) ∧ Qu_waitingCount h1 (o + 7) = some (spWtg s1 : Int) ∧ h1 o 14 = (if s1.2.2.2.2.2.2.2.2.2.1 = true then 1 else 0) := by
    obtain ⟨⟨D, C⟩, ⟨F, lf⟩, ⟨q, fl, first⟩, ⟨wt, kp⟩, ⟨tab, stab, snap, tops⟩, ⟨sg, at', ser, gr, hl, tk⟩⟩ := s1
    obtain ⟨c1, ⟨c2, c2'⟩, c3, ⟨c4, c4'⟩, ⟨t1, t2, t3, t4⟩, p1, p2, p3, p4, p5, p6⟩ := e4
    obtain ⟨i1, i2, i3, i4, i5, i6, i7⟩ := hI1
    refine ⟨c2.1, ?_, p5⟩
    unfold Qu_waitingCount
    rw [c3.2.1, c3.2.2.1, pw (by omega) (by omega)]
    show some ((q.length : Int) - (fl : Int)) = some ((q.length - fl : Nat) : Int)
    congr 1
    omega
  have close : ∀ (g : jH), CS g o ns blk len n1 s1 → CPl g pl p → g o 0 = (pl : Int) → (∀ z, (z < o ∨ o + 20 < z) → z ≠ pn → (z < pl + 1 ∨ pl + 8 < z) → g z = h z) → s1.2.1.1 = [] → 0 < spWtg s1 → ∃ h', St_passTick_p86 T g o pn (rule : Int) rel (spWtg s1 : Int) = some (rel, h') ∧ (∀ z, (z < o ∨ o + 20 < z) → z ≠ pn → (z < pl + 1 ∨ pl + 8 < z) → h' z = h z) ∧ CPl h' pl p ∧ CS h' o ns blk len n1 (spFl3 (spClo p (if 0 < rule then min rule (spWtg s1) else spWtg s1) s1)) ∧ h' o 0 = (pl : Int) := by
    intro g gs gp g0 go hFe hw
    obtain ⟨m, hm⟩ : ∃ m, m = (if 0 < rule then min rule (spWtg s1) else spWtg s1) := ⟨_, rfl⟩
    have hm1 : 1 ≤ m ∧ m ≤ spWtg s1 := by rw [hm]; split <;> omega
    have hp86 : St_passTick_p86 T g o pn (rule : Int) rel (spWtg s1 : Int) = St_passTick_p103 T g o rel o pn (m : Int) := by
      unfold St_passTick_p86
      by_cases a : 0 < rule
      · rw [if_pos a] at hm
        rw [if_pos (by omega)]
        congr 1
        omega
      · rw [if_neg a] at hm
        rw [if_neg (by omega), hm]
    obtain ⟨g1, f1, f2, f3, f4, f5⟩ := c_close hp1 hp2 hp3 hpl hpn hpp hT g0 gp hpk gs hI1 hFe hm1.1 hm1.2
    rw [hp86, ← hm]
    unfold St_passTick_p103
    rw [f1]
    exact fin g1 _ f4 (spInv_clo hp1 hp2 hp3 hI1 hFe hm1.1 hm1.2) f3 f5 (fun z z1 z2 z3 => by rw [f2 z z1 z2 (by omega), go z z1 z2 z3])
  have goal : ∀ (X : Option (Int × jH)) (s2 : spSt), (∃ h', X = some (rel, h') ∧ (∀ z, (z < o ∨ o + 20 < z) → z ≠ pn → (z < pl + 1 ∨ pl + 8 < z) → h' z = h z) ∧ CPl h' pl p ∧ CS h' o ns blk len n1 (spFl3 s2) ∧ h' o 0 = (pl : Int)) → spFl2 p rule s1 = s2 → ∃ h' n', X = some (rel, h') ∧ (∀ z, (z < o ∨ o + 20 < z) → z ≠ pn → (z < pl + 1 ∨ pl + 8 < z) → h' z = h z) ∧ CPl h' pl p ∧ CS h' o ns blk len n' (spFl3 (spFl2 p rule s1)) ∧ h' o 0 = (pl : Int) ∧ n' + (spFl3 (spFl2 p rule s1)).2.2.2.1.1.length = n + s.2.2.2.1.1.length := by
    intro X s2 hX hs2
    obtain ⟨h', x1, x2, x3, x4, x5⟩ := hX
    rw [← hs2] at x4
    exact ⟨h', n1, x1, x2, x3, x4, x5, hlen⟩
  unfold St_passTick_p44
  rw [hcond.2.1]
  simp only [Option.bind_some]
  rw [hcond.1, hcond.2.2]
  by_cases a1 : s1.2.1.1 = []
  rotate_left
  · have : s1.2.1.1.length ≠ 0 := fun h => a1 (List.length_eq_zero_iff.mp h)
    rw [if_neg (by omega)]
    exact goal _ s1 (fin h1 s1 e4 hI1 hP1 h01 h1o) (by unfold spFl2; rw [if_neg (fun h => a1 h.1)])
  rw [if_pos (by rw [a1]; rfl)]
  by_cases a2 : 0 < spWtg s1
  rotate_left
  · rw [if_neg (by omega)]
    exact goal _ s1 (fin h1 s1 e4 hI1 hP1 h01 h1o) (by unfold spFl2; rw [if_neg (fun h => a2 h.2.1)])
  rw [if_pos (by omega)]
  by_cases a3 : s1.2.2.2.2.2.2.2.2.2.1 = true
  · rw [if_neg (by rw [if_pos a3]; decide)]
    exact goal _ s1 (fin h1 s1 e4 hI1 hP1 h01 h1o) (by unfold spFl2; rw [if_neg (fun h => by rw [a3] at h; cases h.2.2.1)])
  have a3' : s1.2.2.2.2.2.2.2.2.2.1 = false := by cases hq : s1.2.2.2.2.2.2.2.2.2.1 with
    | true => exact absurd hq a3
    | false => rfl
  rw [if_pos (by rw [if_neg a3])]
  by_cases a4 : 0 < rule
  · rw [if_pos (by omega)]
    refine goal _ (spClo p (if 0 < rule then min rule (spWtg s1) else spWtg s1) s1) (close h1 e4 hP1 h01 h1o a1 a2) ?_
    unfold spFl2
    rw [if_pos ⟨a1, a2, a3', Or.inl a4⟩]
  · rw [if_neg (by omega)]
    obtain ⟨g, f1, f2, f3⟩ := c_test hpl hT h01 hP1 hpk e4 hI1 a2
    rw [f1]
    simp only [Option.bind_some]
    have gs : CS g o ns blk len n1 s1 := e4.eq (fun z z1 z2 => f2 z (by omega) (by omega) (by omega))
    have g0 : g o 0 = (pl : Int) := by rw [f2 o (by omega) (by omega) (by omega)]; exact h01
    have go : ∀ z, (z < o ∨ o + 20 < z) → z ≠ pn → (z < pl + 1 ∨ pl + 8 < z) → g z = h z := fun z z1 z2 z3 => by rw [f2 z (by omega) (by omega) (by omega)]; exact h1o z z1 z2 z3
    by_cases a5 : spTold (spGe s1 (spWtg s1)) p.2.2.2.1 = 0
    · rw [if_pos (by rw [if_neg (by simp [a5])])]
      refine goal _ s1 (fin g s1 gs hI1 f3 g0 go) ?_
      unfold spFl2
      rw [if_neg]
      rintro ⟨_, _, _, h | h⟩
      · exact a4 h
      · exact h a5
    · rw [if_neg (by rw [if_pos a5]; decide)]
      refine goal _ (spClo p (if 0 < rule then min rule (spWtg s1) else spWtg s1) s1) (close g gs f3 g0 go a1 a2) ?_
      unfold spFl2
      rw [if_pos ⟨a1, a2, a3', Or.inr a5⟩]
end CT3
