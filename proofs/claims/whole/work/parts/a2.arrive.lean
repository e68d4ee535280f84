/-! arriving, on both sides -/
section ARR
variable {ns blk len : Nat}
theorem c_write {h : jH} {od s k : Nat} {D C : Nat → Nat → Int} {a v : Int} (hd0 : spDim ns blk len) (hc : CD h od ns blk len D C) (hs : s < ns) (hk : k < len) (ha : a = ((s * len + k : Nat) : Int)) : ∃ h', Di_write h od a v = some h' ∧ (∀ q, q ≠ od + 1 → q ≠ od + 2 → h' q = h q) ∧ CD h' od ns blk len (up2 D s k v) (up2 C s k 0) := by
  subst ha
  have hadr := hd0.adr hs hk
  unfold Di_write
  rw [g_putN (by omega)]
  simp only [Option.bind_some]
  rw [g_putN (by omega)]
  obtain ⟨c1, c2, c3, c4, c5, c6⟩ := hc
  refine ⟨_, rfl, fun q q1 q2 => by rw [jup_ne q2, jup_ne q1], by rw [jup_ne (by omega), jup_ne (by omega)]; exact c1, by rw [jup_ne (by omega), jup_ne (by omega)]; exact c2, by rw [jup_ne (by omega), jup_ne (by omega)]; exact c3, fun s' k' hs' hk' => ?_, fun s' k' hs' hk' => ?_, fun i h1 h2 => ?_⟩
  · rw [jup_ne (by omega), ju_if]
    unfold up2
    by_cases a : s' = s ∧ k' = k
    · rw [if_pos a, if_pos (by rw [a.1, a.2])]
    · rw [if_neg a, if_neg (fun e => a (sp_adr_inj hk' hk e))]
      exact c4 s' k' hs' hk'
  · rw [ju_if, jup_ne (by omega)]
    unfold up2
    by_cases a : s' = s ∧ k' = k
    · rw [if_pos a, if_pos (by rw [a.1, a.2])]
    · rw [if_neg a, if_neg (fun e => a (sp_adr_inj hk' hk e))]
      exact c5 s' k' hs' hk'
  · rw [ju_ne (by omega), jup_ne (by omega)]
    exact c6 i h1 h2
theorem c_arrL {of od t : Nat} {F : spFl} (hd0 : spDim ns blk len) (hof : of + 2 < od ∨ od + 2 < of) (hF : ∀ e ∈ F, e.1 < ns ∧ e.2.1 < len) (hn : F.length ≤ 512) (ht : t ≤ F.length) : ∀ (m i : Nat) (h : jH) (D C : Nat → Nat → Int), i + m = t → CD h od ns blk len D C → CF h of len F →
    ∃ h', Fl_arrive_L3 h of od (t : Int) (i : Int) = some h' ∧ (∀ q, q ≠ od + 1 → q ≠ od + 2 → h' q = h q) ∧ CD h' od ns blk len (spArrD ((F.drop i).take m) D) (spArrC ((F.drop i).take m) C) := by
  unfold Fl_arrive_L3
  intro m
  induction m with
  | zero =>
    intro i h D C hi hc hf
    refine ⟨h, jloop_r ?_, fun _ _ _ => rfl, hc⟩
    show Fl_arrive_B3 h of od (t : Int) (i : Int) = _
    unfold Fl_arrive_B3
    rw [if_neg (by omega)]
    rfl
  | succ m ih =>
    intro i h D C hi hc hf
    have hlt : i < F.length := by omega
    have hm := hF _ (List.getElem_mem hlt)
    have hw := hf.2 i _ (List.getElem?_eq_getElem hlt)
    obtain ⟨h1, e1, e2, e3⟩ := c_write (v := F[i].2.2) hd0 hc hm.1 hm.2 rfl
    have hf1 : CF h1 of len F := by
      unfold CF
      rw [e2 _ (by omega) (by omega), e2 _ (by omega) (by omega), e2 _ (by omega) (by omega)]
      exact hf
    obtain ⟨h', w1, w2, w3⟩ := ih (i + 1) h1 _ _ (by omega) e3 hf1
    refine ⟨h', (jloop_l (s' := (((i + 1 : Nat) : Int), h1)) ?_).trans w1, fun q q1 q2 => (w2 q q1 q2).trans (e2 q q1 q2), ?_⟩
    · show Fl_arrive_B3 h of od (t : Int) (i : Int) = _
      unfold Fl_arrive_B3
      rw [if_pos (by omega), hf.1, if_pos (by omega), g_cellN (by omega), g_cellN (by omega), hw.1, hw.2]
      simp only [Option.bind_some]
      rw [e1]
      simp only [Option.bind_some]
      rw [pw (by omega) (by omega)]
      rfl
    · rw [List.drop_eq_getElem_cons hlt, List.take_succ_cons]
      exact w3
theorem c_arrive {h : jH} {of od i t : Nat} {F : spFl} {D C : Nat → Nat → Int} (hd0 : spDim ns blk len) (hof : of + 2 < od ∨ od + 2 < of) (hF : ∀ e ∈ F, e.1 < ns ∧ e.2.1 < len) (hn : F.length ≤ 512) (hi : i ≤ t) (ht : t ≤ F.length) (hc : CD h od ns blk len D C) (hf : CF h of len F) : ∃ h', Fl_arrive h of od (i : Int) (t : Int) = some h' ∧ (∀ q, q ≠ od + 1 → q ≠ od + 2 → h' q = h q) ∧ CD h' od ns blk len (spArrD ((F.drop i).take (t - i)) D) (spArrC ((F.drop i).take (t - i)) C) := by
  unfold Fl_arrive
  exact c_arrL hd0 hof hF hn ht (t - i) i h D C (by omega) hc hf
theorem m_arrL {o t : Nat} {F : spFl} (hd0 : spDim ns blk len) (hF : ∀ e ∈ F, e.1 < ns ∧ e.2.1 < len) (hn : F.length ≤ 512) (ht : t ≤ F.length) : ∀ (m i : Nat) (h : jH) (D C : Nat → Nat → Int), i + m = t → MD h o ns blk len D C → MF (h (o + 33)) F →
    ∃ h1, M_arrives_L2 h o (t : Int) (i : Int) = some (jup (jup h1 (o + 33) 4 0) (o + 33) 3 0) ∧ MDf o h h1 ∧ MD h1 o ns blk len (spArrD ((F.drop i).take m) D) (spArrC ((F.drop i).take m) C) := by
  unfold M_arrives_L2
  intro m
  induction m with
  | zero =>
    intro i h D C hi hc hf
    refine ⟨h, jloop_r ?_, MDf.rf, hc⟩
    show M_arrives_B2 h o (t : Int) (i : Int) = _
    unfold M_arrives_B2
    rw [if_neg (by omega), if_pos (by decide), if_pos (by decide)]
    rfl
  | succ m ih =>
    intro i h D C hi hc hf
    have hlt : i < F.length := by omega
    have hm := hF _ (List.getElem_mem hlt)
    have hw := hf.2 i _ (List.getElem?_eq_getElem hlt)
    obtain ⟨h1, e1, e2, e3⟩ := m_lands (v := F[i].2.2) hd0 hc hm.1 hm.2
    have hf1 : MF (h1 (o + 33)) F := by
      refine ⟨by rw [e2.2 4 (by omega)]; exact hf.1, fun j e he => ?_⟩
      rw [e2.2 _ (by omega), e2.2 _ (by omega)]
      exact hf.2 j e he
    obtain ⟨h', w1, w2, w3⟩ := ih (i + 1) h1 _ _ (by omega) e3 hf1
    refine ⟨h', (jloop_l (s' := (((i + 1 : Nat) : Int), h1)) ?_).trans w1, e2.tr w2, ?_⟩
    · show M_arrives_B2 h o (t : Int) (i : Int) = _
      unfold M_arrives_B2
      rw [if_pos (by omega), pw (x := 1220 + (i : Int)) (by omega) (by omega), if_pos (by omega), pw (x := 1732 + (i : Int)) (by omega) (by omega), if_pos (by omega), show (1220 + (i : Int)).toNat = 1220 + i by omega, show (1732 + (i : Int)).toNat = 1732 + i by omega, hw.1, hw.2, e1]
      simp only [Option.bind_some]
      rw [pw (by omega) (by omega)]
      rfl
    · rw [List.drop_eq_getElem_cons hlt, List.take_succ_cons]
      exact w3
theorem m_arrive {h : jH} {o t : Nat} {F : spFl} {D C : Nat → Nat → Int} (hd0 : spDim ns blk len) (hF : ∀ e ∈ F, e.1 < ns ∧ e.2.1 < len) (hn : F.length ≤ 512) (ht : t ≤ F.length) (hc : MD h o ns blk len D C) (hf : MF (h (o + 33)) F) : ∃ h', M_arrives h o (t : Int) = some h' ∧ (∀ q, q ≠ o + 33 → h' q = h q) ∧ (∀ i, i ≠ 3 → i ≠ 4 → (i < 196 ∨ 1220 ≤ i) → h' (o + 33) i = h (o + 33) i) ∧ h' (o + 33) 4 = 0 ∧ h' (o + 33) 3 = 0 ∧ MD h' o ns blk len (spArrD (F.take t) D) (spArrC (F.take t) C) := by
  unfold M_arrives
  obtain ⟨h1, e1, e2, e3⟩ := m_arrL hd0 hF hn ht t 0 h D C (by omega) hc hf
  rw [List.drop_zero] at e3
  refine ⟨_, e1, fun q hq => by rw [jup_ne hq, jup_ne hq, e2.1 q hq], fun i i3 i4 hi => by rw [ju_ne i3, ju_ne i4, e2.2 i hi], by rw [ju_ne (by decide), ju_eq], ju_eq, e3.fr hd0 (by rw [jup_ne (by omega), jup_ne (by omega)]) (fun i _ _ => by rw [ju_ne (by omega), ju_ne (by omega)])⟩
theorem spArrD_by {D : Nat → Nat → Int} : ∀ (F : spFl) (D : Nat → Nat → Int), (∀ e ∈ F, 0 ≤ e.2.2 ∧ e.2.2 < 256) → spByD ns len D → spByD ns len (spArrD F D) := by
  intro F
  induction F with
  | nil => intro D _ h; exact h
  | cons e r ih =>
    intro D hF h
    refine ih _ (fun x hx => hF x (List.mem_cons_of_mem _ hx)) (fun s hs k hk => ?_)
    unfold up2
    split
    · exact hF e List.mem_cons_self
    · exact h s hs k hk
theorem spArrC_in : ∀ (F : spFl) (C : Nat → Nat → Int), (∀ s k, s < ns → k < len → 0 ≤ C s k ∧ C s k ≤ 1) → ∀ s k, s < ns → k < len → 0 ≤ spArrC F C s k ∧ spArrC F C s k ≤ 1 := by
  intro F
  induction F with
  | nil => intro C h; exact h
  | cons e r ih =>
    intro C h
    refine ih _ (fun s k hs hk => ?_)
    unfold up2
    split
    · omega
    · exact h s k hs hk
/-- those on their way are acknowledged: the records behind them go up -/
theorem c_dropL {oq fl : Nat} {first : Int} {q : List spRec} (hfl : fl ≤ q.length) (hq32 : q.length ≤ 32) (hf : 0 ≤ first ∧ first ≤ 1000000000) : ∀ (m i : Nat) (h : jH), i + m = q.length → fl ≤ i → h oq 4 = first → h oq 5 = (fl : Int) → h oq 6 = (q.length : Int) → (∀ (k : Nat) r, q[k]? = some r → i ≤ k → h (oq + 1) k = r.1 ∧ h (oq + 2) k = r.2.1 ∧ h (oq + 3) k = r.2.2.1 ∧ h (oq + 4) k = r.2.2.2) → (∀ (k : Nat) r, (q.drop fl)[k]? = some r → k < i - fl → h (oq + 1) k = r.1 ∧ h (oq + 2) k = r.2.1 ∧ h (oq + 3) k = r.2.2.1 ∧ h (oq + 4) k = r.2.2.2) →
    ∃ h', Qu_drop_L5 h oq (i : Int) = some h' ∧ (∀ z, (z < oq ∨ oq + 4 < z) → h' z = h z) ∧ CQ h' oq (q.drop fl) 0 (first + (fl : Int)) := by
  unfold Qu_drop_L5
  intro m
  induction m with
  | zero =>
    intro i h hi hfi h4 h5 h6 ha hb
    refine ⟨jup (jup (jup h oq 4 (first + (fl : Int))) oq 6 ((q.length : Int) - (fl : Int))) oq 5 0, jloop_x (X := some _) ?_, fun z hz => by rw [jup_ne (by omega), jup_ne (by omega), jup_ne (by omega)], ?_, ?_, ?_, ?_, fun k r hr => ?_⟩
    · show Qu_drop_B5 h oq (i : Int) = _
      unfold Qu_drop_B5
      rw [h6, if_neg (by omega), h4, h5, ju_ne (by decide), h6, ju_ne (by decide), h5, pw (by omega) (by omega), pw (by omega) (by omega)]
    · rw [ju_ne (by decide), ju_ne (by decide), ju_eq]
    · rw [ju_eq]; rfl
    · rw [ju_ne (by decide), ju_eq, List.length_drop]; omega
    · rw [List.length_drop]; omega
    · have hk := (List.getElem?_eq_some_iff.mp hr).1
      rw [List.length_drop] at hk
      rw [jup_ne (by omega), jup_ne (by omega), jup_ne (by omega), jup_ne (by omega), jup_ne (by omega), jup_ne (by omega), jup_ne (by omega), jup_ne (by omega), jup_ne (by omega), jup_ne (by omega), jup_ne (by omega), jup_ne (by omega)]
      exact hb k r hr (by omega)
  | succ m ih =>
    intro i h hi hfi h4 h5 h6 ha hb
    have hlt : i < q.length := by omega
    have hr := ha i _ (List.getElem?_eq_getElem hlt) (Nat.le_refl _)
    obtain ⟨h1, hh1⟩ : ∃ h1 : jH, h1 = jup (jup (jup (jup h (oq + 1) (i - fl) q[i].1) (oq + 2) (i - fl) q[i].2.1) (oq + 3) (i - fl) q[i].2.2.1) (oq + 4) (i - fl) q[i].2.2.2 := ⟨_, rfl⟩
    have c1 : ∀ k, h1 (oq + 1) k = if k = i - fl then q[i].1 else h (oq + 1) k := fun k => by rw [hh1, jup_ne (by omega), jup_ne (by omega), jup_ne (by omega), ju_if]
    have c2 : ∀ k, h1 (oq + 2) k = if k = i - fl then q[i].2.1 else h (oq + 2) k := fun k => by rw [hh1, jup_ne (by omega), jup_ne (by omega), ju_if, jup_ne (by omega)]
    have c3 : ∀ k, h1 (oq + 3) k = if k = i - fl then q[i].2.2.1 else h (oq + 3) k := fun k => by rw [hh1, jup_ne (by omega), ju_if, jup_ne (by omega), jup_ne (by omega)]
    have c4 : ∀ k, h1 (oq + 4) k = if k = i - fl then q[i].2.2.2 else h (oq + 4) k := fun k => by rw [hh1, ju_if, jup_ne (by omega), jup_ne (by omega), jup_ne (by omega)]
    have o0 : h1 oq = h oq := by rw [hh1, jup_ne (by omega), jup_ne (by omega), jup_ne (by omega), jup_ne (by omega)]
    have hfirst : (q.drop fl)[i - fl]? = some q[i] := by
      rw [List.getElem?_drop, show fl + (i - fl) = i by omega]
      exact List.getElem?_eq_getElem hlt
    -- a later record's cells are as they were; with fl = 0 the cell gets what it held
    obtain ⟨h', w1, w2, w3⟩ := ih (i + 1) h1 (by omega) (by omega) (by rw [o0]; exact h4) (by rw [o0]; exact h5) (by rw [o0]; exact h6) (fun k r hk hik => by
      rw [c1, c2, c3, c4, if_neg (by omega), if_neg (by omega), if_neg (by omega), if_neg (by omega)]
      exact ha k r hk (by omega)) (fun k r hk hik => by
      rw [c1, c2, c3, c4]
      by_cases z : k = i - fl
      · subst z
        rw [hfirst] at hk
        have := Option.some.inj hk
        rw [if_pos rfl, if_pos rfl, if_pos rfl, if_pos rfl, this]
        exact ⟨rfl, rfl, rfl, rfl⟩
      · rw [if_neg z, if_neg z, if_neg z, if_neg z]
        exact hb k r hk (by omega))
    refine ⟨h', (jloop_l (s' := (((i + 1 : Nat) : Int), h1)) ?_).trans w1, fun z hz => by rw [w2 z hz, hh1, jup_ne (by omega), jup_ne (by omega), jup_ne (by omega), jup_ne (by omega)], w3⟩
    show Qu_drop_B5 h oq (i : Int) = _
    unfold Qu_drop_B5
    have e5 : wr ((i : Int) - (fl : Int)) = ((i - fl : Nat) : Int) := by rw [pw (by omega) (by omega)]; omega
    rw [h6, if_pos (by omega), g_cellN (by omega), hr.1]
    simp only [Option.bind_some]
    rw [h5, e5, g_putN (by omega)]
    simp only [Option.bind_some]
    rw [g_cellN (by omega), jup_ne (show oq + 2 ≠ oq + 1 by omega), hr.2.1]
    simp only [Option.bind_some]
    rw [jup_ne (show oq ≠ oq + 1 by omega), h5, e5, g_putN (by omega)]
    simp only [Option.bind_some]
    rw [g_cellN (by omega), jup_ne (show oq + 3 ≠ oq + 2 by omega), jup_ne (show oq + 3 ≠ oq + 1 by omega), hr.2.2.1]
    simp only [Option.bind_some]
    rw [jup_ne (show oq ≠ oq + 2 by omega), jup_ne (show oq ≠ oq + 1 by omega), h5, e5, g_putN (by omega)]
    simp only [Option.bind_some]
    rw [g_cellN (by omega), jup_ne (show oq + 4 ≠ oq + 3 by omega), jup_ne (show oq + 4 ≠ oq + 2 by omega), jup_ne (show oq + 4 ≠ oq + 1 by omega), hr.2.2.2]
    simp only [Option.bind_some]
    rw [jup_ne (show oq ≠ oq + 3 by omega), jup_ne (show oq ≠ oq + 2 by omega), jup_ne (show oq ≠ oq + 1 by omega), h5, e5, g_putN (by omega)]
    simp only [Option.bind_some]
    rw [pw (by omega) (by omega), ← hh1]
    rfl
theorem c_drop {h : jH} {oq fl : Nat} {first : Int} {q : List spRec} (hq : CQ h oq q fl first) (hfl : fl ≤ q.length) (hf : 0 ≤ first ∧ first ≤ 1000000000) : ∃ h', Qu_drop h oq = some h' ∧ (∀ z, (z < oq ∨ oq + 4 < z) → h' z = h z) ∧ CQ h' oq (q.drop fl) 0 (first + (fl : Int)) := by
  unfold Qu_drop
  rw [hq.2.1]
  refine c_dropL hfl hq.2.2.2.1 hf (q.length - fl) fl h (by omega) (Nat.le_refl _) hq.1 hq.2.1 hq.2.2.1 (fun k r hk _ => hq.2.2.2.2 k r hk) (fun k r _ hk => by omega)
end ARR
