/-! the class writes what is laid -/
theorem spOut_get {s : Nat} : ∀ (l : List Int) (k j : Nat), (spOut s k l)[j]? = (l[j]?).map (fun v => (s, k + j, v)) := by
  intro l
  induction l with
  | nil => intro k j; rfl
  | cons x l ih =>
    intro k j
    show ((s, k, x) :: spOut s (k + 1) l)[j]? = _
    cases j with
    | zero => rfl
    | succ j =>
      rw [List.getElem?_cons_succ, List.getElem?_cons_succ, ih]
      congr 1
      funext v
      rw [show k + 1 + j = k + (j + 1) by omega]
theorem spPays_snoc {r : spRec} : ∀ (n i : Nat), spPays r (n + 1) i = spPays r n i ++ [spPay r (i + n)] := by
  intro n
  induction n with
  | zero => intro i; rfl
  | succ n ih =>
    intro i
    show spPay r i :: spPays r (n + 1) (i + 1) = (spPay r i :: spPays r n (i + 1)) ++ _
    rw [ih, show i + 1 + n = i + (n + 1) by omega]
    rfl
/-- only the flight's objects are changed -/
def CFf (of : Nat) (h h' : jH) : Prop := (∀ q, (q < of ∨ of + 2 < q) → h' q = h q) ∧ h' of 3 = h of 3
theorem CFf.rf {of : Nat} {h : jH} : CFf of h h := ⟨fun _ _ => rfl, rfl⟩
theorem CFf.tr {of : Nat} {h h1 h2 : jH} (a : CFf of h h1) (b : CFf of h1 h2) : CFf of h h2 := ⟨fun q x => (b.1 q x).trans (a.1 q x), b.2.trans a.2⟩
section CL2
variable {of ns blk len : Nat} {F : spFl}
theorem c_add {h : jH} (hF : CF h of len F) (hn : F.length < 512) {s k : Nat} {a v : Int} (ha : a = ((s * len + k : Nat) : Int)) : ∃ h', Fl_add h of a v = some h' ∧ CFf of h h' ∧ CF h' of len (F ++ [(s, k, v)]) := by
  subst ha
  obtain ⟨f1, f2⟩ := hF
  unfold Fl_add
  have e1 : (jup h (of + 1) F.length ((s * len + k : Nat) : Int)) of 2 = (F.length : Int) := by rw [jup_ne (by omega), f1]
  have e2 : (jup (jup h (of + 1) F.length ((s * len + k : Nat) : Int)) (of + 2) F.length v) of 2 = (F.length : Int) := by rw [jup_ne (by omega), e1]
  rw [f1, if_neg (by omega), if_pos (by omega), if_pos (by omega), if_pos (by omega), Int.toNat_natCast, e1, if_pos (by omega), Int.toNat_natCast, e2, pw (by omega) (by omega)]
  refine ⟨_, rfl, ⟨fun q hq => by rw [jup_ne (by omega), jup_ne (by omega), jup_ne (by omega)], by rw [ju_ne (by decide), jup_ne (by omega), jup_ne (by omega)]⟩, ?_, fun i e he => ?_⟩
  · rw [ju_eq, List.length_append]; simp
  · rw [jup_ne (by omega), jup_ne (by omega), ju_if, jup_ne (show of + 2 ≠ of by omega), ju_if, jup_ne (show of + 2 ≠ of + 1 by omega)]
    rw [List.getElem?_append] at he
    split at he
    · rename_i hi
      rw [if_neg (by omega), if_neg (by omega)]
      exact f2 i e he
    · rename_i hi
      have : i = F.length := by
        by_cases z : i = F.length
        · exact z
        · obtain ⟨t, ht⟩ : ∃ t, i - F.length = t + 1 := ⟨i - F.length - 1, by omega⟩
          rw [ht] at he
          cases he
      subst this
      rw [Nat.sub_self] at he
      have : (s, k, v) = e := Option.some.inj he
      rw [if_pos rfl, if_pos rfl, ← this]
      exact ⟨rfl, rfl⟩
theorem c_ckF {h : jH} {s k : Nat} {l : List Int} (hF : CF h of len (F ++ spOut s k l)) (hn : F.length + l.length ≤ 512) (hl : ∀ v ∈ l, 0 ≤ v ∧ v < 256) : G_checkOf h 7 (of + 2) 512 (F.length : Int) ((F.length + l.length : Nat) : Int) = some (spCk l 7) := by
  have hb : ∀ j v, l[j]? = some v → h (of + 2) (F.length + j) = v := by
    intro j v hj
    have := (hF.2 (F.length + j) (s, k + j, v) (by rw [List.getElem?_append_right (by omega), Nat.add_sub_cancel_left, spOut_get, hj]; rfl)).2
    exact this
  rw [g_chk (b := fun j => h (of + 2) (F.length + j)) l.length F.length 0 7 (by omega) (by omega) (by omega) (by omega) (fun j hj => ?_)]
  · rw [spChk_list l 0 7 (fun j v hj => by rw [Nat.zero_add]; exact hb j v hj)]
  · rw [Nat.zero_add]
    obtain ⟨v, hv⟩ : ∃ v, l[j]? = some v := ⟨l[j], List.getElem?_eq_getElem hj⟩
    refine ⟨rfl, ?_⟩
    show 0 ≤ h (of + 2) (F.length + j) ∧ h (of + 2) (F.length + j) < 256
    rw [hb j v hv]
    exact hl v (List.mem_of_getElem? hv)
theorem spHd4_in {ser num : Int} : ∀ v ∈ spHd4 ser num, 0 ≤ v ∧ v < 256 := by
  intro v hv
  unfold spHd4 at hv
  simp at hv
  omega
theorem c_head5 {h : jH} {o pn s : Nat} {ser num : Int} (hd0 : spDim ns blk len) (hF : CF h (o + 4) len F) (hn : F.length + 5 ≤ 512) (h0 : h pn 0 = (s : Int)) (hs : s < ns) (hl : h (o + 1) 3 = (len : Int)) (h2 : h pn 2 = ser) (hser : jI32 ser) (hnum : jI32 num) (hp : pn < o + 4 ∨ o + 6 < pn) :
    ∃ h', Pe_writeHead h pn o num = some h' ∧ CFf (o + 4) h h' ∧ CF h' (o + 4) len (F ++ spOut s 0 (spHdB ser num)) := by
  have hl2 := hd0.len
  have hadr := hd0.adr (s := s) (k := 0) hs (by omega)
  have hadr4 := hd0.adr (s := s) (k := 4) hs (by omega)
  unfold jI32 at hser hnum
  unfold Pe_writeHead
  have ea : wr (h pn 0 * h (o + 1) 3) = ((s * len + 0 : Nat) : Int) := by
    have e : h pn 0 * h (o + 1) 3 = ((s * len : Nat) : Int) := by rw [h0, hl]; simp
    rw [e, pw (by omega) (by omega)]
    rfl
  rw [ea, h2]
  rw [pj_255, pj_shr8 (by omega) (by omega), pj_255, pj_shr8 (by omega) (by omega), pj_255]
  rw [pw (x := ((s * len + 0 : Nat) : Int) + 1) (by omega) (by omega), pw (x := ((s * len + 0 : Nat) : Int) + 2) (by omega) (by omega), pw (x := ((s * len + 0 : Nat) : Int) + 3) (by omega) (by omega), pw (x := ((s * len + 0 : Nat) : Int) + 4) (by omega) (by omega)]
  obtain ⟨h1, a1, a2, a3⟩ := c_add hF (by omega) (s := s) (k := 0) (v := ser / 256 % 256) rfl
  rw [a1]
  simp only [Option.bind_some]
  rw [show h1 pn 2 = ser by rw [a2.1 pn (by omega), h2], pj_255]
  obtain ⟨h2', b1, b2, b3⟩ := c_add a3 (by rw [List.length_append]; simp; omega) (s := s) (k := 1) (a := ((s * len + 0 : Nat) : Int) + 1) (v := ser % 256) (by omega)
  rw [b1]
  simp only [Option.bind_some]
  obtain ⟨h3, c1, c2, c3⟩ := c_add b3 (by simp; omega) (s := s) (k := 2) (a := ((s * len + 0 : Nat) : Int) + 2) (v := num / 256 % 256) (by omega)
  rw [c1]
  simp only [Option.bind_some]
  obtain ⟨h4, d1, d2, d3⟩ := c_add c3 (by simp; omega) (s := s) (k := 3) (a := ((s * len + 0 : Nat) : Int) + 3) (v := num % 256) (by omega)
  rw [d1]
  simp only [Option.bind_some]
  have eF : F ++ [(s, 0, ser / 256 % 256)] ++ [(s, 1, ser % 256)] ++ [(s, 2, num / 256 % 256)] ++ [(s, 3, num % 256)] = F ++ spOut s 0 (spHd4 ser num) := by
    simp [spOut, spHd4]
  rw [eF] at d3
  have ck := c_ckF d3 (by show F.length + 4 ≤ 512; omega) spHd4_in
  have e2 : h4 (o + 4) 2 = ((F.length + (spHd4 ser num).length : Nat) : Int) := by rw [d3.1, List.length_append, spOut_len]
  rw [hF.1, e2, ck]
  simp only [Option.bind_some]
  obtain ⟨h5, e1, e3, e4⟩ := c_add d3 (by rw [List.length_append, spOut_len]; show F.length + 4 < 512; omega) (s := s) (k := 4) (a := ((s * len + 0 : Nat) : Int) + 4) (v := spCk (spHd4 ser num) 7) (by omega)
  rw [e1]
  refine ⟨h5, rfl, a2.tr (b2.tr (c2.tr (d2.tr e3))), ?_⟩
  have eF2 : F ++ spOut s 0 (spHd4 ser num) ++ [(s, 4, spCk (spHd4 ser num) 7)] = F ++ spOut s 0 (spHdB ser num) := by
    unfold spHdB
    rw [spOut_app, List.append_assoc]
    rfl
  rw [eF2] at e4
  exact e4
/-- where the record's key and value lie -/
def CQr (h : jH) (oq i : Nat) (r : spRec) : Prop := i < 32 ∧ h (oq + 1) i = r.1 ∧ h (oq + 2) i = r.2.1 ∧ h (oq + 3) i = r.2.2.1
theorem g_pay {r : spRec} (hr : spRok r) {i : Nat} (hi : i < 200) : G_payloadOctet r.1 r.2.1 (i : Int) = some (spPay r i) := by
  unfold spRok at hr
  unfold G_payloadOctet spPay
  match i with
  | 0 => rfl
  | 1 => rw [if_neg (by decide), if_pos (by decide), pj_shr8 (by omega) (by omega)]; rfl
  | 2 => rw [if_neg (by decide), if_neg (by decide), if_pos (by decide), pj_255]; rfl
  | i + 3 =>
    rw [if_neg (by omega), if_neg (by omega), if_neg (by omega), pw (x := ((i + 3 : Nat) : Int) - 3) (by omega) (by omega), pw (x := 7 * (((i + 3 : Nat) : Int) - 3)) (by omega) (by omega), pw (by omega) (by omega), pj_255, if_neg (by omega), if_neg (by omega), if_neg (by omega)]
theorem c_frL {r : spRec} {o s k fr n : Nat} (hr : spRok r) (hd0 : spDim ns blk len) (hs : s < ns) {w : Nat} (hk : k + 4 + n ≤ len) (hfr : fr + n ≤ 100) {l0 : List Int} (hl0 : l0.length = 4) : ∀ (m i : Nat) (h : jH) (c : Int), i + m = n → CF h (o + 4) len (F ++ spOut s k (l0 ++ spPays r i fr)) → CQr h (o + 7) w r → F.length + 4 + n ≤ 512 →
    ∃ h', Pe_writeFrame_L88 h (w : Int) (fr : Int) (n : Int) (o + 4) (o + 7) ((s * len + k : Nat) : Int) c (i : Int) = (Option.bind (G_checkOf h' 7 (o + 4 + 2) 512 (wr (c + 1)) (h' (o + 4) 2)) (fun b10 => Option.bind (G_put h' (o + 4 + 2) 512 c b10) (fun b11 => some b11))) ∧ CFf (o + 4) h h' ∧ CF h' (o + 4) len (F ++ spOut s k (l0 ++ spPays r n fr)) := by
  have hl2 := hd0.len
  unfold Pe_writeFrame_L88
  intro m
  induction m with
  | zero =>
    intro i h c hi hF hq hn
    obtain rfl : i = n := by omega
    refine ⟨h, jloop_x ?_, CFf.rf, hF⟩
    show Pe_writeFrame_B88 h _ _ _ _ _ _ c _ = _
    unfold Pe_writeFrame_B88
    rw [if_neg (by omega)]
  | succ m ih =>
    intro i h c hi hF hq hn
    have hadr := hd0.adr (s := s) (k := k + 4 + i) hs (by omega)
    have hlen : (F ++ spOut s k (l0 ++ spPays r i fr)).length = F.length + 4 + i := by
      rw [List.length_append, spOut_len, List.length_append, spPays_len, hl0]; omega
    obtain ⟨h1, a1, a2, a3⟩ := c_add hF (by omega) (s := s) (k := k + 4 + i) (v := spPay r (fr + i)) rfl
    have eF : F ++ spOut s k (l0 ++ spPays r i fr) ++ [(s, k + 4 + i, spPay r (fr + i))] = F ++ spOut s k (l0 ++ spPays r (i + 1) fr) := by
      rw [spPays_snoc, ← List.append_assoc l0, spOut_app (l0 ++ spPays r i fr) k [spPay r (fr + i)], List.append_assoc]
      congr 2
      rw [List.length_append, spPays_len, hl0]
      show _ = [(s, k + (4 + i), spPay r (fr + i))]
      rw [show k + (4 + i) = k + 4 + i by omega]
    rw [eF] at a3
    have hq1 : CQr h1 (o + 7) w r := by
      unfold CQr
      rw [a2.1 _ (by omega), a2.1 _ (by omega), a2.1 _ (by omega)]
      exact hq
    obtain ⟨h', e1, e2, e3⟩ := ih (i + 1) h1 c (by omega) a3 hq1 hn
    refine ⟨h', (jloop_l (s' := (((i + 1 : Nat) : Int), h1)) ?_).trans e1, a2.tr e2, e3⟩
    show Pe_writeFrame_B88 h _ _ _ _ _ _ c _ = _
    unfold Pe_writeFrame_B88
    rw [if_pos (by omega), g_cellN hq.1, g_cellN hq.1, hq.2.1, hq.2.2.1]
    simp only [Option.bind_some]
    rw [pw (x := (fr : Int) + (i : Int)) (by omega) (by omega), show (fr : Int) + (i : Int) = ((fr + i : Nat) : Int) by omega, g_pay hr (by omega)]
    simp only [Option.bind_some]
    rw [pw (x := ((s * len + k : Nat) : Int) + 4) (by omega) (by omega), pw (x := ((s * len + k : Nat) : Int) + 4 + (i : Int)) (by omega) (by omega), show ((s * len + k : Nat) : Int) + 4 + (i : Int) = ((s * len + (k + 4 + i) : Nat) : Int) by omega, a1]
    simp only [Option.bind_some]
    rw [pw (by omega) (by omega)]
    rfl
theorem c_frame1 {h : jH} {r : spRec} {o pn s k fr n w : Nat} {ser : Int} {kind : Int} (hr : spRok r) (hd0 : spDim ns blk len) (hs : s < ns) (hk : k + 4 + n ≤ len) (hfr : fr + n ≤ 100) (hF : CF h (o + 4) len F) (hn : F.length + 4 + n ≤ 512) (h0 : h pn 0 = (s : Int)) (h1 : h pn 1 = (k : Int)) (h2 : h pn 2 = ser) (hl : h (o + 1) 3 = (len : Int)) (hq : CQr h (o + 7) w r) (hp : pn < o + 4 ∨ o + 6 < pn) (hkd : kind = spKind (spSz r) fr n) (hn1 : 1 ≤ n) :
    ∃ h', Pe_writeFrame h pn o (w : Int) (fr : Int) (n : Int) kind = some h' ∧ CFf (o + 4) h h' ∧ CF h' (o + 4) len (F ++ spOut s k (spCk (spFrB r fr n (ser % 256)) 7 :: spFrB r fr n (ser % 256))) := by
  have hl2 := hd0.len
  have hadr := hd0.adr (s := s) (k := k + 3) hs (by omega)
  unfold Pe_writeFrame
  have ea : wr (wr (h pn 0 * h (o + 1) 3) + h pn 1) = ((s * len + k : Nat) : Int) := by
    have e : h pn 0 * h (o + 1) 3 = ((s * len : Nat) : Int) := by rw [h0, hl]; simp
    rw [e, pw (x := ((s * len : Nat) : Int)) (by omega) (by omega), h1, pw (by omega) (by omega)]
    omega
  rw [ea]
  rw [pw (x := ((s * len + k : Nat) : Int) + 1) (by omega) (by omega), pw (x := ((s * len + k : Nat) : Int) + 2) (by omega) (by omega), pw (x := ((s * len + k : Nat) : Int) + 3) (by omega) (by omega)]
  obtain ⟨g1, a1, a2, a3⟩ := c_add hF (by omega) (s := s) (k := k) (v := 0) rfl
  rw [a1]
  simp only [Option.bind_some]
  obtain ⟨g2, b1, b2, b3⟩ := c_add a3 (by simp; omega) (s := s) (k := k + 1) (a := ((s * len + k : Nat) : Int) + 1) (v := kind) (by omega)
  rw [b1]
  simp only [Option.bind_some]
  obtain ⟨g3, c1, c2, c3⟩ := c_add b3 (by simp; omega) (s := s) (k := k + 2) (a := ((s * len + k : Nat) : Int) + 2) (v := (n : Int)) (by omega)
  rw [c1]
  simp only [Option.bind_some]
  rw [show g3 pn 2 = ser by rw [c2.1 pn (by omega), b2.1 pn (by omega), a2.1 pn (by omega), h2], pj_255]
  obtain ⟨g4, d1, d2, d3⟩ := c_add c3 (by simp; omega) (s := s) (k := k + 3) (a := ((s * len + k : Nat) : Int) + 3) (v := ser % 256) (by omega)
  rw [d1]
  simp only [Option.bind_some]
  have eF : F ++ [(s, k, 0)] ++ [(s, k + 1, kind)] ++ [(s, k + 2, (n : Int))] ++ [(s, k + 3, ser % 256)] = F ++ spOut s k ([0, kind, (n : Int), ser % 256] ++ spPays r 0 fr) := by
    simp [spOut, spPays]
  rw [eF] at d3
  have f4 : CFf (o + 4) h g4 := a2.tr (b2.tr (c2.tr d2))
  have hq4 : CQr g4 (o + 7) w r := by
    unfold CQr
    rw [f4.1 _ (by omega), f4.1 _ (by omega), f4.1 _ (by omega)]
    exact hq
  obtain ⟨g5, e1, e2, e3⟩ := c_frL (F := F) (w := w) hr hd0 hs hk hfr (l0 := [0, kind, (n : Int), ser % 256]) rfl n 0 g4 (h (o + 4) 2) (by omega) d3 hq4 hn
  rw [show (0 : Int) = ((0 : Nat) : Int) from rfl, e1, hF.1]
  have eF5 : F ++ spOut s k ([0, kind, (n : Int), ser % 256] ++ spPays r n fr) = (F ++ [(s, k, 0)]) ++ spOut s (k + 1) (spFrB r fr n (ser % 256)) := by
    rw [hkd]
    show F ++ ((s, k, 0) :: spOut s (k + 1) (spFrB r fr n (ser % 256))) = _
    simp
  rw [eF5] at e3
  have ck := c_ckF e3 (by simp [spFrB_len]; omega) (spFrB_in hr (by omega) (by omega) (by omega))
  have e2' : g5 (o + 4) 2 = (((F ++ [(s, k, 0)]).length + (spFrB r fr n (ser % 256)).length : Nat) : Int) := by rw [e3.1, List.length_append, spOut_len]
  rw [pw (x := (F.length : Int) + 1) (by omega) (by omega), e2', show (F.length : Int) + 1 = (((F ++ [(s, k, (0 : Int))]).length : Nat) : Int) by simp, ck]
  simp only [Option.bind_some]
  rw [g_putN (show F.length < 512 by omega)]
  simp only [Option.bind_some]
  refine ⟨_, rfl, f4.tr (e2.tr ⟨fun q hq => jup_ne (by omega), by rw [jup_ne (by omega)]⟩), ?_, fun i e he => ?_⟩
  · rw [jup_ne (by omega), e3.1]
    simp [spOut_len, spOut]
  · rw [jup_ne (by omega), ju_if]
    by_cases hi : i = F.length
    · subst hi
      rw [if_pos rfl]
      rw [List.getElem?_append_right (by omega), Nat.sub_self] at he
      have he2 : (s, k, spCk (spFrB r fr n (ser % 256)) 7) = e := Option.some.inj he
      have := (e3.2 F.length (s, k, 0) (by rw [List.append_assoc, List.getElem?_append_right (by omega), Nat.sub_self]; rfl)).1
      rw [← he2]
      exact ⟨this, rfl⟩
    · rw [if_neg hi]
      refine e3.2 i e ?_
      by_cases hi2 : i < F.length
      · rw [List.getElem?_append_left hi2] at he
        rw [List.append_assoc, List.getElem?_append_left hi2]
        exact he
      · obtain ⟨t, ht⟩ : ∃ t, i - F.length = t + 1 := ⟨i - F.length - 1, by omega⟩
        rw [List.getElem?_append_right (by omega), ht] at he
        rw [List.append_assoc, List.getElem?_append_right (by omega), ht]
        exact he
end CL2
