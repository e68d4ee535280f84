/-! the class's laying, whole -/
theorem spDrop_take {l : List spRec} {i m : Nat} {r : spRec} (h : l[i]? = some r) : (l.drop i).take (m + 1) = r :: (l.drop (i + 1)).take m := by
  obtain ⟨hi, e⟩ := List.getElem?_eq_some_iff.mp h
  rw [List.drop_eq_getElem_cons hi, List.take_succ_cons, e]
section CL4
variable {ns blk len : Nat} {D C : Nat → Nat → Int}
/-- what the class's laying changes: the pen, the flight, the tops -/
def CLf (o pn : Nat) (h h' : jH) : Prop := (∀ x, x ≠ pn → (x < o + 4 ∨ o + 6 < x) → x ≠ o + 20 → h' x = h x) ∧ h' (o + 4) 3 = h (o + 4) 3
theorem CLf.rf {o pn : Nat} {h : jH} : CLf o pn h h := ⟨fun _ _ _ _ => rfl, rfl⟩
theorem CLf.tr {o pn : Nat} {h h1 h2 : jH} (a : CLf o pn h h1) (b : CLf o pn h1 h2) : CLf o pn h h2 := ⟨fun x y z w => (b.1 x y z w).trans (a.1 x y z w), b.2.trans a.2⟩
def CX (h : jH) (o pn len : Nat) (x : spL) : Prop := CP h pn x.1 ∧ CF h (o + 4) len x.2.1 ∧ ∀ i, i < 4 → h (o + 20) i = x.2.2 i
theorem spSz_le {r : spRec} (h : spRok r) : 3 ≤ spSz r ∧ spSz r ≤ 43 := by unfold spRok at h; unfold spSz; omega
theorem c_pay {h : jH} {oq i : Nat} {r : spRec} (hr : spRok r) (hq : CQr h oq i r) : Qu_payloadAt h oq (i : Int) = some (spSz r : Int) := by
  unfold Qu_payloadAt
  rw [g_cellN hq.1, hq.2.2.2]
  unfold spRok at hr
  unfold spSz
  simp only [Option.bind_some]
  rw [pw (by omega) (by omega)]
  congr 1
  omega
/-- one record more is laid -/
theorem c_one {h : jH} {o pn st : Nat} {tp : Nat → Int} {snap first : Int} {r : spRec} {i : Nat} {nn : Int} {x y : spL} (hd0 : spDim ns blk len) (hp : pn < o ∨ o + 20 < pn) (hr : spRok r) (hc : CD h (o + 1) ns blk len D C) (hx : CX h o pn len x) (hq : CQr h (o + 7) i r) (h7 : h o 7 = snap) (h4 : h (o + 7) 4 = first) (hf : 0 ≤ first ∧ first ≤ 2000000000) (hI : spLI ns len tp snap st x) (hn : (i : Int) < nn) (ho : spOne ns blk len tp snap r (first + i) x = some y) :
    ∃ h', Pe_lay_B7 h pn o nn (i : Int) = some (.inl (((i + 1 : Nat) : Int), h')) ∧ CLf o pn h h' ∧ CX h' o pn len y := by
  have hl := hd0.len
  have hsz := spSz_le hr
  have hLI := spOne_LI hd0 ho hI
  have hlen := spLI_len hd0 hLI.1
  obtain ⟨hxp, hxf, hxt⟩ := hx
  obtain ⟨x1, x2, x3, x4, x5, x6, x7, x8, x9⟩ := hI
  have hi := hq.1
  obtain ⟨h1, g1, g2, g3, g4⟩ := c_goes (P := spSz r) (tp := tp) (snap := snap) hd0 hc hxp x2 (by omega) (fun j hj hv => by rw [hxt j hj]; exact x4 j hj hv) h7
  have hc1 : CD h1 (o + 1) ns blk len D C := hc.fr (g2 _ (by omega)) (g2 _ (by omega)) (g2 _ (by omega))
  have hq1 : CQr h1 (o + 7) i r := by
    unfold CQr
    rw [g2 _ (by omega), g2 _ (by omega), g2 _ (by omega)]
    exact hq
  have hF1 : CF h1 (o + 4) len x.2.1 := by
    unfold CF
    rw [g2 _ (by omega), g2 _ (by omega), g2 _ (by omega)]
    exact hxf
  -- the record's bytes, and where it lies
  have tail : ∀ (g : jH) (s k e : Nat) (ser : Int) (F : spFl), CD g (o + 1) ns blk len D C → CQr g (o + 7) i r → CF g (o + 4) len F → s < ns → k ≤ len → spBeh blk len 6 k (spSz r) = some e → F.length + (spLayB blk r (ser % 256) 6 k 0).length ≤ 512 → g pn 0 = (s : Int) → g pn 1 = (k : Int) → g pn 2 = ser → g (o + 7) 4 = first →
      ∃ h', Pe_lay_p55 g pn o nn (i : Int) = some (.inl (((i + 1 : Nat) : Int), h')) ∧ CLf o pn g h' ∧ (∀ j, j ≠ 1 → h' pn j = g pn j) ∧ h' pn 1 = (e : Int) ∧ CF h' (o + 4) len (F ++ spOut s k (spLayB blk r (ser % 256) 6 k 0)) ∧ ∀ j, j < 4 → h' (o + 20) j = pu (g (o + 20)) s (first + i) j := by
    intro g s k e ser F gc gq gF hs hk he hn2 g0 g1 g2 g4
    have hs4 : s < 4 := by have := hd0.2.1; omega
    obtain ⟨g', w1, w2, w3, w4, w5, w6⟩ := c_wrL (ser := ser) (pn := pn) hr hd0 hs hp 6 k 0 0 e g F rfl (by omega) hk he gc gF hn2 g0 g1 g2 gq
    unfold Pe_lay_p55 Pe_writeRecord
    rw [c_pay hr gq]
    simp only [Option.bind_some]
    rw [show (0 : Int) = ((0 : Nat) : Int) from rfl, w1]
    simp only [Option.bind_some]
    rw [w4 0 (by decide), g0, w2 (o + 7) (by omega) (by omega), g4, g_putN hs4]
    simp only [Option.bind_some]
    rw [pw (by omega) (by omega), pw (by omega) (by omega)]
    refine ⟨_, rfl, ⟨fun x y1 y2 y3 => by rw [jup_ne y3, w2 x y1 y2], by rw [jup_ne (by omega), w3]⟩, fun j hj => by rw [jup_ne (by omega), w4 j hj], by rw [jup_ne (by omega), w5], ?_, fun j hj => ?_⟩
    · unfold CF
      rw [jup_ne (by omega), jup_ne (by omega), jup_ne (by omega)]
      exact w6
    · rw [ju_if, w2 (o + 20) (by omega) (by omega)]
      rfl
  unfold spOne at ho
  split at ho
  · cases ho
  · rename_i q' hg
    obtain ⟨eq, e, he⟩ := spGoes_same hg
    have hy := Option.some.inj ho
    have cp1 := g3 _ _ hg
    rw [eq] at cp1 hy hg
    have hB := spLayB_len (r := r) (sl := x.1.2.2.1 % 256) (show 4 < blk by have := hd0.2.2.1; omega) hl.2.2.2 6 x.1.2.1 0 e (by omega) x2 he
    have hn2 : x.2.1.length + (spLayB blk r (x.1.2.2.1 % 256) 6 x.1.2.1 0).length ≤ 512 := by
      rw [← hy, List.length_append, spOut_len] at hlen
      exact hlen
    obtain ⟨h', t1, t2, t3, t4, t5, t6⟩ := tail h1 x.1.1 x.1.2.1 e x.1.2.2.1 x.2.1 hc1 hq1 hF1 x1 x2 he hn2 cp1.1 cp1.2.1 cp1.2.2.1 (by rw [g2 _ (by omega), h4])
    refine ⟨h', ?_, CLf.tr (h1 := h1) ⟨fun z z1 _ _ => g2 z z1, by rw [g2 _ (by omega)]⟩ t2, ?_⟩
    · unfold Pe_lay_B7
      rw [if_pos hn, c_pay hr hq]
      simp only [Option.bind_some]
      rw [g1]
      simp only [Option.bind_some]
      rw [if_pos (by rw [cp1.1, hxp.1])]
      exact t1
    · rw [← hy]
      refine ⟨⟨by rw [t3 0 (by decide)]; exact cp1.1, by rw [t4]; dsimp only; omega, by rw [t3 2 (by decide)]; exact cp1.2.2.1, by rw [t3 3 (by decide)]; exact cp1.2.2.2.1, by rw [t3 4 (by decide)]; exact cp1.2.2.2.2⟩, t5, fun j hj => ?_⟩
      rw [t6 j hj]
      show pu (h1 (o + 20)) x.1.1 (first + i) j = pu x.2.2 x.1.1 (first + i) j
      unfold pu
      split
      · rfl
      · rw [g2 _ (by omega)]; exact hxt j hj
  · rename_i q' hg
    obtain ⟨t, u1, u2, u3, eq, e, he⟩ := spGoes_new hg
    have hy := Option.some.inj ho
    have cp1 := g3 _ _ hg
    rw [eq] at cp1 hy
    dsimp only at hy
    obtain ⟨sr, hsr⟩ : ∃ sr, sr = wr (x.1.2.2.2.1 + 1) := ⟨_, rfl⟩
    rw [← hsr] at cp1 hy
    have hsr32 : jI32 sr := by rw [hsr]; exact wr_in _
    have hB := spLayB_len (r := r) (sl := sr % 256) (show 4 < blk by have := hd0.2.2.1; omega) hl.2.2.2 6 5 0 e (by omega) (by omega) he
    have hn2 : x.2.1.length + 5 + (spLayB blk r (sr % 256) 6 5 0).length ≤ 512 := by
      rw [← hy] at hlen
      dsimp only at hlen
      rw [List.length_append, spOut_len, List.length_append, spHdB_len] at hlen
      omega
    obtain ⟨h2, a1, a2, a3⟩ := c_head5 (h := h1) (pn := pn) (s := t) (ser := sr) (num := first + i) hd0 hF1 (by omega) cp1.1 u1 hc1.2.1 cp1.2.2.1 hsr32 (by unfold jI32; omega) (by omega)
    have hc2 : CD h2 (o + 1) ns blk len D C := hc1.fr (a2.1 _ (by omega)) (a2.1 _ (by omega)) (a2.1 _ (by omega))
    have hq2 : CQr h2 (o + 7) i r := by
      unfold CQr
      rw [a2.1 _ (by omega), a2.1 _ (by omega), a2.1 _ (by omega)]
      exact hq1
    have hpn : h2 pn = h1 pn := a2.1 pn (by omega)
    obtain ⟨h', t1, t2, t3, t4, t5, t6⟩ := tail h2 t 5 e sr (x.2.1 ++ spOut t 0 (spHdB sr (first + i))) hc2 hq2 a3 u1 (by omega) he (by rw [List.length_append, spOut_len, spHdB_len]; omega) (by rw [hpn]; exact cp1.1) (by rw [hpn]; exact cp1.2.1) (by rw [hpn]; exact cp1.2.2.1) (by rw [a2.1 _ (by omega), g2 _ (by omega), h4])
    refine ⟨h', ?_, CLf.tr (h1 := h1) ⟨fun z z1 _ _ => g2 z z1, by rw [g2 _ (by omega)]⟩ (CLf.tr (h1 := h2) ⟨fun z _ z2 _ => a2.1 z (by omega), a2.2⟩ t2), ?_⟩
    · unfold Pe_lay_B7
      rw [if_pos hn, c_pay hr hq]
      simp only [Option.bind_some]
      rw [g1]
      simp only [Option.bind_some]
      rw [if_neg (by rw [cp1.1, hxp.1]; dsimp only; intro hq; have : t = x.1.1 := by omega
                     rw [this, x3] at u2; cases u2)]
      rw [g2 (o + 7) (by omega), h4, pw (by omega) (by omega), a1]
      exact t1
    · rw [← hy]
      refine ⟨⟨by rw [t3 0 (by decide), hpn]; exact cp1.1, by rw [t4]; dsimp only; omega, by rw [t3 2 (by decide), hpn]; exact cp1.2.2.1, by rw [t3 3 (by decide), hpn]; exact cp1.2.2.2.1, by rw [t3 4 (by decide), hpn]; exact cp1.2.2.2.2⟩, ?_, fun j hj => ?_⟩
      · rw [List.append_assoc] at t5
        dsimp only
        rw [spOut_app, spHdB_len]
        exact t5
      · rw [t6 j hj]
        show pu (h2 (o + 20)) t (first + i) j = pu x.2.2 t (first + i) j
        unfold pu
        split
        · rfl
        · rw [a2.1 _ (by omega), g2 _ (by omega)]; exact hxt j hj
theorem CX.of {h h' : jH} {o pn len : Nat} {x : spL} (hx : CX h o pn len x) (e : ∀ z, z = pn ∨ (o + 4 ≤ z ∧ z ≤ o + 6) ∨ z = o + 20 → h' z = h z) : CX h' o pn len x := by
  unfold CX CP CF
  rw [e pn (by omega), e (o + 4) (by omega), e (o + 4 + 1) (by omega), e (o + 4 + 2) (by omega), e (o + 20) (by omega)]
  exact hx
theorem CQr.of {h : jH} {oq i : Nat} {q : List spRec} {fl : Nat} {first : Int} {r : spRec} (hq : CQ h oq q fl first) (hi : q[i]? = some r) : CQr h oq i r := by
  obtain ⟨hlt, -⟩ := List.getElem?_eq_some_iff.mp hi
  have := hq.2.2.2.2 i r hi
  exact ⟨by have := hq.2.2.2.1; omega, this.1, this.2.1, this.2.2.1⟩
theorem CQ.of {h h' : jH} {oq : Nat} {q : List spRec} {fl : Nat} {first : Int} (hq : CQ h oq q fl first) (e : ∀ z, oq ≤ z → z ≤ oq + 4 → h' z = h z) : CQ h' oq q fl first := by
  unfold CQ
  rw [e oq (by omega) (by omega), e (oq + 1) (by omega) (by omega), e (oq + 2) (by omega) (by omega), e (oq + 3) (by omega) (by omega), e (oq + 4) (by omega) (by omega)]
  exact hq
/-- all of a group's records are laid -/
theorem c_layL {o pn st : Nat} {tp : Nat → Int} {snap first : Int} {q : List spRec} {nn : Nat} (hd0 : spDim ns blk len) (hp : pn < o ∨ o + 20 < pn) (hrk : ∀ r ∈ q, spRok r) (hf : 0 ≤ first ∧ first ≤ 2000000000) (hnq : nn ≤ q.length) : ∀ (m i : Nat) (h : jH) (x y : spL), i + m = nn → CD h (o + 1) ns blk len D C → CX h o pn len x → CQ h (o + 7) q 0 first → h o 7 = snap → spLI ns len tp snap st x → spAll ns blk len tp snap ((q.drop i).take m) (first + i) x = some y →
    ∃ h1, Pe_lay_L7 h pn o (nn : Int) (i : Int) = (Option.bind (St_movePlace (jup h1 (o + 7) 5 (nn : Int)) o ((jup h1 (o + 7) 5 (nn : Int)) pn 0) ((jup h1 (o + 7) 5 (nn : Int)) pn 1) ((jup h1 (o + 7) 5 (nn : Int)) pn 2) ((jup h1 (o + 7) 5 (nn : Int)) pn 3)) (fun b7 => some b7)) ∧ CLf o pn h h1 ∧ CX h1 o pn len y ∧ spLI ns len tp snap st y := by
  unfold Pe_lay_L7
  intro m
  induction m with
  | zero =>
    intro i h x y hi hc hx hq h7 hI ha
    have : x = y := by rw [List.take_zero] at ha; exact Option.some.inj ha
    rw [← this]
    refine ⟨h, jloop_x ?_, CLf.rf, hx, hI⟩
    show Pe_lay_B7 h pn o (nn : Int) (i : Int) = _
    unfold Pe_lay_B7
    rw [if_neg (by omega)]
  | succ m ih =>
    intro i h x y hi hc hx hq h7 hI ha
    obtain ⟨r, hr⟩ : ∃ r, q[i]? = some r := ⟨q[i], List.getElem?_eq_getElem (by omega)⟩
    rw [spDrop_take hr] at ha
    unfold spAll at ha
    split at ha
    · cases ha
    · rename_i z hz
      obtain ⟨h1, e1, e2, e3⟩ := c_one (pn := pn) (nn := (nn : Int)) hd0 hp (hrk r (List.mem_of_getElem? hr)) hc hx (CQr.of hq hr) h7 hq.1 hf hI (by omega) hz
      have hc1 : CD h1 (o + 1) ns blk len D C := hc.fr (e2.1 _ (by omega) (by omega) (by omega)) (e2.1 _ (by omega) (by omega) (by omega)) (e2.1 _ (by omega) (by omega) (by omega))
      have hq1 : CQ h1 (o + 7) q 0 first := hq.of (fun z _ _ => e2.1 z (by omega) (by omega) (by omega))
      obtain ⟨h2, w1, w2, w3, w4⟩ := ih (i + 1) h1 z y (by omega) hc1 e3 hq1 (by rw [e2.1 o (by omega) (by omega) (by omega)]; exact h7) (spOne_LI hd0 hz hI).1 (by rw [show first + ((i + 1 : Nat) : Int) = first + i + 1 by omega]; exact ha)
      exact ⟨h2, (jloop_l e1).trans w1, e2.tr w2, w3, w4⟩
theorem c_start {h : jH} {o pn : Nat} {s k : Nat} {ser gr : Int} (hs : s < 4) (hp : pn < o ∨ o + 20 < pn) (h10 : h o 10 = (s : Int)) (h11 : h o 11 = (k : Int)) (h12 : h o 12 = ser) (h13 : h o 13 = gr) : ∃ h', Pe_start h pn o = some h' ∧ (∀ x, x ≠ pn → h' x = h x) ∧ CP h' pn (s, k, ser, gr, fun i => decide (i = s)) := by
  have b := jbit_one s hs
  unfold Pe_start
  have ho : pn ≠ o := by omega
  refine ⟨_, rfl, fun x hx => by rw [jup_ne hx, jup_ne hx, jup_ne hx, jup_ne hx, jup_ne hx], ?_, ?_, ?_, ?_, 1 <<< s, b.2.1, ?_, fun i hi => b.2.2 i hi⟩
  · rw [ju_ne (by decide), ju_ne (by decide), ju_ne (by decide), ju_ne (by decide), ju_eq, h10]
  · rw [ju_ne (by decide), ju_ne (by decide), ju_ne (by decide), ju_eq, jup_ne (show o ≠ pn by omega), h11]
  · rw [ju_ne (by decide), ju_ne (by decide), ju_eq, jup_ne (show o ≠ pn by omega), jup_ne (show o ≠ pn by omega), h12]
  · rw [ju_ne (by decide), ju_eq, jup_ne (show o ≠ pn by omega), jup_ne (show o ≠ pn by omega), jup_ne (show o ≠ pn by omega), h13]
  · rw [ju_eq, ju_ne (by decide), ju_ne (by decide), ju_ne (by decide), ju_eq, h10]
    exact b.1
/-- whether a group has room: only the pen is moved -/
theorem c_roomL {o pn st : Nat} {tp : Nat → Int} {snap first : Int} {q : List spRec} {nn : Nat} (hd0 : spDim ns blk len) (hp : pn < o ∨ o + 20 < pn) (hrk : ∀ r ∈ q, spRok r) (hnq : nn ≤ q.length) (hq32 : q.length ≤ 32) : ∀ (m i : Nat) (h : jH) (x : spL), i + m = nn → CD h (o + 1) ns blk len D C → CP h pn x.1 → CQ h (o + 7) q 0 first → h o 7 = snap → (∀ j, j < 4 → h (o + 20) j = tp j) → spLI ns len tp snap st x →
    ∃ h1, Pe_hasRoom_L7 h pn o (nn : Int) (i : Int) = some (if spAll ns blk len tp snap ((q.drop i).take m) (first + i) x = none then 0 else 1, h1) ∧ ∀ z, z ≠ pn → h1 z = h z := by
  have hl := hd0.len
  unfold Pe_hasRoom_L7
  intro m
  induction m with
  | zero =>
    intro i h x hi hc hx hq h7 htp hI
    refine ⟨h, jloop_r ?_, fun _ _ => rfl⟩
    show Pe_hasRoom_B7 h pn o (nn : Int) (i : Int) = _
    unfold Pe_hasRoom_B7
    rw [if_neg (by omega), List.take_zero]
    rfl
  | succ m ih =>
    intro i h x hi hc hx hq h7 htp hI
    obtain ⟨r, hr⟩ : ∃ r, q[i]? = some r := ⟨q[i], List.getElem?_eq_getElem (by omega)⟩
    have hrok := hrk r (List.mem_of_getElem? hr)
    have hsz := spSz_le hrok
    rw [spDrop_take hr]
    obtain ⟨x1, x2, x3, x4, x5, x6, x7, x8, x9⟩ := hI
    obtain ⟨h1, g1, g2, g3, g4⟩ := c_goes (P := spSz r) (tp := tp) (snap := snap) hd0 hc hx x2 (by omega) (fun j hj _ => htp j hj) h7
    have hpay : Qu_payloadAt h (o + 7) (wr (h (o + 7) 5 + (i : Int))) = some (spSz r : Int) := by
      rw [hq.2.1, pw (by omega) (by omega), show ((0 : Nat) : Int) + (i : Int) = (i : Int) by omega]
      exact c_pay hrok (CQr.of hq hr)
    unfold spAll
    cases hg : spGoes ns blk len tp snap (spSz r) x.1 with
    | none =>
      have ho : spOne ns blk len tp snap r (first + i) x = none := by unfold spOne; rw [hg]
      rw [ho]
      rw [hg, if_pos rfl] at g1
      refine ⟨h1, jloop_r ?_, g2⟩
      show Pe_hasRoom_B7 h pn o (nn : Int) (i : Int) = _
      unfold Pe_hasRoom_B7
      rw [if_pos (by omega), hpay]
      simp only [Option.bind_some]
      rw [g1]
      rfl
    | some yo =>
      obtain ⟨y, op⟩ := yo
      have cp1 := g3 y op hg
      rw [hg, if_neg (by simp)] at g1
      -- where the pen is behind the record
      obtain ⟨e, z, he, hk, ho, hz1⟩ : ∃ (e : Nat) (z : spL), spBeh blk len 6 y.2.1 (spSz r) = some e ∧ y.2.1 ≤ len ∧ spOne ns blk len tp snap r (first + i) x = some z ∧ z.1 = (y.1, e, y.2.2) := by
        cases op with
        | false =>
          obtain ⟨eq, e, he⟩ := spGoes_same hg
          have hB := spLayB_len (r := r) (sl := y.2.2.1 % 256) (show 4 < blk by have := hd0.2.2.1; omega) hl.2.2.2 6 y.2.1 0 e (by omega) (by rw [eq]; exact x2) (by rw [eq]; exact he)
          refine ⟨e, _, by rw [eq]; exact he, by rw [eq]; exact x2, by unfold spOne; rw [hg], ?_⟩
          dsimp only
          rw [hB.1]
        | true =>
          obtain ⟨t, u1, u2, u3, eq, e, he⟩ := spGoes_new hg
          have hB := spLayB_len (r := r) (sl := y.2.2.1 % 256) (show 4 < blk by have := hd0.2.2.1; omega) hl.2.2.2 6 y.2.1 0 e (by omega) (by rw [eq]; dsimp only; omega) (by rw [eq]; exact he)
          refine ⟨e, _, by rw [eq]; exact he, by rw [eq]; dsimp only; omega, by unfold spOne; rw [hg], ?_⟩
          dsimp only
          rw [hB.1]
      rw [ho]
      have hc1 : CD h1 (o + 1) ns blk len D C := hc.fr (g2 _ (by omega)) (g2 _ (by omega)) (g2 _ (by omega))
      have hbeh := c_beh (k := y.2.1) (left := spSz r) hd0 hc1 hk (by omega)
      rw [he] at hbeh
      have hcp2 : CP (jup h1 pn 1 (e : Int)) pn z.1 := by
        rw [hz1]
        obtain ⟨c1, c2, c3, c4, c5⟩ := cp1
        exact ⟨by rw [ju_ne (by decide)]; exact c1, ju_eq, by rw [ju_ne (by decide)]; exact c3, by rw [ju_ne (by decide)]; exact c4, by rw [ju_ne (by decide)]; exact c5⟩
      have ho2 : ∀ z, z ≠ pn → (jup h1 pn 1 (e : Int)) z = h z := fun z hz => by rw [jup_ne hz, g2 z hz]
      obtain ⟨h2, w1, w2⟩ := ih (i + 1) (jup h1 pn 1 (e : Int)) z (by omega) (hc.fr (ho2 _ (by omega)) (ho2 _ (by omega)) (ho2 _ (by omega))) hcp2 (hq.of (fun z _ _ => ho2 z (by omega))) (by rw [ho2 o (by omega)]; exact h7) (fun j hj => by rw [ho2 _ (by omega)]; exact htp j hj) (spOne_LI hd0 ho ⟨x1, x2, x3, x4, x5, x6, x7, x8, x9⟩).1
      rw [show first + ((i + 1 : Nat) : Int) = first + i + 1 by omega] at w1
      refine ⟨h2, (jloop_l (s' := (((i + 1 : Nat) : Int), jup h1 pn 1 (e : Int))) ?_).trans w1, fun z hz => (w2 z hz).trans (ho2 z hz)⟩
      show Pe_hasRoom_B7 h pn o (nn : Int) (i : Int) = _
      unfold Pe_hasRoom_B7
      rw [if_pos (by omega), hpay]
      simp only [Option.bind_some]
      rw [g1]
      simp only [Option.bind_some]
      rw [if_neg (by decide), cp1.2.1, hbeh]
      simp only [Option.bind_some]
      rw [pw (by omega) (by omega)]
      rfl
/-- how many records of one size have room -/
def spRoom (ns blk len : Nat) (tp : Nat → Int) (snap : Int) (r : spRec) : Nat → Int → spL → Nat
  | 0, _, _ => 0
  | f + 1, num, x => match spOne ns blk len tp snap r num x with
    | none => 0
    | some y => spRoom ns blk len tp snap r f (num + 1) y + 1
theorem c_roomForL {o pn st : Nat} {tp : Nat → Int} {snap : Int} {r : spRec} (hd0 : spDim ns blk len) (hp : pn < o ∨ o + 20 < pn) (hrok : spRok r) : ∀ (f c : Nat) (h : jH) (num : Int) (x : spL), c + f = 512 → CD h (o + 1) ns blk len D C → CP h pn x.1 → h o 7 = snap → (∀ j, j < 4 → h (o + 20) j = tp j) → spLI ns len tp snap st x →
    ∃ h1, Pe_roomFor_L7 h pn o (spSz r : Int) (c : Int) = some (((c + spRoom ns blk len tp snap r f num x : Nat) : Int), h1) ∧ ∀ z, z ≠ pn → h1 z = h z := by
  have hl := hd0.len
  have hsz := spSz_le hrok
  unfold Pe_roomFor_L7
  intro f
  induction f with
  | zero =>
    intro c h num x hi hc hx h7 htp hI
    refine ⟨h, jloop_r ?_, fun _ _ => rfl⟩
    show Pe_roomFor_B7 h pn o (spSz r : Int) (c : Int) = _
    unfold Pe_roomFor_B7
    rw [if_neg (by omega)]
    rfl
  | succ f ih =>
    intro c h num x hi hc hx h7 htp hI
    have hI' := hI
    obtain ⟨x1, x2, x3, x4, x5, x6, x7, x8, x9⟩ := hI
    obtain ⟨h1, g1, g2, g3, g4⟩ := c_goes (P := spSz r) (tp := tp) (snap := snap) hd0 hc hx x2 (by omega) (fun j hj _ => htp j hj) h7
    unfold spRoom
    cases hg : spGoes ns blk len tp snap (spSz r) x.1 with
    | none =>
      have ho : spOne ns blk len tp snap r num x = none := by unfold spOne; rw [hg]
      rw [ho]
      rw [hg, if_pos rfl] at g1
      refine ⟨h1, jloop_r ?_, g2⟩
      show Pe_roomFor_B7 h pn o (spSz r : Int) (c : Int) = _
      unfold Pe_roomFor_B7
      rw [if_pos (by omega), g1]
      rfl
    | some yo =>
      obtain ⟨y, op⟩ := yo
      have cp1 := g3 y op hg
      rw [hg, if_neg (by simp)] at g1
      obtain ⟨e, z, he, hk, ho, hz1⟩ : ∃ (e : Nat) (z : spL), spBeh blk len 6 y.2.1 (spSz r) = some e ∧ y.2.1 ≤ len ∧ spOne ns blk len tp snap r num x = some z ∧ z.1 = (y.1, e, y.2.2) := by
        cases op with
        | false =>
          obtain ⟨eq, e, he⟩ := spGoes_same hg
          have hB := spLayB_len (r := r) (sl := y.2.2.1 % 256) (show 4 < blk by have := hd0.2.2.1; omega) hl.2.2.2 6 y.2.1 0 e (by omega) (by rw [eq]; exact x2) (by rw [eq]; exact he)
          refine ⟨e, _, by rw [eq]; exact he, by rw [eq]; exact x2, by unfold spOne; rw [hg], ?_⟩
          dsimp only
          rw [hB.1]
        | true =>
          obtain ⟨t, u1, u2, u3, eq, e, he⟩ := spGoes_new hg
          have hB := spLayB_len (r := r) (sl := y.2.2.1 % 256) (show 4 < blk by have := hd0.2.2.1; omega) hl.2.2.2 6 y.2.1 0 e (by omega) (by rw [eq]; dsimp only; omega) (by rw [eq]; exact he)
          refine ⟨e, _, by rw [eq]; exact he, by rw [eq]; dsimp only; omega, by unfold spOne; rw [hg], ?_⟩
          dsimp only
          rw [hB.1]
      rw [ho]
      have hc1 : CD h1 (o + 1) ns blk len D C := hc.fr (g2 _ (by omega)) (g2 _ (by omega)) (g2 _ (by omega))
      have hbeh := c_beh (k := y.2.1) (left := spSz r) hd0 hc1 hk (by omega)
      rw [he] at hbeh
      have hcp2 : CP (jup h1 pn 1 (e : Int)) pn z.1 := by
        rw [hz1]
        obtain ⟨c1, c2, c3, c4, c5⟩ := cp1
        exact ⟨by rw [ju_ne (by decide)]; exact c1, ju_eq, by rw [ju_ne (by decide)]; exact c3, by rw [ju_ne (by decide)]; exact c4, by rw [ju_ne (by decide)]; exact c5⟩
      have ho2 : ∀ z, z ≠ pn → (jup h1 pn 1 (e : Int)) z = h z := fun z hz => by rw [jup_ne hz, g2 z hz]
      obtain ⟨h2, w1, w2⟩ := ih (c + 1) (jup h1 pn 1 (e : Int)) (num + 1) z (by omega) (hc.fr (ho2 _ (by omega)) (ho2 _ (by omega)) (ho2 _ (by omega))) hcp2 (by rw [ho2 o (by omega)]; exact h7) (fun j hj => by rw [ho2 _ (by omega)]; exact htp j hj) (spOne_LI hd0 ho hI').1
      refine ⟨h2, (jloop_l (s' := (((c + 1 : Nat) : Int), jup h1 pn 1 (e : Int))) ?_).trans (w1.trans ?_), fun z hz => (w2 z hz).trans (ho2 z hz)⟩
      · show Pe_roomFor_B7 h pn o (spSz r : Int) (c : Int) = _
        unfold Pe_roomFor_B7
        rw [if_pos (by omega), g1]
        simp only [Option.bind_some]
        rw [if_neg (by decide), cp1.2.1, hbeh]
        simp only [Option.bind_some]
        rw [pw (by omega) (by omega)]
        rfl
      · congr 2
        show ((c + 1 + spRoom ns blk len tp snap r f (num + 1) z : Nat) : Int) = ((c + (spRoom ns blk len tp snap r f (num + 1) z + 1) : Nat) : Int)
        omega
end CL4
