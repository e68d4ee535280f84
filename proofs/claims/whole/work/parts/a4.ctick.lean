/-! the class's tick -/
theorem spRelW_sub {num : Int} : ∀ (w : spWt) (e : Int × Int), e ∈ spRelW num w → e ∈ w := by
  intro w
  induction w with
  | nil => intro e h; exact h
  | cons x r ih =>
    intro e h
    unfold spRelW at h
    split at h
    · exact List.mem_cons_of_mem _ (ih e h)
    · rcases List.mem_cons.mp h with h | h
      · rw [h]; exact List.mem_cons_self
      · exact List.mem_cons_of_mem _ (ih e h)
section CTK
variable {ns blk len : Nat}
/-- acknowledged records: the table, the waiters -/
theorem c_ackL {o fl : Nat} {tick first : Int} {q : List spRec} (hfl : fl ≤ q.length) (hf : 0 ≤ first ∧ first ≤ 1000000000) (hrk : ∀ r ∈ q, spRok r) : ∀ (m i : Nat) (h : jH) (tab : Nat → Int) (wt : spWt) (kp : spKp) (rel : Int) (n : Nat), i + m = fl → CQ h (o + 7) q fl first → h o 9 = tick → CW h (o + 12) wt → CKn h (o + 12) kp n → n + wt.length ≤ 1000000 → (∀ k, k < 16 → h (o + 18) k = tab k) → 0 ≤ rel → rel + (wt.length : Int) ≤ 8 →
    ∃ h1 n', St_acknowledge_L30 h o rel (i : Int) = Option.bind (Qu_drop h1 (o + 7)) (fun b8 => some ((spAck tick ((q.drop i).take m) (first + i) (tab, wt, kp, rel)).2.2.2, b8)) ∧ (∀ z, (z < o + 12 ∨ o + 18 < z) → h1 z = h z) ∧ CW h1 (o + 12) (spAck tick ((q.drop i).take m) (first + i) (tab, wt, kp, rel)).2.1 ∧ CKn h1 (o + 12) (spAck tick ((q.drop i).take m) (first + i) (tab, wt, kp, rel)).2.2.1 n' ∧ (∀ k, k < 16 → h1 (o + 18) k = (spAck tick ((q.drop i).take m) (first + i) (tab, wt, kp, rel)).1 k) ∧ n' + (spAck tick ((q.drop i).take m) (first + i) (tab, wt, kp, rel)).2.1.length = n + wt.length := by
  unfold St_acknowledge_L30
  intro m
  induction m with
  | zero =>
    intro i h tab wt kp rel n hi hq h9 hw hk hn ht hr0 hr1
    rw [List.take_zero]
    refine ⟨h, n, jloop_x ?_, fun _ _ => rfl, hw, hk, ht, rfl⟩
    show St_acknowledge_B30 h o rel (i : Int) = _
    unfold St_acknowledge_B30
    rw [hq.2.1, if_neg (by omega)]
    rfl
  | succ m ih =>
    intro i h tab wt kp rel n hi hq h9 hw hk hn ht hr0 hr1
    obtain ⟨r, hr⟩ : ∃ r, q[i]? = some r := ⟨q[i], List.getElem?_eq_getElem (by omega)⟩
    have hrok := hrk r (List.mem_of_getElem? hr)
    have hc := hq.2.2.2.2 i r hr
    have h32 := hq.2.2.2.1
    rw [spDrop_take hr]
    obtain ⟨ky, hky⟩ : ∃ ky : Nat, r.1 = ky := ⟨r.1.toNat, by unfold spRok at hrok; omega⟩
    have hk16 : ky < 16 := by unfold spRok at hrok; omega
    obtain ⟨g, hg⟩ : ∃ g : jH, g = jup h (o + 18) ky r.2.1 := ⟨_, rfl⟩
    have hwg : CW g (o + 12) wt := by
      unfold CW CWa
      rw [hg, jup_ne (by omega), jup_ne (by omega), jup_ne (by omega)]
      exact hw
    have hkg : CKn g (o + 12) kp n := by
      unfold CKn
      rw [hg, jup_ne (by omega), jup_ne (by omega), jup_ne (by omega), jup_ne (by omega)]
      exact hk
    obtain ⟨h1, n1, e1, e2, e3, e4, e5, e6⟩ := c_rel (num := first + i) (tick := tick) hwg hkg hn
    have hl := spRelW_len (num := first + i) wt
    have hgo : ∀ z, (z < o + 12 ∨ o + 18 < z) → h1 z = h z := fun z hz => by rw [e2 z (by omega), hg, jup_ne (by omega)]
    obtain ⟨h2, n2, w1, w2, w3, w4, w5, w6⟩ := ih (i + 1) h1 (pu tab r.1.toNat r.2.1) (spRelW (first + i) wt) (spRelK tick (first + i) wt kp) (rel + ((wt.length : Int) - ((spRelW (first + i) wt).length : Int))) n1 (by omega) (hq.of (fun z z1 z2 => hgo z (by omega))) (by rw [hgo o (by omega)]; exact h9) e4 e5 (by omega) (fun k hk2 => by
      rw [e2 _ (by omega), hg, ju_if, hky, Int.toNat_natCast]
      unfold pu
      split
      · rfl
      · exact ht k hk2) (by omega) (by omega)
    rw [show first + ((i + 1 : Nat) : Int) = first + i + 1 by omega] at w1 w3 w4 w5 w6
    refine ⟨h2, n2, (jloop_l (s' := (rel + ((wt.length : Int) - ((spRelW (first + i) wt).length : Int)), ((i + 1 : Nat) : Int), h1)) ?_).trans w1, fun z hz => (w2 z hz).trans (hgo z hz), w3, w4, w5, ?_⟩
    · show St_acknowledge_B30 h o rel (i : Int) = _
      unfold St_acknowledge_B30
      rw [hq.2.1, if_pos (by omega)]
      have k1 : h (o + 8) i = r.1 := hc.1
      have k2 : h (o + 9) i = r.2.1 := hc.2.1
      rw [g_cellN (by omega), g_cellN (by omega), k1, k2]
      simp only [Option.bind_some]
      rw [hky, g_putN hk16]
      simp only [Option.bind_some]
      rw [jup_ne (show o + 7 ≠ o + 18 by omega), jup_ne (show o ≠ o + 18 by omega), hq.1, h9, pw (by omega) (by omega), ← hg, e1]
      simp only [Option.bind_some]
      rw [pw (by omega) (by omega), pw (by omega) (by omega)]
      rfl
    · show n2 + (spAck tick _ _ (pu tab r.1.toNat r.2.1, spRelW (first + i) wt, spRelK tick (first + i) wt kp, _)).2.1.length = _
      rw [w6]
      omega
theorem CD.eq {h h' : jH} {o : Nat} {D C : Nat → Nat → Int} (hc : CD h o ns blk len D C) (e : ∀ z, o ≤ z → z ≤ o + 2 → h' z = h z) : CD h' o ns blk len D C := hc.fr (e _ (by omega) (by omega)) (e _ (by omega) (by omega)) (e _ (by omega) (by omega))
theorem CS.eq {h h' : jH} {o n : Nat} {s : spSt} (hs : CS h o ns blk len n s) (e : ∀ z, o ≤ z → z ≤ o + 20 → h' z = h z) : CS h' o ns blk len n s := by
  obtain ⟨⟨D, C⟩, ⟨F, lf⟩, ⟨q, fl, first⟩, ⟨wt, kp⟩, ⟨tab, stab, snap, tops⟩, ⟨sg, at', ser, gr, hl, tk⟩⟩ := s
  unfold CS CF CW CWa CKn at hs ⊢
  obtain ⟨a1, a2, a3, a4⟩ := hs
  rw [e o (by omega) (by omega), e (o + 4) (by omega) (by omega), e (o + 4 + 1) (by omega) (by omega), e (o + 4 + 2) (by omega) (by omega), e (o + 12) (by omega) (by omega), e (o + 12 + 1) (by omega) (by omega), e (o + 12 + 2) (by omega) (by omega), e (o + 12 + 3) (by omega) (by omega), e (o + 12 + 4) (by omega) (by omega), e (o + 12 + 5) (by omega) (by omega), e (o + 18) (by omega) (by omega), e (o + 19) (by omega) (by omega), e (o + 20) (by omega) (by omega)]
  exact ⟨a1.eq (fun z z1 z2 => e z (by omega) (by omega)), a2, a3.of (fun z z1 z2 => e z (by omega) (by omega)), a4⟩
/-- the flight goes on by a tick, or is acknowledged -/
theorem c_fl1 {h : jH} {o n : Nat} {b : Int} {s : spSt} (hs : CS h o ns blk len n s) (hI : spInv ns blk len b s) (hn : n + s.2.2.2.1.1.length ≤ 1000000) (hF512 : s.2.1.1.length ≤ 512) :
    ∃ h' n', (if 0 < (h (o + 4) 2) then (if 0 < ((jup h (o + 4) 3 (wr ((h (o + 4) 3) - 1))) (o + 4) 3) then some ((0 : Int), (jup h (o + 4) 3 (wr ((h (o + 4) 3) - 1)))) else Option.bind (St_acknowledge (jup h (o + 4) 3 (wr ((h (o + 4) 3) - 1))) o) (fun b3 => some (b3.1, b3.2))) else some (0, h)) = some ((spFl1 s).2, h') ∧ (∀ z, (z < o ∨ o + 20 < z) → h' z = h z) ∧ (∀ f, h' o f = h o f) ∧ CS h' o ns blk len n' (spFl1 s).1 ∧ n' + (spFl1 s).1.2.2.2.1.1.length = n + s.2.2.2.1.1.length := by
  obtain ⟨⟨D, C⟩, ⟨F, lf⟩, ⟨q, fl, first⟩, ⟨wt, kp⟩, ⟨tab, stab, snap, tops⟩, ⟨sg, at', ser, gr, hl, tk⟩⟩ := s
  obtain ⟨i1, i2, i3, i4, i5, i6, i7⟩ := hI
  obtain ⟨c1, ⟨c2, c2'⟩, c3, ⟨c4, c4'⟩, ⟨t1, t2, t3, t4⟩, p1, p2, p3, p4, p5, p6⟩ := hs
  dsimp only at hn hF512
  unfold spFl1
  dsimp only
  by_cases a : F = []
  · subst a
    rw [if_neg (by rw [c2.1]; simp), if_pos rfl]
    exact ⟨h, n, rfl, fun _ _ => rfl, fun _ => rfl, ⟨c1, ⟨c2, c2'⟩, c3, ⟨c4, c4'⟩, ⟨t1, t2, t3, t4⟩, p1, p2, p3, p4, p5, p6⟩, rfl⟩
  · have hl1 := i2.2.1 a
    have hpos : 0 < F.length := by cases F with
      | nil => exact absurd rfl a
      | cons x r => simp
    rw [if_pos (by rw [c2.1]; omega), if_neg a, ju_eq, c2', pw (by omega) (by omega)]
    obtain ⟨g, hg⟩ : ∃ g : jH, g = jup h (o + 4) 3 (lf - 1) := ⟨_, rfl⟩
    rw [← hg]
    have go : ∀ z, z ≠ o + 4 → g z = h z := fun z hz => by rw [hg, jup_ne hz]
    have gf : CF g (o + 4) len F := by
      unfold CF
      rw [go (o + 4 + 1) (by omega), go (o + 4 + 2) (by omega), hg, ju_ne (by decide)]
      exact c2
    by_cases bq : 0 < lf - 1
    · rw [if_pos bq, if_neg (by omega)]
      refine ⟨g, n, rfl, fun z hz => go z (by omega), fun f => by rw [go o (by omega)], ⟨c1.eq (fun z z1 z2 => go z (by omega)), ⟨gf, by rw [hg, ju_eq]⟩, c3.of (fun z z1 z2 => go z (by omega)), ?_, ?_, ?_⟩, rfl⟩
      · unfold CW CWa CKn
        rw [go _ (by omega), go _ (by omega), go _ (by omega), go _ (by omega), go _ (by omega), go _ (by omega)]
        exact ⟨c4, c4'⟩
      · rw [go _ (by omega), go _ (by omega), go _ (by omega), go _ (by omega)]
        exact ⟨t1, t2, t3, t4⟩
      · rw [go _ (by omega)]
        exact ⟨p1, p2, p3, p4, p5, p6⟩
    · rw [if_neg bq, if_pos (by omega)]
      unfold St_acknowledge
      have gc : CD g (o + 1) ns blk len D C := c1.eq (fun z z1 z2 => go z (by omega))
      obtain ⟨h1, e1, e2, e3⟩ := c_arrive (of := o + 4) (i := 0) (t := F.length) i1.1 (by omega) (fun e he => ⟨(i2.1 e he).1, (i2.1 e he).2.1⟩) hF512 (by omega) (Nat.le_refl _) gc gf
      rw [Nat.sub_zero, List.drop_zero, List.take_length] at e3
      rw [gf.1, show (0 : Int) = ((0 : Nat) : Int) from rfl, e1]
      simp only [Option.bind_some]
      unfold Fl_clear
      simp only [Option.bind_some]
      obtain ⟨h2, hh2⟩ : ∃ h2 : jH, h2 = jup (jup h1 (o + 4) 2 0) (o + 4) 3 0 := ⟨_, rfl⟩
      rw [show ((0 : Nat) : Int) = 0 from rfl, ← hh2]
      have h2o : ∀ z, z ≠ o + 4 → z ≠ o + 2 → z ≠ o + 3 → h2 z = h z := fun z z1 z2 z3 => by rw [hh2, jup_ne z1, jup_ne z1, e2 z (by omega) (by omega), go z z1]
      have hq2 : CQ h2 (o + 7) q fl first := c3.of (fun z z1 z2 => h2o z (by omega) (by omega) (by omega))
      have hw2 : CW h2 (o + 12) wt := by
        unfold CW CWa
        rw [h2o _ (by omega) (by omega) (by omega), h2o _ (by omega) (by omega) (by omega), h2o _ (by omega) (by omega) (by omega)]
        exact c4
      have hk2 : CKn h2 (o + 12) kp n := by
        unfold CKn
        rw [h2o _ (by omega) (by omega) (by omega), h2o _ (by omega) (by omega) (by omega), h2o _ (by omega) (by omega) (by omega), h2o _ (by omega) (by omega) (by omega)]
        exact c4'
      obtain ⟨h3, n3, w1, w2, w3, w4, w5, w6⟩ := c_ackL (o := o) (tick := tk) i3.2.1 (by omega) (fun r hr => (i3.1 r hr).1) fl 0 h2 tab wt kp 0 n (by omega) hq2 (by rw [h2o o (by omega) (by omega) (by omega)]; exact p6) hw2 hk2 hn (fun k hk => by rw [h2o _ (by omega) (by omega) (by omega)]; exact t1 k hk) (by omega) (by omega)
      rw [List.drop_zero, show first + ((0 : Nat) : Int) = first by omega] at w1 w3 w4 w5 w6
      obtain ⟨h4, x1, x2, x3⟩ := c_drop (hq2.of (fun z z1 z2 => w2 z (by omega))) i3.2.1 (by omega)
      rw [show St_acknowledge_L30 h2 o 0 0 = _ from w1, x1]
      have h4o : ∀ z, (z < o + 7 ∨ o + 18 < z) → h4 z = h2 z := fun z hz => by rw [x2 z (by omega), w2 z (by omega)]
      refine ⟨h4, n3, rfl, fun z hz => by rw [h4o z (by omega), h2o z (by omega) (by omega) (by omega)], fun f => by rw [h4o o (by omega), h2o o (by omega) (by omega) (by omega)], ⟨?_, ⟨?_, ?_⟩, x3, ⟨?_, ?_⟩, ⟨?_, ?_, ?_, ?_⟩, ?_⟩, w6⟩
      · have e3' : CD h2 (o + 1) ns blk len (spArrD F D) (spArrC F C) := by
          refine e3.eq (fun z z1 z2 => ?_)
          rw [hh2, jup_ne (by omega), jup_ne (by omega)]
        exact e3'.eq (fun z z1 z2 => h4o z (by omega))
      · refine ⟨?_, fun i e he => by cases he⟩
        rw [h4o _ (by omega), hh2, ju_ne (by decide), ju_eq]
        rfl
      · rw [h4o _ (by omega), hh2, ju_eq]
      · unfold CW CWa at w3 ⊢
        rw [x2 _ (by omega), x2 _ (by omega), x2 _ (by omega)]
        exact w3
      · unfold CKn at w4 ⊢
        rw [x2 _ (by omega), x2 _ (by omega), x2 _ (by omega), x2 _ (by omega)]
        exact w4
      · intro i hi
        rw [x2 _ (by omega)]
        exact w5 i hi
      · intro i hi
        rw [h4o _ (by omega), h2o _ (by omega) (by omega) (by omega)]
        exact t2 i hi
      · rw [h4o _ (by omega), h2o _ (by omega) (by omega) (by omega)]
        exact t3
      · intro i hi
        rw [h4o _ (by omega), h2o _ (by omega) (by omega) (by omega)]
        exact t4 i hi
      · rw [h4o _ (by omega), h2o _ (by omega) (by omega) (by omega)]
        exact ⟨p1, p2, p3, p4, p5, p6⟩
/-- how many bytes of payload -/
theorem c_payOfL {oq fl : Nat} {first : Int} {q : List spRec} {nn : Nat} (hrk : ∀ r ∈ q, spRok r) (hn : fl + nn ≤ q.length) : ∀ (m i : Nat) (h : jH) (acc : Int), i + m = nn → CQ h oq q fl first → 0 ≤ acc → acc + 43 * (m : Int) ≤ 1000000 → Qu_payloadOf_L4 h oq (nn : Int) acc (i : Int) = some (acc + spPay1 ((q.drop (fl + i)).take m)) := by
  unfold Qu_payloadOf_L4
  intro m
  induction m with
  | zero =>
    intro i h acc hi hq h0 h1
    rw [List.take_zero]
    refine jloop_r ?_
    show Qu_payloadOf_B4 h oq (nn : Int) acc (i : Int) = _
    unfold Qu_payloadOf_B4
    rw [if_neg (by omega)]
    unfold spPay1
    simp
  | succ m ih =>
    intro i h acc hi hq h0 h1
    obtain ⟨r, hr⟩ : ∃ r, q[fl + i]? = some r := ⟨q[fl + i], List.getElem?_eq_getElem (by omega)⟩
    have hrok := hrk r (List.mem_of_getElem? hr)
    have hsz := spSz_le hrok
    have h32 := hq.2.2.2.1
    rw [spDrop_take hr]
    refine (jloop_l (s' := (acc + (spSz r : Int), ((i + 1 : Nat) : Int))) ?_).trans ((ih (i + 1) h (acc + (spSz r : Int)) (by omega) hq (by omega) (by omega)).trans ?_)
    · show Qu_payloadOf_B4 h oq (nn : Int) acc (i : Int) = _
      unfold Qu_payloadOf_B4
      rw [if_pos (by omega), hq.2.1, pw (by omega) (by omega), show (fl : Int) + (i : Int) = ((fl + i : Nat) : Int) by omega, c_pay hrok (CQr.of hq hr)]
      simp only [Option.bind_some]
      rw [pw (by omega) (by omega), pw (by omega) (by omega)]
      rfl
    · rw [show fl + (i + 1) = fl + i + 1 by omega]
      show some (acc + (spSz r : Int) + spPay1 _) = some (acc + ((spSz r : Int) + spPay1 _))
      congr 1
      omega
theorem spPay1_in : ∀ (l : List spRec), (∀ r ∈ l, spRok r) → 0 ≤ spPay1 l ∧ spPay1 l ≤ 43 * (l.length : Int) := by
  intro l
  induction l with
  | nil => intro _; unfold spPay1; simp
  | cons r l ih =>
    intro h
    have h1 := ih (fun x hx => h x (List.mem_cons_of_mem _ hx))
    have h2 := spSz_le (h r List.mem_cons_self)
    unfold spPay1
    rw [List.length_cons]
    omega
end CTK
