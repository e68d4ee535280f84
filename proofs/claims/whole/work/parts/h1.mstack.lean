/-! the reference's stack -/
def MWd (h : jH) (o : Nat) : Prop := (MWo h (o + 43) spW7 ∧ MWo h (o + 49) spWnot ∧ MWo h (o + 50) spWand ∧ MWo h (o + 51) spWor ∧ MWo h (o + 52) spWall ∧ MWo h (o + 53) spWmin ∧ MWo h (o + 54) spWmax) ∧ MWo h (o + 55) spW0 ∧ MWo h (o + 56) spW1 ∧ MWo h (o + 57) spW2 ∧ MWo h (o + 58) spW3 ∧ MWo h (o + 59) spW4 ∧ MWo h (o + 60) spW5 ∧ MWo h (o + 61) spW6 ∧ MWo h (o + 62) spW8 ∧ MWo h (o + 63) spW9 ∧ MWo h (o + 64) spW10
/-- the stack, top first; the codes -/
def MStk (h : jH) (o : Nat) (W C : List Int) : Prop := (h o 101 = (W.length : Int) ∧ ∀ (i : Nat) (v : Int), W[i]? = some v → h (o + 66) (W.length - 1 - i) = v) ∧ h o 99 = (C.length : Int) ∧ ∀ (i : Nat) (v : Int), C[i]? = some v → h (o + 65) i = v
def MK (h : jH) (o : Nat) (tp : List Int) (md k : Nat) (g : Int) (op bs : Nat) (W C : List Int) : Prop := MSs h o tp k g ∧ MWd h o ∧ h o 44 = (md : Int) ∧ h o 102 = (op : Int) ∧ h o 103 = (bs : Int) ∧ MStk h o W C ∧ W.length + C.length ≤ k
def MKg (o : Nat) (h h' : jH) : Prop := (∀ z, z ≠ o → z ≠ o + 65 → z ≠ o + 66 → h' z = h z) ∧ ∀ f, f ≠ 2 → f ≠ 4 → f ≠ 5 → f ≠ 6 → f ≠ 10 → f ≠ 99 → f ≠ 101 → f ≠ 102 → f ≠ 103 → h' o f = h o f
theorem MKg.rf {o : Nat} {h : jH} : MKg o h h := ⟨fun _ _ _ _ => rfl, fun _ _ _ _ _ _ _ _ _ _ => rfl⟩
theorem MKg.tr {o : Nat} {h h1 h2 : jH} (a : MKg o h h1) (b : MKg o h1 h2) : MKg o h h2 := ⟨fun z x y w => (b.1 z x y w).trans (a.1 z x y w), fun f x1 x2 x3 x4 x5 x6 x7 x8 x9 => (b.2 f x1 x2 x3 x4 x5 x6 x7 x8 x9).trans (a.2 f x1 x2 x3 x4 x5 x6 x7 x8 x9)⟩
theorem MFw.k {o : Nat} {h h' : jH} (a : MFw o h h') : MKg o h h' := ⟨fun z x _ _ => a.1 z x, fun f x1 x2 x3 x4 x5 _ _ _ _ => a.2 f x1 x2 x3 x4 x5⟩
section MST
variable {o : Nat} {tp : List Int} {md k op bs : Nat} {g : Int} {W C : List Int}
theorem MWo.eq {h h' : jH} {a : Nat} {w : List Int} (hw : MWo h a w) (e : h' a = h a) : MWo h' a w := fun i hi => by rw [e]; exact hw i hi
theorem MWd.fr {h h' : jH} (hw : MWd h o) (e : ∀ z, z ≠ o → z ≠ o + 65 → z ≠ o + 66 → h' z = h z) : MWd h' o := by
  obtain ⟨⟨a1, a2, a3, a4, a5, a6, a7⟩, b1, b2, b3, b4, b5, b6, b7, b8, b9, b10⟩ := hw
  have f : ∀ n, 43 ≤ n → n ≤ 64 → h' (o + n) = h (o + n) := fun n h1 h2 => e _ (by omega) (by omega) (by omega)
  exact ⟨⟨a1.eq (f 43 (by decide) (by decide)), a2.eq (f 49 (by decide) (by decide)), a3.eq (f 50 (by decide) (by decide)), a4.eq (f 51 (by decide) (by decide)), a5.eq (f 52 (by decide) (by decide)), a6.eq (f 53 (by decide) (by decide)), a7.eq (f 54 (by decide) (by decide))⟩, b1.eq (f 55 (by decide) (by decide)), b2.eq (f 56 (by decide) (by decide)), b3.eq (f 57 (by decide) (by decide)), b4.eq (f 58 (by decide) (by decide)), b5.eq (f 59 (by decide) (by decide)), b6.eq (f 60 (by decide) (by decide)), b7.eq (f 61 (by decide) (by decide)), b8.eq (f 62 (by decide) (by decide)), b9.eq (f 63 (by decide) (by decide)), b10.eq (f 64 (by decide) (by decide))⟩
/-- reading on -/
theorem MK.fr {h h' : jH} {k' : Nat} {g' : Int} (hs : MK h o tp md k g op bs W C) (e : MFw o h h') (hs' : MSs h' o tp k' g') (hk : k ≤ k') : MK h' o tp md k' g' op bs W C := by
  obtain ⟨s1, s2, s3, s4, s5, ⟨⟨s6, s7⟩, s8, s9⟩, s10⟩ := hs
  have ff : ∀ f, f ≠ 2 → f ≠ 4 → f ≠ 5 → f ≠ 6 → f ≠ 10 → h' o f = h o f := e.2
  exact ⟨hs', s2.fr (fun z z1 _ _ => e.1 z z1), by rw [ff 44 (by decide) (by decide) (by decide) (by decide) (by decide)]; exact s3, by rw [ff 102 (by decide) (by decide) (by decide) (by decide) (by decide)]; exact s4, by rw [ff 103 (by decide) (by decide) (by decide) (by decide) (by decide)]; exact s5, ⟨⟨by rw [ff 101 (by decide) (by decide) (by decide) (by decide) (by decide)]; exact s6, fun i v hv => by rw [e.1 _ (by omega)]; exact s7 i v hv⟩, by rw [ff 99 (by decide) (by decide) (by decide) (by decide) (by decide)]; exact s8, fun i v hv => by rw [e.1 _ (by omega)]; exact s9 i v hv⟩, by omega⟩
/-- other fields -/
theorem MSs.fd {h h' : jH} (hs : MSs h o tp k g) (e1 : h' (o + 1) = h (o + 1)) (e2 : ∀ f, f = 2 ∨ f = 3 ∨ f = 4 ∨ f = 5 ∨ f = 6 → h' o f = h o f) : MSs h' o tp k g := by
  obtain ⟨⟨c1, c2, c3, c4⟩, s2, s3, s4⟩ := hs
  exact ⟨⟨by rw [e2 3 (by decide)]; exact c1, c2, c3, fun j v hj => by rw [e1]; exact c4 j v hj⟩, by rw [e2 2 (by decide), e2 6 (by decide)]; exact s2, by rw [e2 4 (by decide)]; exact s3, by rw [e2 5 (by decide)]; exact s4⟩
theorem k_code {h : jH} {v : Int} (hs : MK h o tp md k g op bs W C) (hb : W.length + C.length + 1 ≤ k) : ∃ h', M_qCode h o v = some h' ∧ MKg o h h' ∧ MK h' o tp md k g op bs W (C ++ [v]) := by
  have hl := hs.1.le
  obtain ⟨s1, s2, s3, s4, s5, ⟨⟨s6, s7⟩, s8, s9⟩, s10⟩ := hs
  unfold M_qCode
  rw [s8, if_pos (by omega), Int.toNat_natCast, jup_ne (by omega), s8, pw (by omega) (by omega)]
  obtain ⟨h1, hh1⟩ : ∃ h1 : jH, h1 = jup (jup h (o + 65) C.length v) o 99 ((C.length : Int) + 1) := ⟨_, rfl⟩
  rw [← hh1]
  have go : ∀ z, z ≠ o → z ≠ o + 65 → h1 z = h z := fun z z1 z2 => by rw [hh1, jup_ne z1, jup_ne z2]
  have gf : ∀ f, f ≠ 99 → h1 o f = h o f := fun f hf => by rw [hh1, ju_ne hf, jup_ne (by omega)]
  refine ⟨h1, rfl, ⟨fun z z1 z2 _ => go z z1 z2, fun f _ _ _ _ _ f6 _ _ _ => gf f f6⟩, s1.fd (go _ (by omega) (by omega)) (fun f hf => gf f (by omega)), s2.fr (fun z z1 z2 _ => go z z1 z2), by rw [gf 44 (by decide)]; exact s3, by rw [gf 102 (by decide)]; exact s4, by rw [gf 103 (by decide)]; exact s5, ⟨⟨by rw [gf 101 (by decide)]; exact s6, fun i v hv => by rw [go _ (by omega) (by omega)]; exact s7 i v hv⟩, by rw [hh1, ju_eq, List.length_append]; rfl, fun i w hi => ?_⟩, by rw [List.length_append]; exact hb⟩
  rw [hh1, jup_ne (by omega), ju_if]
  by_cases e : i = C.length
  · rw [if_pos e]
    rw [e, List.getElem?_append_right (Nat.le_refl _), Nat.sub_self] at hi
    exact Option.some.inj hi
  · rw [if_neg e]
    have := (List.getElem?_eq_some_iff.mp hi).1
    rw [List.length_append] at this
    have h1 : i < C.length := by
      have h2 : ([v] : List Int).length = 1 := rfl
      omega
    rw [List.getElem?_append_left h1] at hi
    exact s9 i w hi
/-- one less waits -/
theorem k_pop {h : jH} {w : Int} (hs : MK h o tp md k g op bs (w :: W) C) : MKg o h (jup h o 101 (W.length : Int)) ∧ MK (jup h o 101 (W.length : Int)) o tp md k g op bs W C ∧ h (o + 66) W.length = w ∧ h o 101 = (W.length : Int) + 1 := by
  obtain ⟨s1, s2, s3, s4, s5, ⟨⟨s6, s7⟩, s8, s9⟩, s10⟩ := hs
  have go : ∀ z, z ≠ o → (jup h o 101 (W.length : Int)) z = h z := fun z z1 => jup_ne z1
  have gf : ∀ f, f ≠ 101 → (jup h o 101 (W.length : Int)) o f = h o f := fun f hf => ju_ne hf
  have h0 := s7 0 w rfl
  rw [List.length_cons] at h0 s6 s10
  refine ⟨⟨fun z z1 _ _ => go z z1, fun f _ _ _ _ _ _ f7 _ _ => gf f f7⟩, ⟨s1.fd (go _ (by omega)) (fun f hf => gf f (by omega)), s2.fr (fun z z1 _ _ => go z z1), by rw [gf 44 (by decide)]; exact s3, by rw [gf 102 (by decide)]; exact s4, by rw [gf 103 (by decide)]; exact s5, ⟨⟨ju_eq, fun i v hv => ?_⟩, by rw [gf 99 (by decide)]; exact s8, fun i v hv => by rw [go _ (by omega)]; exact s9 i v hv⟩, by omega⟩, by rw [show W.length + 1 - 1 - 0 = W.length by omega] at h0; exact h0, by rw [s6]; rfl⟩
  rw [go _ (by omega)]
  have := s7 (i + 1) v hv
  rw [List.length_cons, show W.length + 1 - 1 - (i + 1) = W.length - 1 - i by omega] at this
  exact this
theorem k_drop {h : jH} {w : Int} (hs : MK h o tp md k g op bs (w :: W) C) : ∃ h', M_qDrops h o = some h' ∧ MKg o h h' ∧ MK h' o tp md k g op bs W (C ++ [w]) := by
  have hl := hs.1.le
  have hb := hs.2.2.2.2.2.2
  rw [List.length_cons] at hb
  obtain ⟨p1, p2, p3, p4⟩ := k_pop hs
  unfold M_qDrops
  rw [p4, pw (by omega) (by omega), show (W.length : Int) + 1 - 1 = (W.length : Int) by omega, ju_eq, if_pos (by omega), Int.toNat_natCast, jup_ne (by omega), p3]
  obtain ⟨h', e1, e2, e3⟩ := k_code (v := w) p2 (by omega)
  rw [e1, Option.bind_some]
  exact ⟨h', rfl, p1.tr e2, e3⟩
theorem k_isOn {h : jH} {v : Int} (hs : MK h o tp md k g op bs W C) : M_qIsOn h o v = some (if W.head? = some v then 1 else 0) := by
  have hl := hs.1.le
  have hb := hs.2.2.2.2.2.2
  have s6 := hs.2.2.2.2.2.1.1
  unfold M_qIsOn M_qIsOn_p26
  rw [s6.1]
  cases W with
  | nil => rw [if_neg (by decide), if_neg (by simp)]
  | cons w W =>
    rw [List.length_cons] at hb ⊢
    have h0 := s6.2 0 w rfl
    rw [List.length_cons, show W.length + 1 - 1 - 0 = W.length by omega] at h0
    rw [if_pos (by omega), pw (by omega) (by omega), if_pos (by omega), show (((W.length + 1 : Nat) : Int) - 1).toNat = W.length by omega, h0]
    by_cases e : w = v
    · rw [if_pos e, if_pos (by rw [e]; rfl)]
    · rw [if_neg e, if_neg (show ¬ (w :: W).head? = some v from fun h => e (Option.some.inj h))]
theorem k_push {h : jH} {v : Int} (hW : W.length < 1700) (hs : MStk h o W C) : MStk (jup (jup h (o + 66) W.length v) o 101 ((W.length : Int) + 1)) o (v :: W) C := by
  obtain ⟨⟨s6, s7⟩, s8, s9⟩ := hs
  refine ⟨⟨by rw [ju_eq]; rfl, fun i w hi => ?_⟩, by rw [ju_ne (by decide), jup_ne (by omega)]; exact s8, fun i w hi => by rw [jup_ne (by omega), jup_ne (by omega)]; exact s9 i w hi⟩
  rw [jup_ne (by omega), ju_if, List.length_cons]
  cases i with
  | zero => rw [if_pos (by omega)]; exact Option.some.inj hi
  | succ i =>
    have hi' : W[i]? = some w := hi
    have := (List.getElem?_eq_some_iff.mp hi').1
    rw [if_neg (by omega), show W.length + 1 - 1 - (i + 1) = W.length - 1 - i by omega]
    exact s7 i w hi'
def spIsB (v : Int) : Bool := decide (20 ≤ v) && decide (v ≤ 24)
theorem m_isB {v : Int} : M_qIsBracket v = some (if spIsB v = true then 1 else 0) := by
  unfold M_qIsBracket M_qIsBracket_p16 spIsB
  by_cases a : v < 20
  · rw [if_pos a, decide_eq_false (by omega), Bool.false_and, if_neg (by decide)]
  · rw [if_neg a, decide_eq_true (by omega), Bool.true_and]
    by_cases b : 24 < v
    · rw [if_pos b, decide_eq_false (by omega), if_neg (by decide)]
    · rw [if_neg b, decide_eq_true (by omega), if_pos rfl]
/-- the last bracket above the base -/
theorem k_brk {h : jH} {p : List Int} {b : Int} {W' : List Int} (hp : ∀ x ∈ p, spIsB x = false) (hb : spIsB b = true) (hbs : bs ≤ W'.length) (hs : MK h o tp md k g op bs (p ++ b :: W') C) : M_qBracket h o = some b := by
  have hl := hs.1.le
  have hbd := hs.2.2.2.2.2.2
  have h103 := hs.2.2.2.2.1
  have s6 := hs.2.2.2.2.2.1.1
  have hlen : (p ++ b :: W').length = p.length + 1 + W'.length := by rw [List.length_append, List.length_cons]; omega
  rw [hlen] at hbd s6
  have key : ∀ m j, j + m = p.length → M_qBracket_L7 h o ((m + W'.length : Nat) : Int) = some b := by
    unfold M_qBracket_L7
    intro m
    induction m with
    | zero =>
      intro j hj
      have hc := s6.2 p.length b (by rw [List.getElem?_append_right (Nat.le_refl _), Nat.sub_self]; rfl)
      rw [show p.length + 1 + W'.length - 1 - p.length = W'.length by omega] at hc
      refine jloop_r ?_
      rw [Nat.zero_add]
      unfold M_qBracket_B7 M_qBracket_p33
      rw [h103, if_neg (by omega), if_pos (by omega), Int.toNat_natCast, hc, m_isB, Option.bind_some, if_pos hb, if_neg (by decide), if_neg (by omega), if_pos (by omega)]
      rfl
    | succ m ih =>
      intro j hj
      have hjp : j < p.length := by omega
      have hc := s6.2 j p[j] (by rw [List.getElem?_append_left hjp, List.getElem?_eq_getElem hjp])
      rw [show p.length + 1 + W'.length - 1 - j = m + 1 + W'.length by omega] at hc
      refine (jloop_l (s' := ((m + W'.length : Nat) : Int)) ?_).trans (ih (j + 1) (by omega))
      unfold M_qBracket_B7
      rw [h103, if_neg (by omega), if_pos (by omega), Int.toNat_natCast, hc, m_isB, Option.bind_some, hp _ (List.getElem_mem hjp), if_pos (show (if false = true then (1 : Int) else 0) = 0 from rfl), pw (by omega) (by omega)]
      congr 2
      omega
  unfold M_qBracket
  rw [s6.1, pw (by omega) (by omega)]
  have := key p.length 0 (by omega)
  rw [show (((p.length + 1 + W'.length : Nat) : Int) - 1) = ((p.length + W'.length : Nat) : Int) by omega]
  exact this
theorem k_brkNo {h : jH} {p W' : List Int} (hp : ∀ x ∈ p, spIsB x = false) (hbs : W'.length = bs) (hs : MK h o tp md k g op bs (p ++ W') C) : M_qBracket h o = some (-1) := by
  have hl := hs.1.le
  have hbd := hs.2.2.2.2.2.2
  have h103 := hs.2.2.2.2.1
  have s6 := hs.2.2.2.2.2.1.1
  have hlen : (p ++ W').length = p.length + W'.length := List.length_append
  rw [hlen] at hbd s6
  have key : ∀ m j, j + m = p.length → M_qBracket_L7 h o (((m + W'.length : Nat) : Int) - 1) = some (-1) := by
    unfold M_qBracket_L7
    intro m
    induction m with
    | zero =>
      intro j hj
      refine jloop_r ?_
      unfold M_qBracket_B7 M_qBracket_p33
      rw [h103, if_pos (by omega), if_pos (by omega)]
      rfl
    | succ m ih =>
      intro j hj
      have hjp : j < p.length := by omega
      have hc := s6.2 j p[j] (by rw [List.getElem?_append_left hjp, List.getElem?_eq_getElem hjp])
      rw [show p.length + W'.length - 1 - j = m + W'.length by omega] at hc
      refine (jloop_l (s' := (((m + W'.length : Nat) : Int) - 1)) ?_).trans (ih (j + 1) (by omega))
      unfold M_qBracket_B7
      rw [h103, if_neg (by omega), if_pos (by omega), show (((m + 1 + W'.length : Nat) : Int) - 1).toNat = m + W'.length by omega, hc, m_isB, Option.bind_some, hp _ (List.getElem_mem hjp), if_pos (show (if false = true then (1 : Int) else 0) = 0 from rfl), pw (by omega) (by omega)]
      congr 2
      omega
  unfold M_qBracket
  rw [s6.1, pw (by omega) (by omega)]
  exact key p.length 0 (by omega)
/-- all is dropped down to the bracket -/
theorem k_dropsTo {b : Int} {W' : List Int} (hb : spIsB b = true) (hbs : bs ≤ W'.length) : ∀ (p : List Int) (C : List Int) (h : jH), (∀ x ∈ p, spIsB x = false) → MK h o tp md k g op bs (p ++ b :: W') C → ∃ h', M_qDropsToBracket h o = some h' ∧ MKg o h h' ∧ MK h' o tp md k g op bs (b :: W') (C ++ p) := by
  unfold M_qDropsToBracket M_qDropsToBracket_L0
  intro p
  induction p with
  | nil =>
    intro C h _ hs
    have hl := hs.1.le
    have hbd := hs.2.2.2.2.2.2
    have hk := k_pop (W := W') (w := b) hs
    rw [List.nil_append, List.length_cons] at hbd
    refine ⟨h, jloop_r ?_, MKg.rf, by rw [List.append_nil]; exact hs⟩
    unfold M_qDropsToBracket_B0
    rw [hs.2.2.2.2.1, hk.2.2.2, if_pos (by omega), pw (by omega) (by omega), if_pos (by omega), show ((W'.length : Int) + 1 - 1).toNat = W'.length by omega, hk.2.2.1, m_isB, Option.bind_some, if_pos hb, if_neg (by decide)]
    rfl
  | cons x p ih =>
    intro C h hp hs
    have hl := hs.1.le
    have hbd := hs.2.2.2.2.2.2
    have hk := k_pop (W := p ++ b :: W') (w := x) hs
    have hlen : (p ++ b :: W').length = p.length + 1 + W'.length := by rw [List.length_append, List.length_cons]; omega
    rw [List.cons_append, List.length_cons] at hbd
    obtain ⟨h1, e1, e2, e3⟩ := k_drop (W := p ++ b :: W') (w := x) hs
    obtain ⟨h', y1, y2, y3⟩ := ih (C ++ [x]) h1 (fun y hy => hp y (List.mem_cons_of_mem _ hy)) e3
    refine ⟨h', (jloop_l (s' := h1) ?_).trans y1, e2.tr y2, by rw [List.append_assoc] at y3; exact y3⟩
    unfold M_qDropsToBracket_B0
    rw [hs.2.2.2.2.1, hk.2.2.2, if_pos (by omega), pw (by omega) (by omega), if_pos (by omega), show (((p ++ b :: W').length : Int) + 1 - 1).toNat = (p ++ b :: W').length by omega, hk.2.2.1, m_isB, Option.bind_some, hp x List.mem_cons_self, if_pos (show (if false = true then (1 : Int) else 0) = 0 from rfl), e1, Option.bind_some]
/-- what waits for a part -/
theorem k_ends1 {h : jH} {w : Int} (hw : 60 ≤ w) (hbs : bs ≤ W.length) (hop : op ≤ 10) (hs : MK h o tp md k g (op + 1) bs (w :: W) C) : ∃ h', M_qEndsPart h o = M_qEndsPart h' o ∧ MKg o h h' ∧ MK h' o tp md k g op bs W (C ++ [w]) := by
  have hl := hs.1.le
  have hbd := hs.2.2.2.2.2.2
  rw [List.length_cons] at hbd
  have hk := k_pop hs
  have h5 := hs.1.2.2.2
  obtain ⟨h1, hh1⟩ : ∃ h1 : jH, h1 = jup h o 102 (op : Int) := ⟨_, rfl⟩
  have go : ∀ z, z ≠ o → h1 z = h z := fun z z1 => by rw [hh1, jup_ne z1]
  have gf : ∀ f, f ≠ 102 → h1 o f = h o f := fun f hf => by rw [hh1, ju_ne hf]
  have s1 : MK h1 o tp md k g op bs (w :: W) C := by
    obtain ⟨s1, s2, s3, s4, s5, ⟨⟨s6, s7⟩, s8, s9⟩, s10⟩ := hs
    exact ⟨s1.fd (go _ (by omega)) (fun f hf => gf f (by omega)), s2.fr (fun z z1 _ _ => go z z1), by rw [gf 44 (by decide)]; exact s3, by rw [hh1, ju_eq], by rw [gf 103 (by decide)]; exact s5, ⟨⟨by rw [gf 101 (by decide)]; exact s6, fun i v hv => by rw [go _ (by omega)]; exact s7 i v hv⟩, by rw [gf 99 (by decide)]; exact s8, fun i v hv => by rw [go _ (by omega)]; exact s9 i v hv⟩, s10⟩
  obtain ⟨h2, e1, e2, e3⟩ := k_drop s1
  have f1 : MKg o h h1 := ⟨fun z z1 _ _ => go z z1, fun f _ _ _ _ _ _ _ f8 _ => gf f f8⟩
  refine ⟨h2, ?_, f1.tr e2, e3⟩
  unfold M_qEndsPart M_qEndsPart_L0
  refine jloop_l (s' := h2) ?_
  unfold M_qEndsPart_B0
  rw [h5, if_pos rfl, hs.2.2.2.2.1, hk.2.2.2, if_pos (by omega), pw (by omega) (by omega), if_pos (by omega), show ((W.length : Int) + 1 - 1).toNat = W.length by omega, hk.2.2.1, if_neg (by omega), hs.2.2.2.1, pw (by omega) (by omega), show ((op + 1 : Nat) : Int) - 1 = (op : Int) by omega, ← hh1, e1, Option.bind_some]
theorem k_ends0 {h : jH} (hw : W.length = bs ∨ ∃ w W', W = w :: W' ∧ w < 60 ∧ bs ≤ W'.length) (hs : MK h o tp md k g op bs W C) : M_qEndsPart h o = some h := by
  have hl := hs.1.le
  have hbd := hs.2.2.2.2.2.2
  have h5 := hs.1.2.2.2
  unfold M_qEndsPart M_qEndsPart_L0
  refine jloop_r ?_
  unfold M_qEndsPart_B0
  rw [h5, if_pos rfl, hs.2.2.2.2.1]
  rcases hw with e | ⟨w, W', rfl, hw, hb⟩
  · rw [hs.2.2.2.2.2.1.1.1, if_neg (by omega)]; rfl
  · have hk := k_pop hs
    rw [List.length_cons] at hbd
    rw [hk.2.2.2, if_pos (by omega), pw (by omega) (by omega), if_pos (by omega), show ((W'.length : Int) + 1 - 1).toNat = W'.length by omega, hk.2.2.1, if_pos hw]
    rfl
end MST
