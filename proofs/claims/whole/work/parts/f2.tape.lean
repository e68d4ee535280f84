/-! the tape, what is seen: on both sides -/
def CTa (h : jH) (o0 : Nat) (tp : List Int) : Prop := h o0 1 = (tp.length : Int) ∧ tp.length ≤ 1600 ∧ ∀ (j : Nat) (v : Int), tp[j]? = some v → h (o0 + 1) j = v
/-- what a call on the tape may change -/
def TAf (o0 : Nat) (h h' : jH) : Prop := (∀ z, z ≠ o0 → z ≠ o0 + 1 → h' z = h z) ∧ ∀ f, f ≠ 1 → h' o0 f = h o0 f
theorem TAf.rf {o0 : Nat} {h : jH} : TAf o0 h h := ⟨fun _ _ _ => rfl, fun _ _ => rfl⟩
theorem TAf.tr {o0 : Nat} {h h1 h2 : jH} (a : TAf o0 h h1) (b : TAf o0 h1 h2) : TAf o0 h h2 := ⟨fun z x y => (b.1 z x y).trans (a.1 z x y), fun f x => (b.2 f x).trans (a.2 f x)⟩
def spByt (tp : List Int) : Prop := ∀ v ∈ tp, 0 ≤ v ∧ v < 256
def spO (v : Int) (c : Nat) : Int := v / 2 ^ (8 * (3 - c)) % 256
def spFour (v : Int) : List Int := [spO v 0, spO v 1, spO v 2, spO v 3]
def spSel (v1 v2 v3 v4 v5 : Int) (i : Nat) : Int := if i < 4 then v1 else if i < 8 then v2 else if i < 12 then v3 else if i < 16 then v4 else v5
def spFd (v1 v2 v3 v4 v5 : Int) : Nat → List Int
  | 0 => []
  | n + 1 => spFd v1 v2 v3 v4 v5 n ++ [spO (spSel v1 v2 v3 v4 v5 n) (n % 4)]
theorem spFd_20 {v1 v2 v3 v4 v5 : Int} : spFd v1 v2 v3 v4 v5 20 = spFour v1 ++ spFour v2 ++ spFour v3 ++ spFour v4 ++ spFour v5 := by simp [spFd, spSel, spFour]
theorem spO_in {v : Int} {c : Nat} : 0 ≤ spO v c ∧ spO v c < 256 := by unfold spO; omega
theorem spFour_in {v : Int} : spByt (spFour v) := by
  intro x hx
  rcases List.mem_cons.mp hx with e | hx
  · rw [e]; exact spO_in
  rcases List.mem_cons.mp hx with e | hx
  · rw [e]; exact spO_in
  rcases List.mem_cons.mp hx with e | hx
  · rw [e]; exact spO_in
  rcases List.mem_cons.mp hx with e | hx
  · rw [e]; exact spO_in
  cases hx
theorem spByt_app {a c : List Int} (ha : spByt a) (hc : spByt c) : spByt (a ++ c) := fun v hv => by
  rcases List.mem_append.mp hv with e | e
  · exact ha v e
  · exact hc v e
theorem spByt_feed {tp : List Int} {v1 v2 v3 v4 v5 : Int} (h : spByt tp) : spByt (tp ++ spFd v1 v2 v3 v4 v5 20) := by
  rw [spFd_20]
  exact spByt_app h (spByt_app (spByt_app (spByt_app (spByt_app spFour_in spFour_in) spFour_in) spFour_in) spFour_in)
theorem CTa.add {h : jH} {o0 : Nat} {tp : List Int} {v : Int} (hL : CTa h o0 tp) (hn : tp.length < 1600) : CTa (jup (jup h (o0 + 1) tp.length v) o0 1 ((tp.length : Int) + 1)) o0 (tp ++ [v]) ∧ TAf o0 h (jup (jup h (o0 + 1) tp.length v) o0 1 ((tp.length : Int) + 1)) := by
  obtain ⟨c1, c2, c3⟩ := hL
  refine ⟨⟨by rw [ju_eq, List.length_append]; rfl, by rw [List.length_append]; show tp.length + 1 ≤ 1600; omega, fun j w hj => ?_⟩, fun z z1 z2 => by rw [jup_ne z1, jup_ne z2], fun f hf => by rw [ju_ne hf, jup_ne (by omega)]⟩
  rw [jup_ne (by omega), ju_if]
  by_cases e : j = tp.length
  · rw [if_pos e]
    rw [e, List.getElem?_append_right (Nat.le_refl _), Nat.sub_self] at hj
    exact Option.some.inj hj
  · rw [if_neg e]
    have := (List.getElem?_eq_some_iff.mp hj).1
    rw [List.length_append] at this
    have h1 : j < tp.length := by
      have h2 : ([v] : List Int).length = 1 := rfl
      omega
    rw [List.getElem?_append_left h1] at hj
    exact c3 j w hj
theorem c_feedB {h : jH} {o0 c : Nat} {tp : List Int} {v : Int} (hv : jI32 v) (hL : CTa h o0 tp) (hn : tp.length < 1600) (hc : c < 4) : ∃ h', G_feedNumber_B3 h o0 v ((8 * (3 - c) : Nat) : Int) = some (.inl (((8 * (3 - c) : Nat) : Int) - 8, h')) ∧ TAf o0 h h' ∧ CTa h' o0 (tp ++ [spO v c]) := by
  have ha := hL.add (v := spO v c) hn
  refine ⟨_, ?_, ha.2, ha.1⟩
  unfold G_feedNumber_B3
  rw [if_neg (by omega), hL.1, pj_shr (by omega) hv.1 hv.2, pj_255, g_putN hn]
  simp only [Option.bind_some]
  rw [jup_ne (by omega), hL.1, pw (x := (tp.length : Int) + 1) (by omega) (by omega), pw (by omega) (by omega)]
  rfl
theorem c_feedN {h : jH} {o0 : Nat} {tp : List Int} {v : Int} (hv : jI32 v) (hL : CTa h o0 tp) (hn : tp.length + 4 ≤ 1600) : ∃ h', G_feedNumber h o0 v = some h' ∧ TAf o0 h h' ∧ CTa h' o0 (tp ++ spFour v) := by
  unfold G_feedNumber G_feedNumber_L3
  obtain ⟨h1, a1, a2, a3⟩ := c_feedB (c := 0) hv hL (by omega) (by decide)
  obtain ⟨h2, b1, b2, b3⟩ := c_feedB (c := 1) hv a3 (by rw [List.length_append]; show tp.length + 1 < 1600; omega) (by decide)
  obtain ⟨h3, d1, d2, d3⟩ := c_feedB (c := 2) hv b3 (by rw [List.length_append, List.length_append]; show tp.length + 1 + 1 < 1600; omega) (by decide)
  obtain ⟨h4, e1, e2, e3⟩ := c_feedB (c := 3) hv d3 (by rw [List.length_append, List.length_append, List.length_append]; show tp.length + 1 + 1 + 1 < 1600; omega) (by decide)
  refine ⟨h4, (jloop_l (s' := ((16 : Int), h1)) a1).trans ((jloop_l (s' := ((8 : Int), h2)) b1).trans ((jloop_l (s' := ((0 : Int), h3)) d1).trans ((jloop_l (s' := ((-8 : Int), h4)) e1).trans (jloop_r rfl)))), a2.tr (b2.tr (d2.tr e2)), ?_⟩
  rw [List.append_assoc, List.append_assoc, List.append_assoc] at e3
  exact e3
theorem c_feed {h : jH} {o0 : Nat} {tp : List Int} {v1 v2 v3 v4 v5 : Int} (i1 : jI32 v1) (i2 : jI32 v2) (i3 : jI32 v3) (i4 : jI32 v4) (i5 : jI32 v5) (hL : CTa h o0 tp) (hn : tp.length ≤ 1580) : ∃ h', G_feed h o0 v1 v2 v3 v4 v5 = some (((tp ++ spFd v1 v2 v3 v4 v5 20).length : Int), h') ∧ TAf o0 h h' ∧ CTa h' o0 (tp ++ spFd v1 v2 v3 v4 v5 20) := by
  have l4 : ∀ v : Int, (spFour v).length = 4 := fun _ => rfl
  unfold G_feed
  rw [hL.1, if_neg (by omega)]
  obtain ⟨h1, a1, a2, a3⟩ := c_feedN i1 hL (by omega)
  rw [a1]
  simp only [Option.bind_some]
  obtain ⟨h2, b1, b2, b3⟩ := c_feedN i2 a3 (by rw [List.length_append, l4]; omega)
  rw [b1]
  simp only [Option.bind_some]
  obtain ⟨h3, d1, d2, d3⟩ := c_feedN i3 b3 (by rw [List.length_append, List.length_append, l4, l4]; omega)
  rw [d1]
  simp only [Option.bind_some]
  obtain ⟨h4, e1, e2, e3⟩ := c_feedN i4 d3 (by rw [List.length_append, List.length_append, List.length_append, l4, l4, l4]; omega)
  rw [e1]
  simp only [Option.bind_some]
  obtain ⟨h5, f1, f2, f3⟩ := c_feedN i5 e3 (by rw [List.length_append, List.length_append, List.length_append, List.length_append, l4, l4, l4, l4]; omega)
  rw [f1]
  simp only [Option.bind_some]
  rw [spFd_20]
  have e : tp ++ spFour v1 ++ spFour v2 ++ spFour v3 ++ spFour v4 ++ spFour v5 = tp ++ (spFour v1 ++ spFour v2 ++ spFour v3 ++ spFour v4 ++ spFour v5) := by simp only [List.append_assoc]
  rw [e] at f3
  exact ⟨h5, by rw [f3.1], a2.tr (b2.tr (d2.tr (e2.tr f2))), f3⟩
theorem m_feed {h : jH} {o : Nat} {tp : List Int} {v1 v2 v3 v4 v5 : Int} (i1 : jI32 v1) (i2 : jI32 v2) (i3 : jI32 v3) (i4 : jI32 v4) (i5 : jI32 v5) (hL : CTa h o tp) (hn : tp.length ≤ 1580) : ∃ h', M_feed h o v1 v2 v3 v4 v5 = some (((tp ++ spFd v1 v2 v3 v4 v5 20).length : Int), h') ∧ TAf o h h' ∧ CTa h' o (tp ++ spFd v1 v2 v3 v4 v5 20) := by
  unfold M_feed
  rw [hL.1, pw (by omega) (by omega), if_neg (by omega)]
  have hlen : ∀ n, (spFd v1 v2 v3 v4 v5 n).length = n := by
    intro n
    induction n with
    | zero => rfl
    | succ n ih => show (spFd v1 v2 v3 v4 v5 n ++ [_]).length = _; rw [List.length_append, ih]; rfl
  unfold M_feed_L28
  obtain ⟨⟨i, g⟩, ⟨w1, w2, w3⟩, w4⟩ := jloop_k (f := fun s : (Int × jH) => M_feed_B28 s.2 o v1 v2 v3 v4 v5 s.1) (fun i s => s.1 = (i : Int) ∧ TAf o h s.2 ∧ CTa s.2 o (tp ++ spFd v1 v2 v3 v4 v5 i)) 20 (fun i s hi hp => by
    obtain ⟨x, g⟩ := s
    obtain ⟨p1, p2, p3⟩ := hp
    dsimp only at p1 p2 p3
    subst p1
    have hl : (tp ++ spFd v1 v2 v3 v4 v5 i).length = tp.length + i := by rw [List.length_append, hlen]
    have ha := p3.add (v := spO (spSel v1 v2 v3 v4 v5 i) (i % 4)) (by omega)
    rw [List.append_assoc] at ha
    refine ⟨(((i + 1 : Nat) : Int), _), ?_, rfl, p2.tr ha.2, ha.1⟩
    have hp81 : ∀ v : Int, jI32 v → spSel v1 v2 v3 v4 v5 i = v → M_feed_p81 g o v1 v2 v3 v4 v5 (i : Int) v = some (.inl (((i + 1 : Nat) : Int), jup (jup g (o + 1) (tp ++ spFd v1 v2 v3 v4 v5 i).length (spO (spSel v1 v2 v3 v4 v5 i) (i % 4))) o 1 (((tp ++ spFd v1 v2 v3 v4 v5 i).length : Int) + 1))) := by
      intro v hv hsel
      unfold M_feed_p81
      have hk : wr (8 * wr (3 - Int.tmod (i : Int) 4)) = ((8 * (3 - i % 4) : Nat) : Int) := by
        rw [Int.tmod_eq_emod_of_nonneg (by omega), pw (x := 3 - (i : Int) % 4) (by omega) (by omega), pw (by omega) (by omega)]
        omega
      rw [p3.1, hk, pj_shr (by omega) hv.1 hv.2, pj_255, if_pos (by omega), Int.toNat_natCast, jup_ne (by omega), p3.1, pw (x := (i : Int) + 1) (by omega) (by omega), pw (x := ((tp ++ spFd v1 v2 v3 v4 v5 i).length : Int) + 1) (by omega) (by omega), hsel]
      rfl
    show M_feed_B28 g o v1 v2 v3 v4 v5 (i : Int) = _
    unfold M_feed_B28
    rw [if_pos (by omega)]
    by_cases b1 : i < 4
    · rw [if_pos (by omega)]
      exact hp81 v1 i1 (by unfold spSel; rw [if_pos b1])
    rw [if_neg (by omega)]
    by_cases b2 : i < 8
    · rw [if_pos (by omega)]
      exact hp81 v2 i2 (by unfold spSel; rw [if_neg b1, if_pos b2])
    rw [if_neg (by omega)]
    by_cases b3 : i < 12
    · rw [if_pos (by omega)]
      exact hp81 v3 i3 (by unfold spSel; rw [if_neg b1, if_neg b2, if_pos b3])
    rw [if_neg (by omega)]
    by_cases b4 : i < 16
    · rw [if_pos (by omega)]
      exact hp81 v4 i4 (by unfold spSel; rw [if_neg b1, if_neg b2, if_neg b3, if_pos b4])
    rw [if_neg (by omega)]
    exact hp81 v5 i5 (by unfold spSel; rw [if_neg b1, if_neg b2, if_neg b3, if_neg b4])) (k := 0) (s := ((0 : Int), h)) (by decide) ⟨rfl, TAf.rf, by show CTa h o (tp ++ []); rw [List.append_nil]; exact hL⟩
  dsimp only at w1 w2 w3
  rw [w4]
  subst w1
  refine ⟨g, jloop_r ?_, w2, w3⟩
  show M_feed_B28 g o v1 v2 v3 v4 v5 ((20 : Nat) : Int) = _
  unfold M_feed_B28
  rw [if_neg (by decide), w3.1]
  rfl
theorem CTa.cut {h : jH} {o0 k : Nat} {tp : List Int} (hL : CTa h o0 tp) (hk : k ≤ tp.length) : CTa (jup h o0 1 (k : Int)) o0 (tp.take k) ∧ TAf o0 h (jup h o0 1 (k : Int)) := by
  obtain ⟨c1, c2, c3⟩ := hL
  refine ⟨⟨by rw [ju_eq, List.length_take, Nat.min_eq_left hk], by rw [List.length_take]; omega, fun j v hj => ?_⟩, fun z z1 _ => jup_ne z1, fun f hf => ju_ne hf⟩
  rw [jup_ne (by omega)]
  rw [List.getElem?_take] at hj
  split at hj
  · exact c3 j v hj
  · cases hj
theorem spByt_take {tp : List Int} {k : Nat} (h : spByt tp) : spByt (tp.take k) := fun v hv => h v (List.mem_of_mem_take hv)
theorem c_end {h : jH} {o0 : Nat} {v : Int} {tp : List Int} (hL : CTa h o0 tp) (h0 : 0 ≤ v) (h1 : v ≤ (tp.length : Int)) : ∃ h', G_end h o0 v = some (1, h') ∧ TAf o0 h h' ∧ CTa h' o0 (tp.take v.toNat) := by
  have hc := hL.cut (k := v.toNat) (by omega)
  rw [show (v.toNat : Int) = v by omega] at hc
  unfold G_end
  rw [if_neg (by omega), hL.1, if_neg (by omega)]
  exact ⟨_, rfl, hc.2, hc.1⟩
theorem m_end {h : jH} {o0 : Nat} {v : Int} {tp : List Int} (hL : CTa h o0 tp) (h0 : 0 ≤ v) (h1 : v ≤ (tp.length : Int)) : ∃ h', M_end h o0 v = some (1, h') ∧ TAf o0 h h' ∧ CTa h' o0 (tp.take v.toNat) := by
  have hc := hL.cut (k := v.toNat) (by omega)
  rw [show (v.toNat : Int) = v by omega] at hc
  unfold M_end
  rw [if_neg (by omega), hL.1, if_neg (by omega)]
  exact ⟨_, rfl, hc.2, hc.1⟩
/-! what is seen -/
def spPr (tp : List Int) (k : Nat) : Int := 256 * tp.getD k 0 + tp.getD (k + 1) 0
def spRow (tp : List Int) (i : Nat) : Prop := tp.getD (3 * i) 0 < 16 ∧ spPr tp (3 * i + 1) ≤ 1000
def spSees (tp : List Int) : Prop := 1 ≤ tp.length / 3 ∧ tp.length / 3 ≤ 16 ∧ tp.length % 3 = 0 ∧ ∀ i, i < tp.length / 3 → spRow tp i
abbrev spSn : Type := List (Int × Int)
def spRows (tp : List Int) : Nat → spSn
  | 0 => []
  | n + 1 => spRows tp n ++ [(tp.getD (3 * n) 0, spPr tp (3 * n + 1))]
theorem spRows_len {tp : List Int} : ∀ n, (spRows tp n).length = n := by
  intro n
  induction n with
  | zero => rfl
  | succ n ih => show (spRows tp n ++ [_]).length = _; rw [List.length_append, ih]; rfl
theorem spRows_get {tp : List Int} : ∀ n i e, (spRows tp n)[i]? = some e → i < n ∧ e = (tp.getD (3 * i) 0, spPr tp (3 * i + 1)) := by
  intro n
  induction n with
  | zero => intro i e h; cases h
  | succ n ih =>
    intro i e h
    have hl := spRows_len (tp := tp) n
    rcases Nat.lt_or_ge i n with a | a
    · rw [show spRows tp (n + 1) = spRows tp n ++ [_] from rfl, List.getElem?_append_left (by omega)] at h
      have := ih i e h
      exact ⟨by omega, this.2⟩
    · have hi := (List.getElem?_eq_some_iff.mp h).1
      rw [spRows_len] at hi
      have : i = n := by omega
      subst this
      rw [show spRows tp (i + 1) = spRows tp i ++ [(tp.getD (3 * i) 0, spPr tp (3 * i + 1))] from rfl, List.getElem?_append_right (by omega), hl, Nat.sub_self] at h
      exact ⟨by omega, (Option.some.inj h).symm⟩
/-- what is seen: class, reference -/
def CSn (h : jH) (o0 : Nat) (sn : spSn) : Prop := h o0 7 = (sn.length : Int) ∧ sn.length ≤ 16 ∧ ∀ (i : Nat) (e : Int × Int), sn[i]? = some e → h (o0 + 4) (3 * i) = e.1 ∧ ∃ a c : Int, h (o0 + 4) (3 * i + 1) = a ∧ h (o0 + 4) (3 * i + 2) = c ∧ 0 ≤ a ∧ a < 256 ∧ 0 ≤ c ∧ c < 256 ∧ 256 * a + c = e.2
def MSn (h : jH) (o : Nat) (sn : spSn) : Prop := h o 66 = (sn.length : Int) ∧ sn.length ≤ 16 ∧ ∀ (i : Nat) (e : Int × Int), sn[i]? = some e → h (o + 38) (2 * i) = e.1 ∧ h (o + 38) (2 * i + 1) = e.2
def spSok (sn : spSn) : Prop := ∀ e ∈ sn, 0 ≤ e.1 ∧ e.1 < 16 ∧ 0 ≤ e.2 ∧ e.2 ≤ 1000
theorem spByt.at {tp : List Int} (h : spByt tp) (k : Nat) : 0 ≤ tp.getD k 0 ∧ tp.getD k 0 < 256 := by
  rw [List.getD_eq_getElem?_getD]
  cases e : tp[k]? with
  | none => exact ⟨Int.le_refl _, by decide⟩
  | some v => exact h v (List.mem_of_getElem? e)
theorem spRows_ok {tp : List Int} (hb : spByt tp) (h : spSees tp) : spSok (spRows tp (tp.length / 3)) := by
  intro e he
  obtain ⟨i, hi⟩ := List.getElem?_of_mem he
  obtain ⟨h1, h2⟩ := spRows_get _ _ _ hi
  have hr := h.2.2.2 i h1
  have a0 := hb.at (3 * i)
  have a1 := hb.at (3 * i + 1)
  have a2 := hb.at (3 * i + 1 + 1)
  unfold spRow spPr at hr
  rw [h2]
  unfold spPr
  dsimp only
  omega
/-- the bytes of the tape alone -/
def CTb (h : jH) (o0 : Nat) (tp : List Int) : Prop := tp.length ≤ 1600 ∧ ∀ (j : Nat) (v : Int), tp[j]? = some v → h (o0 + 1) j = v
theorem CTa.b {h : jH} {o0 : Nat} {tp : List Int} (hL : CTa h o0 tp) : CTb h o0 tp := hL.2
theorem CTb.eq {h h' : jH} {o0 : Nat} {tp : List Int} (hL : CTb h o0 tp) (e : h' (o0 + 1) = h (o0 + 1)) : CTb h' o0 tp := ⟨hL.1, fun j v hj => by rw [e]; exact hL.2 j v hj⟩
theorem CTa.eq {h h' : jH} {o0 : Nat} {tp : List Int} (hL : CTa h o0 tp) (e1 : h' o0 1 = h o0 1) (e : h' (o0 + 1) = h (o0 + 1)) : CTa h' o0 tp := ⟨by rw [e1]; exact hL.1, hL.2.1, fun j v hj => by rw [e]; exact hL.2.2 j v hj⟩
theorem CTa.nil {h : jH} {o0 : Nat} (e : h o0 1 = 0) : CTa h o0 [] := ⟨e, by simp, fun j v hj => by cases hj⟩
theorem CTb.at {h : jH} {o0 k : Nat} {tp : List Int} (hL : CTb h o0 tp) (hk : k < tp.length) : h (o0 + 1) k = tp.getD k 0 := by
  rw [hL.2 k _ (List.getElem?_eq_getElem hk), List.getD_eq_getElem?_getD, List.getElem?_eq_getElem hk, Option.getD_some]
theorem c_tpair {h : jH} {o0 k : Nat} {tp : List Int} (hb : spByt tp) (hL : CTb h o0 tp) (hk : k + 1 < tp.length) : G_tapePair h o0 (k : Int) = some (spPr tp k) := by
  have hl := hL.1
  have a0 := hb.at k
  have a1 := hb.at (k + 1)
  unfold G_tapePair
  rw [g_cellN (by omega), hL.at (by omega)]
  simp only [Option.bind_some]
  rw [pw (x := (k : Int) + 1) (by omega) (by omega), show (k : Int) + 1 = ((k + 1 : Nat) : Int) by omega, g_cellN (by omega), hL.at (by omega)]
  simp only [Option.bind_some]
  rw [pj_shl8 (by omega) (by omega), pj_or8 (by omega) (by omega) (by omega) (by omega)]
  rfl
theorem m_tpair {h : jH} {o k : Nat} {tp : List Int} (hb : spByt tp) (hL : CTb h o tp) (hk : k + 1 < tp.length) : M_twoAt h o (k : Int) = some (spPr tp k) := by
  have hl := hL.1
  have a0 := hb.at k
  have a1 := hb.at (k + 1)
  unfold M_twoAt
  rw [pw (x := (k : Int) + 1) (by omega) (by omega), if_pos (by omega), if_pos (by omega), Int.toNat_natCast, show ((k : Int) + 1).toNat = k + 1 by omega, hL.at (by omega), hL.at (by omega), pw (x := 256 * tp.getD k 0) (by omega) (by omega), pw (by omega) (by omega)]
  rfl
