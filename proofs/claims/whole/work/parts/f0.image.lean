/-! images, on both sides -/
def spTwo (v : Int) : List Int := [v / 256 % 256, v % 256]
def spPrs (f : Nat → Int) : Nat → List Int
  | 0 => []
  | n + 1 => spPrs f n ++ spTwo (if f n = -1 then 65535 else f n)
def spBts (len : Nat) (D : Nat → Nat → Int) : Nat → List Int
  | 0 => []
  | n + 1 => spBts len D n ++ [D (n / len) (n % len)]
def spImB (ns len : Nat) (s : spSt) : List Int := spTwo s.2.2.2.2.1.2.2.1 ++ spPrs s.2.2.2.2.1.2.1 16 ++ spBts len s.1.1 (ns * len)
def spIm (ns len : Nat) (s : spSt) : List Int := spImB ns len s ++ [spCk (spImB ns len s) 139]
/-- what is written of an image -/
def CIm (h : jH) (o0 : Nat) (L : List Int) : Prop := h o0 3 = (L.length : Int) ∧ L.length ≤ 547 ∧ ∀ (j : Nat) (v : Int), L[j]? = some v → h (o0 + 2) j = v
def MIm (h : jH) (o : Nat) (L : List Int) : Prop := h o 109 = (L.length : Int) ∧ L.length ≤ 547 ∧ ∀ (j : Nat) (v : Int), L[j]? = some v → h (o + 68) j = v
def CIf (o0 : Nat) (h h' : jH) : Prop := (∀ z, z ≠ o0 → z ≠ o0 + 2 → h' z = h z) ∧ ∀ f, f ≠ 3 → h' o0 f = h o0 f
def MIf (o : Nat) (h h' : jH) : Prop := (∀ z, z ≠ o → z ≠ o + 68 → h' z = h z) ∧ ∀ f, f ≠ 109 → h' o f = h o f
theorem CIf.rf {o0 : Nat} {h : jH} : CIf o0 h h := ⟨fun _ _ _ => rfl, fun _ _ => rfl⟩
theorem CIf.tr {o0 : Nat} {h h1 h2 : jH} (a : CIf o0 h h1) (b : CIf o0 h1 h2) : CIf o0 h h2 := ⟨fun z x y => (b.1 z x y).trans (a.1 z x y), fun f x => (b.2 f x).trans (a.2 f x)⟩
theorem MIf.rf {o : Nat} {h : jH} : MIf o h h := ⟨fun _ _ _ => rfl, fun _ _ => rfl⟩
theorem MIf.tr {o : Nat} {h h1 h2 : jH} (a : MIf o h h1) (b : MIf o h1 h2) : MIf o h h2 := ⟨fun z x y => (b.1 z x y).trans (a.1 z x y), fun f x => (b.2 f x).trans (a.2 f x)⟩
def spDOct (k : Int) (L : List Int) : Int := if 0 ≤ k ∧ k < (L.length : Int) then L.getD k.toNat 0 else -1
theorem spPrs_len {f : Nat → Int} : ∀ n, (spPrs f n).length = 2 * n := by
  intro n
  induction n with
  | zero => rfl
  | succ n ih => show (spPrs f n ++ spTwo _).length = _; rw [List.length_append, ih]; show 2 * n + 2 = _; omega
theorem spBts_len {len : Nat} {D : Nat → Nat → Int} : ∀ n, (spBts len D n).length = n := by
  intro n
  induction n with
  | zero => rfl
  | succ n ih => show (spBts len D n ++ [_]).length = _; rw [List.length_append, ih]; rfl
theorem spTwo_in {v : Int} : ∀ x ∈ spTwo v, 0 ≤ x ∧ x < 256 := by
  intro x hx
  rcases List.mem_cons.mp hx with e | hx
  · omega
  rcases List.mem_cons.mp hx with e | hx
  · omega
  cases hx
theorem spPrs_in {f : Nat → Int} : ∀ n, ∀ x ∈ spPrs f n, 0 ≤ x ∧ x < 256 := by
  intro n
  induction n with
  | zero => intro x hx; cases hx
  | succ n ih =>
    intro x hx
    rcases List.mem_append.mp hx with e | e
    · exact ih x e
    · exact spTwo_in x e
theorem spBts_in {ns len : Nat} {D : Nat → Nat → Int} (hy : spByD ns len D) : ∀ n, n ≤ ns * len → ∀ x ∈ spBts len D n, 0 ≤ x ∧ x < 256 := by
  intro n
  induction n with
  | zero => intro _ x hx; cases hx
  | succ n ih =>
    intro hn x hx
    obtain ⟨d1, d2, d3⟩ := sp_dm (show n < ns * len by omega)
    rcases List.mem_append.mp hx with e | e
    · exact ih (by omega) x e
    · rw [List.mem_singleton.mp e]; exact hy _ d1 _ d2
theorem spImB_len {ns len : Nat} {s : spSt} : (spImB ns len s).length = 34 + ns * len := by
  unfold spImB
  rw [List.length_append, List.length_append, spPrs_len, spBts_len]
  rfl
section IMG
variable {T : jT} {o0 pl ns blk len B : Nat} {p : spPl} {X : spX} {b : Int}
theorem c_oct1 {h : jH} {L : List Int} {v : Int} (hL : CIm h o0 L) (hn : L.length < 547) : ∃ h', G_addOctet h o0 v = some h' ∧ CIf o0 h h' ∧ CIm h' o0 (L ++ [v]) := by
  obtain ⟨c1, c2, c3⟩ := hL
  unfold G_addOctet
  rw [c1, g_putN hn]
  simp only [Option.bind_some]
  rw [jup_ne (by omega), c1, pw (by omega) (by omega)]
  refine ⟨_, rfl, ⟨fun z z1 z2 => by rw [jup_ne z1, jup_ne z2], fun f hf => by rw [ju_ne hf, jup_ne (by omega)]⟩, by rw [ju_eq, List.length_append]; rfl, by rw [List.length_append]; show L.length + 1 ≤ 547; omega, fun j w hj => ?_⟩
  rw [jup_ne (by omega), ju_if]
  by_cases e : j = L.length
  · rw [if_pos e]
    rw [e, List.getElem?_append_right (Nat.le_refl _), Nat.sub_self] at hj
    exact Option.some.inj hj
  · rw [if_neg e]
    have := (List.getElem?_eq_some_iff.mp hj).1
    rw [List.length_append] at this
    have h1 : j < L.length := by
      have h2 : ([v] : List Int).length = 1 := rfl
      omega
    rw [List.getElem?_append_left h1] at hj
    exact c3 j w hj
theorem m_oct1 {h : jH} {o : Nat} {L : List Int} {v : Int} (hL : MIm h o L) (hn : L.length < 547) : ∃ h', M_writes h o v = some h' ∧ MIf o h h' ∧ MIm h' o (L ++ [v]) := by
  obtain ⟨c1, c2, c3⟩ := hL
  unfold M_writes
  rw [c1, if_pos (by omega), Int.toNat_natCast, jup_ne (by omega), c1, pw (by omega) (by omega)]
  refine ⟨_, rfl, ⟨fun z z1 z2 => by rw [jup_ne z1, jup_ne z2], fun f hf => by rw [ju_ne hf, jup_ne (by omega)]⟩, by rw [ju_eq, List.length_append]; rfl, by rw [List.length_append]; show L.length + 1 ≤ 547; omega, fun j w hj => ?_⟩
  rw [jup_ne (by omega), ju_if]
  by_cases e : j = L.length
  · rw [if_pos e]
    rw [e, List.getElem?_append_right (Nat.le_refl _), Nat.sub_self] at hj
    exact Option.some.inj hj
  · rw [if_neg e]
    have := (List.getElem?_eq_some_iff.mp hj).1
    rw [List.length_append] at this
    have h1 : j < L.length := by
      have h2 : ([v] : List Int).length = 1 := rfl
      omega
    rw [List.getElem?_append_left h1] at hj
    exact c3 j w hj
theorem c_pair {h : jH} {L : List Int} {v : Int} (hL : CIm h o0 L) (hn : L.length + 2 ≤ 547) (h0 : 0 ≤ v) (h1 : v < 10000000) : ∃ h', G_addPair h o0 v = some h' ∧ CIf o0 h h' ∧ CIm h' o0 (L ++ spTwo v) := by
  unfold G_addPair
  rw [pj_shr8 (by omega) (by omega), pj_255, pj_255]
  obtain ⟨g, e1, e2, e3⟩ := c_oct1 (v := v / 256 % 256) hL (by omega)
  rw [e1]
  simp only [Option.bind_some]
  obtain ⟨g2, x1, x2, x3⟩ := c_oct1 (v := v % 256) e3 (by rw [List.length_append]; show L.length + 1 < 547; omega)
  rw [x1]
  refine ⟨g2, rfl, e2.tr x2, ?_⟩
  rw [List.append_assoc] at x3
  exact x3
theorem m_pair {h : jH} {o : Nat} {L : List Int} {v : Int} (hL : MIm h o L) (hn : L.length + 2 ≤ 547) (h0 : 0 ≤ v) (h1 : v < 65536) : ∃ h', M_writesTwo h o v = some h' ∧ MIf o h h' ∧ MIm h' o (L ++ spTwo v) := by
  unfold M_writesTwo
  rw [Int.tdiv_eq_ediv_of_nonneg h0, Int.tmod_eq_emod_of_nonneg h0, pw (x := v / 256) (by omega) (by omega)]
  obtain ⟨g, e1, e2, e3⟩ := m_oct1 (v := v / 256) hL (by omega)
  rw [e1]
  simp only [Option.bind_some]
  obtain ⟨g2, x1, x2, x3⟩ := m_oct1 (v := v % 256) e3 (by rw [List.length_append]; show L.length + 1 < 547; omega)
  rw [x1]
  refine ⟨g2, rfl, e2.tr x2, ?_⟩
  rw [List.append_assoc] at x3
  unfold spTwo
  rw [show v / 256 % 256 = v / 256 by omega]
  exact x3
theorem RC.octet {h : jH} {k : Int} {L : List Int} (hL : CIm h o0 L) : G_octet h o0 k = some (spDOct k L) := by
  obtain ⟨c1, c2, c3⟩ := hL
  unfold G_octet spDOct
  rw [c1, g_cell]
  by_cases a : k < (L.length : Int)
  rotate_left
  · rw [if_neg a, if_neg (by omega)]
  rw [if_pos a]
  simp only [Option.bind_some]
  by_cases a0 : 0 ≤ k
  rotate_left
  · rw [if_neg (by omega), if_neg (by omega)]
  rw [if_pos (by omega), if_pos ⟨a0, a⟩]
  have hlt : k.toNat < L.length := by omega
  rw [c3 k.toNat _ (List.getElem?_eq_getElem hlt), List.getD_eq_getElem?_getD, List.getElem?_eq_getElem hlt, Option.getD_some]
theorem RM.octet {h : jH} {o : Nat} {k : Int} {L : List Int} (hL : MIm h o L) : M_octet h o k = some (spDOct k L) := by
  obtain ⟨c1, c2, c3⟩ := hL
  unfold M_octet M_octet_p21 spDOct
  rw [c1]
  by_cases a0 : k < 0
  · rw [if_pos a0, if_neg (by omega)]
  rw [if_neg a0]
  by_cases a : k < (L.length : Int)
  rotate_left
  · rw [if_neg a, if_neg (by omega)]
  rw [if_pos a, if_pos (by omega), if_pos ⟨by omega, a⟩]
  have hlt : k.toNat < L.length := by omega
  rw [c3 k.toNat _ (List.getElem?_eq_getElem hlt), List.getD_eq_getElem?_getD, List.getElem?_eq_getElem hlt, Option.getD_some]
theorem c_ckIm {h : jH} {L : List Int} (hL : CIm h o0 L) (hr : ∀ v ∈ L, 0 ≤ v ∧ v < 256) : G_checkOf h 139 (o0 + 2) 547 0 (h o0 3) = some (spCk L 139) := by
  obtain ⟨c1, c2, c3⟩ := hL
  have h1 := g_chk (h := h) (r := o0 + 2) (n := 547) (b := fun j => h (o0 + 2) j) L.length 0 0 139 (by decide) (by decide) (by omega) (by decide) (fun j hj => ⟨rfl, by
    have := c3 j _ (List.getElem?_eq_getElem hj)
    rw [Nat.zero_add]
    show 0 ≤ h (o0 + 2) j ∧ h (o0 + 2) j < 256
    rw [this]
    exact hr _ (List.getElem_mem hj)⟩)
  rw [Nat.zero_add] at h1
  rw [c1]
  rw [show ((0 : Nat) : Int) = 0 from rfl] at h1
  rw [h1]
  congr 1
  exact spChk_list L 0 139 (fun j v hj => by rw [Nat.zero_add]; exact c3 j v hj)
theorem m_ckIm {h : jH} {o : Nat} {L : List Int} (hL : MIm h o L) (hr : ∀ v ∈ L, 0 ≤ v ∧ v < 256) : M_checked h (o + 68) 547 (h o 109) = some (spCk L 139) := by
  obtain ⟨c1, c2, c3⟩ := hL
  unfold M_checked M_checked_L6
  rw [c1]
  obtain ⟨⟨u, i⟩, ⟨e1, e2, e4⟩, e3⟩ := jloop_k (f := fun s : (Int × Int) => M_checked_B6 h (o + 68) 547 (L.length : Int) s.1 s.2) (fun i s => s.2 = (i : Int) ∧ spCk (L.drop i) s.1 = spCk L 139 ∧ 0 ≤ s.1 ∧ s.1 < 251) L.length (fun i s hi hp => by
    obtain ⟨x, y⟩ := s
    obtain ⟨p1, p2, p3, p4⟩ := hp
    dsimp only at p1 p2 p3 p4
    subst p1
    have hb := hr _ (List.getElem_mem hi)
    have hw := c3 i _ (List.getElem?_eq_getElem hi)
    rw [List.drop_eq_getElem_cons hi] at p2
    refine ⟨((3 * x + L[i]) % 251, ((i + 1 : Nat) : Int)), ?_, rfl, p2, by show 0 ≤ (3 * x + L[i]) % 251; omega, by show (3 * x + L[i]) % 251 < 251; omega⟩
    show M_checked_B6 h (o + 68) 547 (L.length : Int) x (i : Int) = _
    unfold M_checked_B6
    rw [if_pos (by omega), if_pos (by omega), Int.toNat_natCast, hw, pw (x := 3 * x) (by omega) (by omega), pw (x := 3 * x + L[i]) (by omega) (by omega), Int.tmod_eq_emod_of_nonneg (by omega), pw (x := (i : Int) + 1) (by omega) (by omega)]
    rfl) (k := 0) (s := ((139 : Int), (0 : Int))) (by omega) ⟨rfl, rfl, by decide, by decide⟩
  dsimp only at e1 e2 e4
  rw [e3]
  subst e1
  refine jloop_r ?_
  show M_checked_B6 h (o + 68) 547 (L.length : Int) u (L.length : Int) = _
  unfold M_checked_B6
  rw [if_neg (by omega), ← e2, List.drop_length]
  rfl
theorem RC.image {h : jH} (hk : spXk ns blk len b X) (r : RC T h o0 pl ns blk len p B X) : ∃ h', G_image T h o0 = some (((spIm ns len X.1).length : Int), h') ∧ CIf o0 h h' ∧ RC T h' o0 pl ns blk len p B X ∧ CIm h' o0 (spIm ns len X.1) := by
  have hd := hk.dim
  have hl := hd.len
  have hns := hd.1
  have hbd := (hd.adr (s := 0) (k := 0) (by omega) (by omega)).2
  have r0 := r
  obtain ⟨⟨r1, r2, r3, r4, r5, r6, r7⟩, c, n, q1, q2, q3, q4, q5, q6, q7⟩ := r
  have hq := q5.que
  have hi := hk.1.1.que
  have hD : CD h (o0 + 36) ns blk len X.1.1.1 X.1.1.2 := hq.2.2.2.2.2.2.1
  have hsn : h (o0 + 35) 7 = X.1.2.2.2.2.1.2.2.1 := hq.2.2.2.1
  have hsb : (∀ i, i < 16 → h (o0 + 54) i = X.1.2.2.2.2.1.2.1 i) ∧ (0 ≤ X.1.2.2.2.2.1.2.2.1 ∧ X.1.2.2.2.2.1.2.2.1 ≤ 700000) ∧ ∀ i, i < 16 → -1 ≤ X.1.2.2.2.2.1.2.1 i ∧ X.1.2.2.2.2.1.2.1 i < 1000 := by
    have hI := hk.1.1
    generalize X.1 = s at q5 hI ⊢
    obtain ⟨⟨D, C⟩, ⟨F, lf⟩, ⟨q, fl, first⟩, ⟨wt, kp⟩, ⟨tab, stab, snap, tops⟩, ⟨sg, at', ser, gr, hl, tk⟩⟩ := s
    obtain ⟨c1, c2, c3, c4, ⟨t1, t2, t3, t4⟩, p1⟩ := q5
    obtain ⟨i1, i2, i3, i4, i5, i6, i7⟩ := hI
    exact ⟨t2, by show 0 ≤ snap ∧ snap ≤ 700000; omega, i5.2⟩
  have hIn : ∀ v ∈ spImB ns len X.1, 0 ≤ v ∧ v < 256 := fun v hv => by
    unfold spImB at hv
    rcases List.mem_append.mp hv with e | e
    · rcases List.mem_append.mp e with e | e
      · exact spTwo_in v e
      · exact spPrs_in _ v e
    · exact spBts_in hi.2.2.2.2.2.2.1 _ (Nat.le_refl _) v e
  have hLen := spImB_len (ns := ns) (len := len) (s := X.1)
  unfold G_image
  rw [r0.told hd]
  simp only [Option.bind_some]
  rw [if_neg (by decide)]
  obtain ⟨h0, hh0⟩ : ∃ h0 : jH, h0 = jup h o0 3 0 := ⟨_, rfl⟩
  rw [← hh0]
  have f0 : CIf o0 h h0 := ⟨fun z z1 _ => by rw [hh0, jup_ne z1], fun f hf => by rw [hh0, ju_ne hf]⟩
  have l0 : CIm h0 o0 [] := ⟨by rw [hh0, ju_eq]; rfl, by simp, fun j v hj => by cases hj⟩
  rw [f0.1 _ (by omega) (by omega), hsn]
  obtain ⟨h1, e1, e2, e3⟩ := c_pair (v := X.1.2.2.2.2.1.2.2.1) l0 (by show 0 + 2 ≤ 547; omega) hsb.2.1.1 (by omega)
  rw [e1]
  simp only [Option.bind_some]
  rw [List.nil_append] at e3
  unfold G_image_L27
  obtain ⟨⟨i, h2⟩, ⟨w1, w2, w3⟩, w4⟩ := jloop_k (f := fun s : (Int × jH) => G_image_B27 T s.2 o0 s.1) (fun i s => s.1 = (i : Int) ∧ CIf o0 h s.2 ∧ CIm s.2 o0 (spTwo X.1.2.2.2.2.1.2.2.1 ++ spPrs X.1.2.2.2.2.1.2.1 i)) 16 (fun i s hi' hp => by
    obtain ⟨x, g⟩ := s
    obtain ⟨p1, p2, p3⟩ := hp
    dsimp only at p1 p2 p3
    subst p1
    have hv := hsb.2.2 i hi'
    have hlen : (spTwo X.1.2.2.2.2.1.2.2.1 ++ spPrs X.1.2.2.2.2.1.2.1 i).length = 2 + 2 * i := by rw [List.length_append, spPrs_len]; rfl
    obtain ⟨g', x1, x2, x3⟩ := c_pair (v := if X.1.2.2.2.2.1.2.1 i = -1 then 65535 else X.1.2.2.2.2.1.2.1 i) p3 (by omega) (by split <;> omega) (by split <;> omega)
    rw [List.append_assoc] at x3
    refine ⟨(((i + 1 : Nat) : Int), g'), ?_, rfl, p2.tr x2, x3⟩
    show G_image_B27 T g o0 (i : Int) = _
    unfold G_image_B27 G_image_p58
    rw [if_pos (by omega), g_cellN hi', p2.1 _ (by omega) (by omega), hsb.1 i hi', pw (x := (i : Int) + 1) (by omega) (by omega)]
    simp only [Option.bind_some]
    by_cases e : X.1.2.2.2.2.1.2.1 i = -1
    · rw [if_pos e] at x1 ⊢
      rw [x1]; rfl
    · rw [if_neg e] at x1 ⊢
      rw [x1]; rfl) (k := 0) (s := ((0 : Int), h1)) (by decide) ⟨rfl, f0.tr e2, by show CIm h1 o0 (spTwo _ ++ []); rw [List.append_nil]; exact e3⟩
  dsimp only at w1 w2 w3
  rw [w4]
  subst w1
  have hD2 : ∀ g : jH, CIf o0 h g → CD g (o0 + 36) ns blk len X.1.1.1 X.1.1.2 := fun g hg => hD.fr (hg.1 _ (by omega) (by omega)) (hg.1 _ (by omega) (by omega)) (hg.1 _ (by omega) (by omega))
  have hmul : wr ((ns : Int) * (len : Int)) = ((ns * len : Nat) : Int) := by rw [show (ns : Int) * (len : Int) = ((ns * len : Nat) : Int) by rw [Int.natCast_mul], pw (by omega) (by omega)]
  have hloop : ∃ h', G_image_L69 T h2 o0 0 = some (((spIm ns len X.1).length : Int), h') ∧ CIf o0 h h' ∧ CIm h' o0 (spIm ns len X.1) := by
    unfold G_image_L69
    obtain ⟨⟨i, h3⟩, ⟨v1, v2, v3⟩, v4⟩ := jloop_k (f := fun s : (Int × jH) => G_image_B69 T s.2 o0 s.1) (fun i s => s.1 = (i : Int) ∧ CIf o0 h s.2 ∧ CIm s.2 o0 (spTwo X.1.2.2.2.2.1.2.2.1 ++ spPrs X.1.2.2.2.2.1.2.1 16 ++ spBts len X.1.1.1 i)) (ns * len) (fun i s hi' hp => by
      obtain ⟨x, g⟩ := s
      obtain ⟨p1, p2, p3⟩ := hp
      dsimp only at p1 p2 p3
      subst p1
      obtain ⟨d1, d2, d3⟩ := sp_dm hi'
      have hlen : (spTwo X.1.2.2.2.2.1.2.2.1 ++ spPrs X.1.2.2.2.2.1.2.1 16 ++ spBts len X.1.1.1 i).length = 34 + i := by rw [List.length_append, List.length_append, spPrs_len, spBts_len]; rfl
      obtain ⟨g', x1, x2, x3⟩ := c_oct1 (v := X.1.1.1 (i / len) (i % len)) p3 (by omega)
      rw [List.append_assoc] at x3
      refine ⟨(((i + 1 : Nat) : Int), g'), ?_, rfl, p2.tr x2, x3⟩
      show G_image_B69 T g o0 (i : Int) = _
      have hDg := hD2 g p2
      have hcell : g (o0 + 37) i = X.1.1.1 (i / len) (i % len) := by
        have := hDg.2.2.2.1 (i / len) (i % len) d1 d2
        rw [d3] at this
        exact this
      unfold G_image_B69 Di_total
      rw [hDg.1, hDg.2.1, hmul]
      simp only [Option.bind_some]
      rw [if_pos (by omega), g_cellN (by omega), hcell]
      simp only [Option.bind_some]
      rw [x1]
      simp only [Option.bind_some]
      rw [pw (by omega) (by omega)]
      rfl) (k := 0) (s := ((0 : Int), h2)) (by omega) ⟨rfl, w2, by show CIm h2 o0 (_ ++ []); rw [List.append_nil]; exact w3⟩
    dsimp only at v1 v2 v3
    rw [v4]
    subst v1
    obtain ⟨g', x1, x2, x3⟩ := c_oct1 (v := spCk (spImB ns len X.1) 139) v3 (by show (spImB ns len X.1).length < 547; omega)
    refine ⟨g', jloop_r ?_, v2.tr x2, x3⟩
    show G_image_B69 T h3 o0 ((ns * len : Nat) : Int) = _
    unfold G_image_B69 Di_total
    rw [(hD2 h3 v2).1, (hD2 h3 v2).2.1, hmul]
    simp only [Option.bind_some]
    rw [if_neg (by omega), c_ckIm v3 hIn]
    simp only [Option.bind_some]
    rw [show G_addOctet h3 o0 (spCk (spTwo X.1.2.2.2.2.1.2.2.1 ++ spPrs X.1.2.2.2.2.1.2.1 16 ++ spBts len X.1.1.1 (ns * len)) 139) = _ from x1]
    simp only [Option.bind_some]
    rw [x3.1]
    rfl
  obtain ⟨h', x1, x2, x3⟩ := hloop
  refine ⟨h', jloop_x ?_ |>.trans x1, x2, r0.off (fun z hz => x2.1 z (by omega) (by omega)) (fun f hf => x2.2 f (by omega)), x3⟩
  show G_image_B27 T h2 o0 ((16 : Nat) : Int) = _
  unfold G_image_B27
  rw [if_neg (by decide)]
end IMG
