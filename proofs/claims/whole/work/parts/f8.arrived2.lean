/-! what had arrived, what tells: the class's answers -/
section ARD
variable {T : jT} {o0 pl ns blk len B : Nat} {p : spPl} {X : spX} {b : Int}
theorem GAf.rc {h h' : jH} (hf : GAf o0 h h') (r : RC T h o0 pl ns blk len p B X) : RC T h' o0 pl ns blk len p B X := r.off (fun z hz => hf.1 z (by omega) (by omega) (by omega) (by omega) (by omega)) (fun f hf' => hf.2 f (by omega))
theorem RC.arrived {h : jH} {k : Int} {sn : spSn} (hS : CSn h o0 sn) (hok : spSok sn) (hk : spXk ns blk len b X) (r : RC T h o0 pl ns blk len p B X) : ∃ h', G_arrived T h o0 k = some (spDArrived ns blk len sn k X, h') ∧ GAf o0 h h' ∧ RC T h' o0 pl ns blk len p B X := by
  have hd := hk.dim
  have hF : X.1.2.1.1.length ≤ 512 := hk.1.1.que.2.2.2.2.2.2.2.1
  have hlen := spAr_len (ns := ns) (blk := blk) (len := len) (sn := sn) (s := X.1) (X.1.2.1.1.length + 1)
  have rfl' : GAf o0 h h := ⟨fun _ _ _ _ _ _ => rfl, fun _ _ => rfl⟩
  unfold G_arrived
  rw [r.told hd]
  rw [Option.bind_some, if_neg (by decide)]
  by_cases a : k < -1
  · rw [if_pos a]
    refine ⟨h, ?_, rfl', r⟩
    unfold spDArrived
    rw [if_neg (by omega), if_neg (by omega)]
  rw [if_neg a]
  obtain ⟨c, n, q1, q2, q3, q4, q5, q6, q7⟩ := r.2
  obtain ⟨g, e1, e2, e3, e4, e5⟩ := c_gather hd hk.1.1 q5 hS hok
  rw [e1, Option.bind_some, e3]
  refine ⟨g, ?_, e2, e2.rc r⟩
  unfold spDArrived
  by_cases a1 : k = -1
  · rw [if_pos a1, if_pos a1]
  rw [if_neg a1, if_neg a1]
  by_cases a2 : k < ((spArs ns blk len sn X.1).length : Int)
  rotate_left
  · rw [if_neg a2, if_neg (by omega)]
  rw [if_pos a2, if_pos ⟨by omega, a2⟩]
  have hlt : k.toNat < (spArs ns blk len sn X.1).length := by omega
  have hlen' : (spArs ns blk len sn X.1).length ≤ X.1.2.1.1.length + 1 := hlen
  have hc := g_cellN (h := g) (r := o0 + 83) (n := 513) (k := k.toNat) (by omega)
  rw [show (k.toNat : Int) = k by omega] at hc
  rw [hc, Option.bind_some, e4 k.toNat _ (List.getElem?_eq_getElem hlt), List.getD_eq_getElem?_getD, List.getElem?_eq_getElem hlt, Option.getD_some]
theorem c_mostL {h : jH} {L : List Nat} {g : Nat → Nat → Int} {q : Nat} (hq : q < 16) (hG : CGa h o0 L g) : G_mostLeft h o0 (q : Int) = some (spMxL (fun w => spCt (fun k => g k q) ((w : Int) - 1) L) 1001) := by
  obtain ⟨c1, c2, c3⟩ := hG
  unfold G_mostLeft G_mostLeft_L4
  obtain ⟨⟨u, i⟩, ⟨e1, e2⟩, e3⟩ := jloop_k (f := fun s : (Int × Int) => G_mostLeft_B4 h o0 (q : Int) s.1 s.2) (fun i s => s.2 = (i : Int) ∧ s.1 = spMxL (fun w => spCt (fun k => g k q) ((w : Int) - 1) L) i) 1001 (fun i s hi hp => by
    obtain ⟨x, y⟩ := s
    obtain ⟨p1, p2⟩ := hp
    dsimp only at p1 p2
    subst p1
    refine ⟨(spMxL (fun w => spCt (fun k => g k q) ((w : Int) - 1) L) (i + 1), ((i + 1 : Nat) : Int)), ?_, rfl, rfl⟩
    show G_mostLeft_B4 h o0 (q : Int) x (i : Int) = some (Sum.inl (max (spMxL (fun w => spCt (fun k => g k q) ((w : Int) - 1) L) i) (spCt (fun k => g k q) ((i : Int) - 1) L), ((i + 1 : Nat) : Int)))
    obtain ⟨ad, had⟩ : ∃ ad : Nat, ad = 1001 * q + i := ⟨_, rfl⟩
    have had2 : ad < 16016 := by omega
    have hix : wr (wr ((q : Int) * 1001) + (i : Int)) = (ad : Int) := by
      rw [pw (x := (q : Int) * 1001) (by omega) (by omega), pw (x := (q : Int) * 1001 + (i : Int)) (by omega) (by omega)]
      omega
    have hpi : wr ((i : Int) + 1) = ((i + 1 : Nat) : Int) := by
      rw [pw (by omega) (by omega)]; rfl
    have hcell := c3 q i hq hi
    rw [← had] at hcell
    unfold G_mostLeft_B4
    rw [if_neg (by omega), hix, g_cellN had2, Option.bind_some, hcell, hpi, p2]) (k := 0) (s := ((0 : Int), (0 : Int))) (by omega) ⟨rfl, rfl⟩
  dsimp only at e1 e2
  rw [e3]
  subst e1
  refine jloop_r ?_
  show G_mostLeft_B4 h o0 (q : Int) u ((1001 : Nat) : Int) = _
  unfold G_mostLeft_B4
  rw [if_pos (by omega), e2]
  rfl
theorem spTel_pos {f : Nat → Int} : ∀ n, (spTel f (n + 1)).1 ≠ -1 := by
  intro n
  induction n with
  | zero => show (if (-1 : Int) = -1 then (((0 : Nat) : Int), f 0) else _).1 ≠ -1; rw [if_pos rfl]; show ((0 : Nat) : Int) ≠ -1; omega
  | succ n ih =>
    show (if (spTel f (n + 1)).1 = -1 then (((n + 1 : Nat) : Int), f (n + 1)) else if f (n + 1) < (spTel f (n + 1)).2 then (((n + 1 : Nat) : Int), f (n + 1)) else spTel f (n + 1)).1 ≠ -1
    rw [if_neg ih]
    split
    · show ((n + 1 : Nat) : Int) ≠ -1; omega
    · exact ih
theorem RC.tells {h : jH} {v : Int} {sn : spSn} (hS : CSn h o0 sn) (hok : spSok sn) (hk : spXk ns blk len b X) (r : RC T h o0 pl ns blk len p B X) : ∃ h', G_tells T h o0 v = some (spDTells ns blk len sn v X, h') ∧ GAf o0 h h' ∧ RC T h' o0 pl ns blk len p B X := by
  have hd := hk.dim
  unfold G_tells
  rw [r.told hd]
  rw [Option.bind_some, if_neg (by decide)]
  obtain ⟨c, n, q1, q2, q3, q4, q5, q6, q7⟩ := r.2
  obtain ⟨g, e1, e2, e3⟩ := c_gather hd hk.1.1 q5 hS hok
  rw [e1, Option.bind_some]
  refine ⟨g, ?_, e2, e2.rc r⟩
  unfold spDTells
  have h18 := e3.1
  generalize spArs ns blk len sn X.1 = L at e3 h18 ⊢
  unfold G_tells_L20
  by_cases a : L = []
  · rw [if_pos a]
    refine jloop_x ?_
    show G_tells_B20 T g o0 v (-1) (-1) 0 = _
    unfold G_tells_B20 G_tells_p65
    rw [if_pos (by decide), h18, a, if_neg (by decide)]
    by_cases v0 : v = 0
    · rw [if_pos v0]
    rw [if_neg v0]
    by_cases v1 : v = 1
    · rw [if_pos v1]
    · rw [if_neg v1]
  rw [if_neg a]
  have hpos : 0 < (L.length : Int) := by
    cases L with
    | nil => exact absurd rfl a
    | cons x l => rw [List.length_cons]; omega
  obtain ⟨⟨u, w, i⟩, ⟨w1, w2, w3⟩, w4⟩ := jloop_k (f := fun s : (Int × Int × Int) => G_tells_B20 T g o0 v s.1 s.2.1 s.2.2) (fun i s => s.2.2 = (i : Int) ∧ s.1 = (spTel (spMst ns blk len X.1 L) i).1 ∧ s.2.1 = (spTel (spMst ns blk len X.1 L) i).2) 16 (fun i s hi hp => by
    obtain ⟨x, y, z⟩ := s
    obtain ⟨p1, p2, p3⟩ := hp
    dsimp only at p1 p2 p3
    subst p1
    refine ⟨((spTel (spMst ns blk len X.1 L) (i + 1)).1, (spTel (spMst ns blk len X.1 L) (i + 1)).2, ((i + 1 : Nat) : Int)), ?_, rfl, rfl, rfl⟩
    have hm : G_mostLeft g o0 (i : Int) = some (spMst ns blk len X.1 L i) := c_mostL hi e3
    have hst : spTel (spMst ns blk len X.1 L) (i + 1) = if (spTel (spMst ns blk len X.1 L) i).1 = -1 then ((i : Int), spMst ns blk len X.1 L i) else if spMst ns blk len X.1 L i < (spTel (spMst ns blk len X.1 L) i).2 then ((i : Int), spMst ns blk len X.1 L i) else spTel (spMst ns blk len X.1 L) i := rfl
    show G_tells_B20 T g o0 v x y (i : Int) = _
    unfold G_tells_B20 G_tells_p53
    rw [if_pos (by omega), h18, if_pos hpos, hm, Option.bind_some, p2, p3, hst, pw (x := (i : Int) + 1) (by omega) (by omega)]
    by_cases c1 : (spTel (spMst ns blk len X.1 L) i).1 = -1
    · rw [if_pos c1, if_pos c1]; rfl
    rw [if_neg c1, if_neg c1]
    by_cases c2 : spMst ns blk len X.1 L i < (spTel (spMst ns blk len X.1 L) i).2
    · rw [if_pos c2, if_pos c2]; rfl
    · rw [if_neg c2, if_neg c2]; rfl) (k := 0) (s := ((-1 : Int), (-1 : Int), (0 : Int))) (by decide) ⟨rfl, rfl, rfl⟩
  dsimp only at w1 w2 w3
  rw [w4]
  subst w1
  refine jloop_x ?_
  show G_tells_B20 T g o0 v u w ((16 : Nat) : Int) = _
  unfold G_tells_B20 G_tells_p65
  rw [if_neg (by decide), w2, w3]
  by_cases v0 : v = 0
  · rw [if_pos v0, if_pos v0]
  rw [if_neg v0, if_neg v0]
  by_cases v1 : v = 1
  · rw [if_pos v1, if_pos v1]
  · rw [if_neg v1, if_neg v1]
end ARD
