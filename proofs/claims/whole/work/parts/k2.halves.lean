/-! the two halves: all that the class holds, all that the reference holds -/
/-- tape, what was seen, the image, the seed, the latest fault -/
abbrev spG : Type := List Int × spSn × List Int × Int × Int × Int
def spGok (g : spG) : Prop := spByt g.1 ∧ spSok g.2.1 ∧ 0 ≤ g.2.2.2.1 ∧ g.2.2.2.1 < 2147483648
def CAl (T : jT) (h : jH) (o0 pl pd : Nat) (g : spG) : Prop := (CTn T o0 ∧ PLs o0 pl pd) ∧ h o0 8 = (pl : Int) ∧ h (o0 + 17) 0 = (pd : Int) ∧ CTa h o0 g.1 ∧ CSn h o0 g.2.1 ∧ CIm h o0 g.2.2.1 ∧ h o0 5 = g.2.2.2.1 ∧ h (o0 + 17) 3 = g.2.2.2.2.1 ∧ h (o0 + 17) 4 = g.2.2.2.2.2
def MAl (h : jH) (o : Nat) (g : spG) : Prop := (MWd h o ∧ MWj h o ∧ MWq h o) ∧ CTa h o g.1 ∧ MSn h o g.2.1 ∧ MIm h o g.2.2.1 ∧ h o 75 = g.2.2.2.1 ∧ h o 7 = g.2.2.2.2.1 ∧ h o 8 = g.2.2.2.2.2
/-- the class, a journal told -/
def CHt (T : jT) (h : jH) (o0 pl pd ns bm blk len B : Nat) (p : spPl) (nz : Int) (X : spX) (g : spG) : Prop := CAl T h o0 pl pd g ∧ RC T h o0 pl ns blk len p B X ∧ h pl 1 = (bm : Int) ∧ h pl 2 = (blk : Int) ∧ h pl 3 = nz
/-- the reference, a journal told -/
def MHt (h : jH) (o ns blk len : Nat) (p : spPl) (nz : Int) (X : spX) (g : spG) : Prop := MAl h o g ∧ RM h o ns blk len p X ∧ h (o + 28) 9 = nz
/-- the class, no journal told yet -/
def UCs (h : jH) (o0 : Nat) : Prop := (h (o0 + 36) 2 = 0 ∧ h (o0 + 36) 3 = 0 ∧ ∀ i, i < 512 → h (o0 + 38) i = 0) ∧ (h (o0 + 35) 7 = 0 ∧ h (o0 + 35) 9 = 0 ∧ h (o0 + 35) 14 = 0) ∧ (h (o0 + 39) 2 = 0 ∧ h (o0 + 39) 3 = 0) ∧ (h (o0 + 42) 4 = 0 ∧ h (o0 + 42) 5 = 0 ∧ h (o0 + 42) 6 = 0) ∧ (h (o0 + 47) 2 = 0 ∧ h (o0 + 47) 6 = 0) ∧ ∀ i, i < 16 → h (o0 + 53) i = -1
def CHu (T : jT) (h : jH) (o0 pl pd : Nat) (rf : Nat → Int) (g : spG) : Prop := CAl T h o0 pl pd g ∧ h pl 0 = 0 ∧ UCs h o0 ∧ h o0 13 = 0 ∧ (∃ c : Nat, h o0 14 = (c : Int) ∧ c < 20) ∧ ∀ i, i < 7 → h (o0 + 3) i = rf i
/-- the reference, no journal told yet -/
def MHu (h : jH) (o : Nat) (rf : Nat → Int) (g : spG) : Prop := MAl h o g ∧ (h o 43 = 0 ∧ h (o + 28) 5 = 0 ∧ h (o + 28) 6 = 0 ∧ ∀ i, i < 2365 → h (o + 33) i = 0) ∧ h o 73 = 0 ∧ (h o 52 = -1 ∧ h o 56 = 0 ∧ jI32 (h o 53)) ∧ (∃ m : Nat, h o 74 = (m : Int) ∧ m < 20) ∧ ∀ i, i < 7 → h (o + 2) i = rf i
theorem CTa.e {h h' : jH} {o : Nat} {tp : List Int} (m : CTa h o tp) (e1 : h' o 1 = h o 1) (e2 : h' (o + 1) = h (o + 1)) : CTa h' o tp := ⟨e1.trans m.1, m.2.1, fun j v hj => by rw [e2]; exact m.2.2 j v hj⟩
theorem CSn.e {h h' : jH} {o0 : Nat} {sn : spSn} (m : CSn h o0 sn) (e1 : h' o0 7 = h o0 7) (e2 : h' (o0 + 4) = h (o0 + 4)) : CSn h' o0 sn := by unfold CSn; rw [e1, e2]; exact m
theorem MSn.e {h h' : jH} {o : Nat} {sn : spSn} (m : MSn h o sn) (e1 : h' o 66 = h o 66) (e2 : h' (o + 38) = h (o + 38)) : MSn h' o sn := by unfold MSn; rw [e1, e2]; exact m
theorem CIm.e {h h' : jH} {o0 : Nat} {L : List Int} (m : CIm h o0 L) (e1 : h' o0 3 = h o0 3) (e2 : h' (o0 + 2) = h (o0 + 2)) : CIm h' o0 L := by unfold CIm; rw [e1, e2]; exact m
theorem MIm.e {h h' : jH} {o : Nat} {L : List Int} (m : MIm h o L) (e1 : h' o 109 = h o 109) (e2 : h' (o + 68) = h (o + 68)) : MIm h' o L := by unfold MIm; rw [e1, e2]; exact m
section HLV
variable {T : jT} {h h' : jH} {o0 pl pd o ns bm blk len B : Nat} {p : spPl} {nz : Int} {X : spX} {g : spG} {rf : Nat → Int}
theorem CAl.e (a : CAl T h o0 pl pd g) (e : ∀ z, z = o0 + 1 ∨ z = o0 + 2 ∨ z = o0 + 4 ∨ z = o0 + 17 → h' z = h z) (ef : ∀ f, f = 1 ∨ f = 3 ∨ f = 5 ∨ f = 7 ∨ f = 8 → h' o0 f = h o0 f) : CAl T h' o0 pl pd g := by
  obtain ⟨a1, a2, a3, a4, a5, a6, a7, a8, a9⟩ := a
  exact ⟨a1, by rw [ef 8 (by omega)]; exact a2, by rw [e _ (by omega)]; exact a3, a4.e (ef 1 (by omega)) (e _ (by omega)), a5.e (ef 7 (by omega)) (e _ (by omega)), a6.e (ef 3 (by omega)) (e _ (by omega)), by rw [ef 5 (by omega)]; exact a7, by rw [e _ (by omega)]; exact a8, by rw [e _ (by omega)]; exact a9⟩
theorem MAl.e (a : MAl h o g) (e : ∀ z, z = o + 1 ∨ (o + 3 ≤ z ∧ z ≤ o + 27) ∨ z = o + 38 ∨ (o + 43 ≤ z ∧ z ≤ o + 64) ∨ z = o + 68 → h' z = h z) (ef : ∀ f, f = 1 ∨ f = 7 ∨ f = 8 ∨ f = 66 ∨ f = 75 ∨ f = 109 → h' o f = h o f) : MAl h' o g := by
  obtain ⟨⟨a1, a2, a3⟩, a4, a5, a6, a7, a8, a9⟩ := a
  refine ⟨⟨a1.e (fun z z1 z2 => e z (by omega)), ?_, a3.e (fun z z1 z2 => e z (by omega))⟩, a4.e (ef 1 (by omega)) (e _ (by omega)), a5.e (ef 66 (by omega)) (e _ (by omega)), a6.e (ef 109 (by omega)) (e _ (by omega)), by rw [ef 75 (by omega)]; exact a7, by rw [ef 7 (by omega)]; exact a8, by rw [ef 8 (by omega)]; exact a9⟩
  obtain ⟨b1, b2, b3, b4, b5, b6, b7, b8⟩ := a2
  exact ⟨b1.e (e _ (by omega)), b2.e (e _ (by omega)), b3.e (e _ (by omega)), b4.e (e _ (by omega)), b5.e (e _ (by omega)), b6.e (e _ (by omega)), b7.e (e _ (by omega)), b8.e (e _ (by omega))⟩
/-- the class's own objects lie ahead of o0 + 505 -/
theorem RC.gen (r : RC T h o0 pl ns blk len p B X) (e : ∀ z, (pl ≤ z ∧ z ≤ pl + 8) ∨ (o0 + 35 ≤ z ∧ z ≤ o0 + 55) ∨ (o0 + 85 ≤ z ∧ z < o0 + 505) → h' z = h z) (ef : ∀ f, f = 8 ∨ f = 13 ∨ f = 14 → h' o0 f = h o0 f) (er : ∀ i, i < 7 → h' (o0 + 3) i = rf i) : RC T h' o0 pl ns blk len p B (X.1, X.2.1, rf) := by
  obtain ⟨⟨r1, r2, r3, r4, r5, r6, r7⟩, c, n, q1, q2, q3, q4, q5, q6, q7⟩ := r
  exact ⟨⟨r1, r2, r3, by rw [ef 8 (by omega)]; exact r4, by rw [e _ (by omega)]; exact r5, CPl.eq r6 (fun z z1 z2 => e z (by omega)), er⟩, c, n, by rw [ef 14 (by omega)]; exact q1, q2, by rw [ef 13 (by omega)]; exact q3, q4.eq (fun z z1 z2 => e z (by omega)), q5.eq (fun z z1 z2 => e z (by omega)), q6, by rw [e _ (by omega)]; exact q7⟩
theorem CHt.lo (a : CHt T h o0 pl pd ns bm blk len B p nz X g) (e : ∀ z, z < o0 + 505 → h' z = h z) : CHt T h' o0 pl pd ns bm blk len B p nz X g := by
  have hp := a.1.1.2.pos
  refine ⟨a.1.e (fun z hz => e z (by omega)) (fun f _ => by rw [e o0 (by omega)]), ?_, by rw [e _ (by omega)]; exact a.2.2.1, by rw [e _ (by omega)]; exact a.2.2.2.1, by rw [e _ (by omega)]; exact a.2.2.2.2⟩
  exact a.2.1.gen (fun z hz => e z (by omega)) (fun f _ => by rw [e o0 (by omega)]) (fun i hi => by rw [e _ (by omega)]; exact a.2.1.1.2.2.2.2.2.2 i hi)
theorem CHu.lo (a : CHu T h o0 pl pd rf g) (e : ∀ z, z < o0 + 505 → h' z = h z) : CHu T h' o0 pl pd rf g := by
  have hp := a.1.1.2.pos
  obtain ⟨a1, a2, ⟨⟨u1, u2, u3⟩, ⟨u4, u5, u6⟩, ⟨u7, u8⟩, ⟨u9, u10, u11⟩, ⟨u12, u13⟩, u14⟩, a4, a5, a6⟩ := a
  exact ⟨a1.e (fun z hz => e z (by omega)) (fun f _ => by rw [e o0 (by omega)]), by rw [e _ (by omega)]; exact a2, ⟨⟨by rw [e _ (by omega)]; exact u1, by rw [e _ (by omega)]; exact u2, fun i hi => by rw [e _ (by omega)]; exact u3 i hi⟩, ⟨by rw [e _ (by omega)]; exact u4, by rw [e _ (by omega)]; exact u5, by rw [e _ (by omega)]; exact u6⟩, ⟨by rw [e _ (by omega)]; exact u7, by rw [e _ (by omega)]; exact u8⟩, ⟨by rw [e _ (by omega)]; exact u9, by rw [e _ (by omega)]; exact u10, by rw [e _ (by omega)]; exact u11⟩, ⟨by rw [e _ (by omega)]; exact u12, by rw [e _ (by omega)]; exact u13⟩, fun i hi => by rw [e _ (by omega)]; exact u14 i hi⟩, by rw [e _ (by omega)]; exact a4, by rw [e o0 (by omega)]; exact a5, fun i hi => by rw [e _ (by omega)]; exact a6 i hi⟩
theorem MHt.hi (a : MHt h o ns blk len p nz X g) (e : ∀ z, o ≤ z → h' z = h z) : MHt h' o ns blk len p nz X g :=
  ⟨a.1.e (fun z hz => e z (by omega)) (fun f _ => by rw [e o (by omega)]), a.2.1.off (fun z hz => e z (by omega)) (fun f _ => by rw [e o (by omega)]), by rw [e _ (by omega)]; exact a.2.2⟩
theorem MHu.hi (a : MHu h o rf g) (e : ∀ z, o ≤ z → h' z = h z) : MHu h' o rf g := by
  obtain ⟨a1, ⟨u1, u2, u3, u4⟩, a3, ⟨u5, u6, u7⟩, a5, a6⟩ := a
  exact ⟨a1.e (fun z hz => e z (by omega)) (fun f _ => by rw [e o (by omega)]), ⟨by rw [e _ (by omega)]; exact u1, by rw [e _ (by omega)]; exact u2, by rw [e _ (by omega)]; exact u3, fun i hi => by rw [e _ (by omega)]; exact u4 i hi⟩, by rw [e _ (by omega)]; exact a3, ⟨by rw [e _ (by omega)]; exact u5, by rw [e _ (by omega)]; exact u6, by rw [e _ (by omega)]; exact u7⟩, by rw [e o (by omega)]; exact a5, fun i hi => by rw [e _ (by omega)]; exact a6 i hi⟩
/-- a call of the class: its half goes on, the other's objects stay -/
def CSt2 (T : jT) (o0 pl pd ns bm blk len B : Nat) (p : spPl) (nz : Int) (X : spX) (g : spG) (h : jH) (h' : jH) : Prop := (∀ z, o0 + 505 ≤ z → h' z = h z) ∧ CHt T h' o0 pl pd ns bm blk len B p nz X g
def MSt2 (o ns blk len : Nat) (p : spPl) (nz : Int) (X : spX) (g : spG) (h : jH) (h' : jH) : Prop := (∀ z, z < o → h' z = h z) ∧ MHt h' o ns blk len p nz X g
theorem CAl.f (a : CAl T h o0 pl pd g) (f : RCf o0 pl h h') : CAl T h' o0 pl pd g := by
  have hp := a.1.2.pos
  exact a.e (fun z hz => f.1 z (by omega) (by omega) (by omega) (by omega)) (fun k hk => f.2 k (by omega) (by omega))
theorem CHt.f {X' : spX} {B' : Nat} (a : CHt T h o0 pl pd ns bm blk len B p nz X g) (f : RCf o0 pl h h') (r : RC T h' o0 pl ns blk len p B' X') : CSt2 T o0 pl pd ns bm blk len B' p nz X' g h h' := by
  have hp := a.1.1.2.pos
  have epl : h' pl = h pl := f.1 pl (by omega) (by omega) (by omega) (by omega)
  exact ⟨fun z hz => f.1 z (by omega) (by omega) (by omega) (by omega), a.1.f f, r, by rw [epl]; exact a.2.2.1, by rw [epl]; exact a.2.2.2.1, by rw [epl]; exact a.2.2.2.2⟩
theorem MAl.f (a : MAl h o g) (f : RMf o h h') : MAl h' o g := a.e (fun z hz => f.1 z (by omega) (by omega) (by omega) (by omega) (by omega) (by omega) (by omega) (by omega) (by omega)) (fun k hk => f.2 k (by omega) (by omega) (by omega) (by omega) (by omega) (by omega) (by omega) (by omega) (by omega) (by omega) (by omega) (by omega) (by omega))
theorem MHt.f {X' : spX} (a : MHt h o ns blk len p nz X g) (f : RMf o h h') (r : RM h' o ns blk len p X') : MSt2 o ns blk len p nz X' g h h' :=
  ⟨fun z hz => f.1 z (by omega) (by omega) (by omega) (by omega) (by omega) (by omega) (by omega) (by omega) (by omega), a.1.f f, r, by rw [f.1 _ (by omega) (by omega) (by omega) (by omega) (by omega) (by omega) (by omega) (by omega) (by omega)]; exact a.2.2⟩
theorem CHt.same (a : CHt T h o0 pl pd ns bm blk len B p nz X g) : CSt2 T o0 pl pd ns bm blk len B p nz X g h h := ⟨fun _ _ => rfl, a⟩
theorem MHt.same (a : MHt h o ns blk len p nz X g) : MSt2 o ns blk len p nz X g h h := ⟨fun _ _ => rfl, a⟩
theorem MS.eq3 {kpm : spKp} {s : spSt} (hs : MS h o ns blk len kpm s) (e5 : h' (o + 28) 5 = h (o + 28) 5) (e6 : h' (o + 28) 6 = h (o + 28) 6) (e7 : h' (o + 28) 7 = h (o + 28) 7) (e2 : h' (o + 33) = h (o + 33)) : MS h' o ns blk len kpm s := by
  obtain ⟨⟨D, C⟩, ⟨F, lf⟩, ⟨q, fl, first⟩, ⟨wt, kp⟩, ⟨tab, stab, snap, tops⟩, ⟨sg, at', ser, gr, hl, tk⟩⟩ := s
  unfold MS MD at hs ⊢
  rw [e5, e6, e7, e2]; exact hs
theorem MPl1.eq3 {w : Nat} {cs d : List Int} (a : MPl1 h o w cs d) (e1 : h' (o + 30) (2 + w) = h (o + 30) (2 + w)) (e2 : h' (o + 31) (2 + w) = h (o + 31) (2 + w)) (e3 : ∀ i, 1600 ≤ i → h' (o + 32) i = h (o + 32) i) : MPl1 h' o w cs d := by
  rcases a with ⟨fr, a1, a2, a3, a4⟩ | ⟨a1, a2⟩
  · exact Or.inl ⟨fr, a1, by rw [e1]; exact a2, by rw [e2]; exact a3, fun i c hc => by rw [e3 _ (by omega)]; exact a4 i c hc⟩
  · exact Or.inr ⟨by rw [e1]; exact a1, a2⟩
theorem RM.gen (r : RM h o ns blk len p X) (e28 : ∀ i, i = 5 ∨ i = 6 ∨ i = 7 → h' (o + 28) i = h (o + 28) i) (e30 : ∀ i, 2 ≤ i → h' (o + 30) i = h (o + 30) i ∧ h' (o + 31) i = h (o + 31) i) (e32 : ∀ i, 1600 ≤ i → h' (o + 32) i = h (o + 32) i) (e33 : h' (o + 33) = h (o + 33)) (e42 : h' (o + 42) = h (o + 42)) (ef : ∀ f, f = 43 ∨ f = 52 ∨ f = 53 ∨ f = 56 ∨ f = 73 ∨ f = 74 → h' o f = h o f) (er : ∀ i, i < 7 → h' (o + 2) i = rf i) : RM h' o ns blk len p (X.1, X.2.1, rf) := by
  obtain ⟨⟨r1, r2, r3, r4, r5, r6⟩, m, q1, q2, q3, q4, q5, q6⟩ := r
  refine ⟨⟨by rw [ef 43 (by omega)]; exact r1, by rw [ef 52 (by omega)]; exact r2, by rw [ef 56 (by omega)]; exact r3, by rw [ef 53 (by omega)]; exact r4, ⟨r5.1.eq3 (e30 2 (by omega)).1 (e30 2 (by omega)).2 e32, r5.2.eq3 (e30 3 (by omega)).1 (e30 3 (by omega)).2 e32⟩, er⟩, m, by rw [ef 74 (by omega)]; exact q1, q2, by rw [ef 73 (by omega)]; exact q3, q4, fun j x hx => ?_, q6.eq3 (e28 5 (by omega)) (e28 6 (by omega)) (e28 7 (by omega)) e33⟩
  have := q5 j x hx
  unfold MSr at this ⊢
  refine this.eq3 (by rw [jrw_ne (by omega), jrw_ne (by omega), e28 5 (by omega)]) (by rw [jrw_ne (by omega), jrw_ne (by omega), e28 6 (by omega)]) (by rw [jrw_ne (by omega), jrw_ne (by omega), e28 7 (by omega)]) ?_
  rw [jrw_at, jrw_at]
  unfold MRow
  rw [e42]
end HLV
