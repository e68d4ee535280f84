/-! a call before any journal was told -/
def WRu (T : jT) (h : jH) (o0 o : Nat) : Prop := ∃ (pl pd : Nat) (rf : Nat → Int) (g : spG), CHu T h o0 pl pd rf g ∧ MHu h o rf g ∧ spGok g
def WRz (T : jT) (h : jH) (o0 o k : Nat) : Prop := WRt T h o0 o k ∨ WRu T h o0 o
section UNT
variable {T : jT} {h h' : jH} {o0 o k pl pd : Nat} {g : spG} {rf : Nat → Int}
theorem CHu.told (U : CHu T h o0 pl pd rf g) : G_isTold T h o0 = some 0 := by
  unfold G_isTold
  rw [U.1.2.1, jdyn_at (U.1.1.1.pl U.1.1.2).1, Option.bind_some, U.2.1, if_neg (by decide)]
theorem CHu.rfu {kk : Nat} (U : CHu T h o0 pl pd rf g) (hk : kk < 7) : CHu T (jup h (o0 + 3) kk (wr (h (o0 + 3) kk + 1))) o0 pl pd (pu rf kk (wr (rf kk + 1))) g := by
  have hp := U.1.1.2.pos
  obtain ⟨a1, a2, ⟨⟨u1, u2, u3⟩, ⟨u4, u5, u6⟩, ⟨u7, u8⟩, ⟨u9, u10, u11⟩, ⟨u12, u13⟩, u14⟩, a4, a5, a6⟩ := U
  have e : ∀ z, z ≠ o0 + 3 → (jup h (o0 + 3) kk (wr (h (o0 + 3) kk + 1))) z = h z := fun z hz => jup_ne hz
  refine ⟨a1.e (fun z hz => e z (by omega)) (fun f _ => by rw [e o0 (by omega)]), by rw [e _ (by omega)]; exact a2, ⟨⟨by rw [e _ (by omega)]; exact u1, by rw [e _ (by omega)]; exact u2, fun i hi => by rw [e _ (by omega)]; exact u3 i hi⟩, ⟨by rw [e _ (by omega)]; exact u4, by rw [e _ (by omega)]; exact u5, by rw [e _ (by omega)]; exact u6⟩, ⟨by rw [e _ (by omega)]; exact u7, by rw [e _ (by omega)]; exact u8⟩, ⟨by rw [e _ (by omega)]; exact u9, by rw [e _ (by omega)]; exact u10, by rw [e _ (by omega)]; exact u11⟩, ⟨by rw [e _ (by omega)]; exact u12, by rw [e _ (by omega)]; exact u13⟩, fun i hi => by rw [e _ (by omega)]; exact u14 i hi⟩, by rw [e _ (by omega)]; exact a4, by rw [e o0 (by omega)]; exact a5, fun i hi => ?_⟩
  rw [ju_if, a6 kk hk]
  unfold pu
  split
  · rfl
  · exact a6 i hi
theorem MHu.rfu {kk : Nat} (V : MHu h o rf g) (hk : kk < 7) : MHu (jup h (o + 2) kk (wr (h (o + 2) kk + 1))) o (pu rf kk (wr (rf kk + 1))) g := by
  obtain ⟨a1, ⟨u1, u2, u3, u4⟩, a3, ⟨u5, u6, u7⟩, a5, a6⟩ := V
  have e : ∀ z, z ≠ o + 2 → (jup h (o + 2) kk (wr (h (o + 2) kk + 1))) z = h z := fun z hz => jup_ne hz
  refine ⟨a1.e (fun z hz => e z (by omega)) (fun f _ => by rw [e o (by omega)]), ⟨by rw [e _ (by omega)]; exact u1, by rw [e _ (by omega)]; exact u2, by rw [e _ (by omega)]; exact u3, fun i hi => by rw [e _ (by omega)]; exact u4 i hi⟩, by rw [e _ (by omega)]; exact a3, ⟨by rw [e _ (by omega)]; exact u5, by rw [e _ (by omega)]; exact u6, by rw [e _ (by omega)]; exact u7⟩, by rw [e o (by omega)]; exact a5, fun i hi => ?_⟩
  rw [ju_if, a6 kk hk]
  unfold pu
  split
  · rfl
  · exact a6 i hi
theorem CHu.tpe {tp : List Int} (U : CHu T h o0 pl pd rf g) (f : TPf o0 h h') (t : CTa h' o0 tp) : CHu T h' o0 pl pd rf (tp, g.2) := by
  have hp := U.1.1.2.pos
  obtain ⟨a1, a2, ⟨⟨u1, u2, u3⟩, ⟨u4, u5, u6⟩, ⟨u7, u8⟩, ⟨u9, u10, u11⟩, ⟨u12, u13⟩, u14⟩, a4, a5, a6⟩ := U
  have e : ∀ z, o0 + 1 < z → h' z = h z := fun z hz => f.1 z (by omega) (by omega)
  exact ⟨a1.tpe f t, by rw [e _ (by omega)]; exact a2, ⟨⟨by rw [e _ (by omega)]; exact u1, by rw [e _ (by omega)]; exact u2, fun i hi => by rw [e _ (by omega)]; exact u3 i hi⟩, ⟨by rw [e _ (by omega)]; exact u4, by rw [e _ (by omega)]; exact u5, by rw [e _ (by omega)]; exact u6⟩, ⟨by rw [e _ (by omega)]; exact u7, by rw [e _ (by omega)]; exact u8⟩, ⟨by rw [e _ (by omega)]; exact u9, by rw [e _ (by omega)]; exact u10, by rw [e _ (by omega)]; exact u11⟩, ⟨by rw [e _ (by omega)]; exact u12, by rw [e _ (by omega)]; exact u13⟩, fun i hi => by rw [e _ (by omega)]; exact u14 i hi⟩, by rw [f.2 13 (by omega)]; exact a4, by rw [f.2 14 (by omega)]; exact a5, fun i hi => by rw [e _ (by omega)]; exact a6 i hi⟩
theorem MHu.tpe {tp : List Int} (V : MHu h o rf g) (f : TPf o h h') (t : CTa h' o tp) : MHu h' o rf (tp, g.2) := by
  obtain ⟨a1, ⟨u1, u2, u3, u4⟩, a3, ⟨u5, u6, u7⟩, a5, a6⟩ := V
  have e : ∀ z, o + 1 < z → h' z = h z := fun z hz => f.1 z (by omega) (by omega)
  exact ⟨a1.tpe f t, ⟨by rw [f.2 43 (by omega)]; exact u1, by rw [e _ (by omega)]; exact u2, by rw [e _ (by omega)]; exact u3, fun i hi => by rw [e _ (by omega)]; exact u4 i hi⟩, by rw [f.2 73 (by omega)]; exact a3, ⟨by rw [f.2 52 (by omega)]; exact u5, by rw [f.2 56 (by omega)]; exact u6, by rw [f.2 53 (by omega)]; exact u7⟩, by rw [f.2 74 (by omega)]; exact a5, fun i hi => by rw [e _ (by omega)]; exact a6 i hi⟩
theorem CHu.t0 (U : CHu T h o0 pl pd rf g) : CHu T (jup h o0 1 0) o0 pl pd rf ([], g.2) := U.tpe ⟨fun z z1 _ => jup_ne z1, fun f hf => ju_ne hf⟩ (CTa.nil ju_eq)
theorem MHu.t0 (V : MHu h o rf g) : MHu (jup h o 1 0) o rf ([], g.2) := V.tpe ⟨fun z z1 _ => jup_ne z1, fun f hf => ju_ne hf⟩ (CTa.nil ju_eq)
/-- a refused call, behind it -/
theorem WRu.rfs {kk : Nat} (ho : o = o0 + 505) (hk : kk < 7) (hg : spGok g) (U : CHu T h o0 pl pd rf g) (V : MHu h o rf g) : WRu T (jup (jup h (o0 + 3) kk (wr (h (o0 + 3) kk + 1))) (o + 2) kk (wr ((jup h (o0 + 3) kk (wr (h (o0 + 3) kk + 1))) (o + 2) kk + 1))) o0 o :=
  ⟨pl, pd, _, g, (U.rfu hk).lo (fun z hz => jup_ne (by omega)), (V.hi (fun z hz => jup_ne (by omega))).rfu hk, hg⟩
/-- a refused call that empties the tape -/
theorem WRu.rf0 {kk : Nat} (ho : o = o0 + 505) (hk : kk < 7) (hg : spGok g) (U : CHu T h o0 pl pd rf g) (V : MHu h o rf g) : WRu T (jup (jup (jup (jup h o0 1 0) (o0 + 3) kk (wr ((jup h o0 1 0) (o0 + 3) kk + 1))) o 1 0) (o + 2) kk (wr ((jup (jup (jup h o0 1 0) (o0 + 3) kk (wr ((jup h o0 1 0) (o0 + 3) kk + 1))) o 1 0) (o + 2) kk + 1))) o0 o :=
  ⟨pl, pd, _, ([], g.2), (U.t0.rfu hk).lo (fun z hz => by rw [jup_ne (by omega), jup_ne (by omega)]), ((V.hi (fun z hz => by rw [jup_ne (by omega), jup_ne (by omega)])).t0).rfu hk, hg.nil⟩
theorem MHu.at (V : MHu h o rf g) {i : Nat} (hi : i < 2365) : h (o + 33) i = 0 := V.2.1.2.2.2 i hi
theorem u_run {v1 v2 : Int} (U : CHu T h o0 pl pd rf g) : G_runByRule T h o0 v1 v2 = some (-1, h) := by
  unfold G_runByRule
  rw [U.told, Option.bind_some, if_pos rfl]
theorem u_fc {r : Nat} {v : Int} (U : CHu T h o0 pl pd rf g) : FR_frameCount h r (o0 + 36) v = some (0, h) := by
  have e : Di_holds h (o0 + 36) v 0 = some 0 := by
    unfold Di_holds Di_holds_p28
    rw [U.2.2.1.1.1]
    by_cases c : v < 0
    · rw [if_pos c]
    · rw [if_neg c, if_neg c]
  unfold FR_frameCount Di_headStands Di_headStands_p50
  rw [e, Option.bind_some, if_pos rfl, Option.bind_some, if_pos rfl]
theorem u_isSeg {v : Int} (V : MHu h o rf g) : M_isSegment h o v = some 0 := by
  unfold M_isSegment M_isSegment_p27
  rw [if_pos V.2.1.1]
theorem u_ahead {v1 v2 v3 : Int} (V : MHu h o rf g) : M_isAhead h o v1 v2 v3 = some 0 := by
  unfold M_isAhead M_isAhead_p37
  rw [if_pos V.2.1.1]
theorem u_mrule {v1 v2 : Int} (V : MHu h o rf g) : M_rule h o v1 v2 = some (-1, h) := by
  unfold M_rule
  rw [if_pos V.2.1.1]
theorem u_cscar (U : CHu T h o0 pl pd rf g) : Di_scarCount h (o0 + 36) = some 0 := by
  unfold Di_scarCount Di_scarCount_L4
  have key : ∀ r j : Nat, r + j = 512 → jloop (fun s : (Int × Int) => Di_scarCount_B4 h (o0 + 36) s.1 s.2) (0, (j : Int)) = some 0 := by
    intro r
    induction r with
    | zero =>
      intro j hj
      refine jloop_r ?_
      show Di_scarCount_B4 h (o0 + 36) 0 (j : Int) = _
      unfold Di_scarCount_B4
      rw [if_neg (by omega)]
      rfl
    | succ r ih =>
      intro j hj
      refine (jloop_l (s' := (0, ((j + 1 : Nat) : Int))) ?_).trans (ih (j + 1) (by omega))
      show Di_scarCount_B4 h (o0 + 36) 0 (j : Int) = _
      unfold Di_scarCount_B4
      rw [if_pos (by omega), if_pos (by omega), Int.toNat_natCast, show h (o0 + 36 + 2) j = 0 from U.2.2.1.1.2.2 j (by omega), pw (x := (0 : Int) + 0) (by decide) (by decide), pw (x := (j : Int) + 1) (by omega) (by omega)]
      rfl
  exact key 512 0 rfl
theorem u_mscar (V : MHu h o rf g) : M_scarMany h o = some 0 := by
  unfold M_scarMany M_scarMany_L4
  have key : ∀ r j : Nat, r + j = 512 → jloop (fun s : (Int × Int) => M_scarMany_B4 h o s.1 s.2) (0, (j : Int)) = some 0 := by
    intro r
    induction r with
    | zero =>
      intro j hj
      refine jloop_r ?_
      show M_scarMany_B4 h o 0 (j : Int) = _
      unfold M_scarMany_B4
      rw [if_neg (by omega)]
      rfl
    | succ r ih =>
      intro j hj
      refine (jloop_l (s' := (0, ((j + 1 : Nat) : Int))) ?_).trans (ih (j + 1) (by omega))
      show M_scarMany_B4 h o 0 (j : Int) = _
      unfold M_scarMany_B4
      rw [if_pos (by omega), pw (x := 196 + (j : Int)) (by omega) (by omega), if_pos (by omega), show (196 + (j : Int)).toNat = 196 + j by omega, V.at (by omega), pw (x := (0 : Int) + 0) (by decide) (by decide), pw (x := (j : Int) + 1) (by omega) (by omega)]
      rfl
  exact key 512 0 rfl
theorem u_cbest {v : Int} (U : CHu T h o0 pl pd rf g) : G_best T h o0 v = some (-1, h) := by
  unfold G_best G_best_L7
  have key : ∀ r j : Nat, r + j = 9 → jloop (fun s : (Int × Int × Int × jH) => G_best_B7 T s.2.2.2 o0 v s.1 s.2.1 s.2.2.1) (-1, -1, (j : Int), h) = some (-1, h) := by
    intro r
    induction r with
    | zero =>
      intro j hj
      refine jloop_r ?_
      show G_best_B7 T h o0 v (-1) (-1) (j : Int) = _
      unfold G_best_B7
      rw [if_pos (by omega)]
      repeat' split
      all_goals rfl
    | succ r ih =>
      intro j hj
      refine (jloop_l (s' := (-1, -1, ((j + 1 : Nat) : Int), h)) ?_).trans (ih (j + 1) (by omega))
      show G_best_B7 T h o0 v (-1) (-1) (j : Int) = _
      unfold G_best_B7
      rw [if_neg (by omega), u_run U, Option.bind_some, if_pos rfl, pw (x := (j : Int) + 1) (by omega) (by omega)]
      rfl
  exact key 8 1 rfl
theorem u_mbest {v : Int} (V : MHu h o rf g) : M_best h o v = some (-1, h) := by
  unfold M_best M_best_L19
  rw [m_isIn, Option.bind_some]
  have key : ∀ r j : Nat, r + j = 9 → jloop (fun s : (Int × Int × Int × jH) => M_best_B19 s.2.2.2 o v s.1 s.2.1 s.2.2.1) (-1, -1, (j : Int), h) = some (-1, h) := by
    intro r
    induction r with
    | zero =>
      intro j hj
      refine jloop_r ?_
      show M_best_B19 h o v (-1) (-1) (j : Int) = _
      unfold M_best_B19
      rw [if_pos (by omega)]
      repeat' split
      all_goals rfl
    | succ r ih =>
      intro j hj
      refine (jloop_l (s' := (-1, -1, ((j + 1 : Nat) : Int), h)) ?_).trans (ih (j + 1) (by omega))
      show M_best_B19 h o v (-1) (-1) (j : Int) = _
      unfold M_best_B19
      rw [if_neg (by omega), u_mrule V, Option.bind_some, if_pos rfl, pw (x := (j : Int) + 1) (by omega) (by omega)]
      rfl
  by_cases c : 0 ≤ v ∧ v ≤ 1
  · rw [if_pos c, if_neg (by decide)]
    exact key 8 1 rfl
  · rw [if_neg c, if_pos rfl]
theorem wu_segment {v1 v2 : Int} (w : WRu T h o0 o) : ∃ v h1 h2, G_segment h o0 v1 v2 = some (v, h1) ∧ M_segment h1 o v1 v2 = some (v, h2) ∧ WRu T h2 o0 o := by
  obtain ⟨pl, pd, rf, g, U, V, hg⟩ := w
  have e1 : G_segment h o0 v1 v2 = some (-1, h) := by
    unfold G_segment
    rw [U.2.2.1.1.1]
    by_cases c : v1 < 0
    · rw [if_pos c]
    · rw [if_neg c, if_neg c]
  have e2 : M_segment h o v1 v2 = some (-1, h) := by
    unfold M_segment
    rw [u_isSeg V, Option.bind_some, if_pos rfl]
  exact ⟨_, h, h, e1, e2, pl, pd, rf, g, U, V, hg⟩
theorem wu_frame {v1 v2 v3 : Int} (w : WRu T h o0 o) : ∃ v h1 h2, G_frame h o0 v1 v2 v3 = some (v, h1) ∧ M_frame h1 o v1 v2 v3 = some (v, h2) ∧ WRu T h2 o0 o := by
  obtain ⟨pl, pd, rf, g, U, V, hg⟩ := w
  have e1 : G_frame h o0 v1 v2 v3 = some (-1, h) := by
    unfold G_frame
    by_cases c : v2 < 0
    · rw [if_pos c]
    · rw [if_neg c, u_fc U, Option.bind_some, if_neg c]
  have e2 : M_frame h o v1 v2 v3 = some (-1, h) := by
    unfold M_frame
    rw [u_isSeg V, Option.bind_some, if_pos rfl]
  exact ⟨_, h, h, e1, e2, pl, pd, rf, g, U, V, hg⟩
theorem wu_later {v1 v2 : Int} (w : WRu T h o0 o) : ∃ v h1 h2, G_later T h o0 v1 v2 = some (v, h1) ∧ M_later h1 o v1 v2 = some (v, h2) ∧ WRu T h2 o0 o := by
  obtain ⟨pl, pd, rf, g, U, V, hg⟩ := w
  have e1 : G_later T h o0 v1 v2 = some (-1, h) := by
    unfold G_later
    rw [U.told, Option.bind_some, if_pos rfl]
  have e2 : M_later h o v1 v2 = some (-1, h) := by
    unfold M_later
    rw [u_ahead V, Option.bind_some, if_pos rfl]
  exact ⟨_, h, h, e1, e2, pl, pd, rf, g, U, V, hg⟩
theorem wu_when {v1 : Int} (w : WRu T h o0 o) : ∃ v h1 h2, G_when T h o0 v1 = some (v, h1) ∧ M_when h1 o v1 = some (v, h2) ∧ WRu T h2 o0 o := by
  obtain ⟨pl, pd, rf, g, U, V, hg⟩ := w
  have e1 : G_when T h o0 v1 = some (-1, h) := by
    unfold G_when
    unfold Qu_behindLast
    rw [U.2.2.1.2.2.2.1.1, U.2.2.1.2.2.2.1.2.2, Option.bind_some, pw (x := (0 : Int) + 0) (by decide) (by decide)]
    by_cases c : v1 < 0
    · rw [if_pos c]
    · rw [if_neg c, if_neg (by omega)]
  have e2 : M_when h o v1 = some (-1, h) := by
    unfold M_when
    unfold M_when_p35
    rw [if_pos V.2.1.1]
  exact ⟨_, h, h, e1, e2, pl, pd, rf, g, U, V, hg⟩
theorem wu_rule {v1 v2 : Int} (w : WRu T h o0 o) : ∃ v h1 h2, G_rule T h o0 v1 v2 = some (v, h1) ∧ M_rule h1 o v1 v2 = some (v, h2) ∧ WRu T h2 o0 o := by
  obtain ⟨pl, pd, rf, g, U, V, hg⟩ := w
  have e1 : G_rule T h o0 v1 v2 = some (-1, h) := by
    unfold G_rule
    unfold G_rule_p9 G_rule_p21
    rw [u_run U, u_run U]
    repeat' split
    all_goals rfl
  have e2 : M_rule h o v1 v2 = some (-1, h) := by
    unfold M_rule
    rw [if_pos V.2.1.1]
  exact ⟨_, h, h, e1, e2, pl, pd, rf, g, U, V, hg⟩
theorem wu_room {v1 : Int} (w : WRu T h o0 o) : ∃ v h1 h2, G_room T h o0 v1 = some (v, h1) ∧ M_room h1 o v1 = some (v, h2) ∧ WRu T h2 o0 o := by
  obtain ⟨pl, pd, rf, g, U, V, hg⟩ := w
  have e1 : G_room T h o0 v1 = some (-1, h) := by
    unfold G_room
    rw [U.told, Option.bind_some, if_pos rfl]
  have e2 : M_room h o v1 = some (-1, h) := by
    unfold M_room
    rw [if_pos V.2.1.1]
  exact ⟨_, h, h, e1, e2, pl, pd, rf, g, U, V, hg⟩
theorem wu_recovers {v1 v2 : Int} (w : WRu T h o0 o) : ∃ v h1 h2, G_recovers T h o0 v1 v2 = some (v, h1) ∧ M_recovers h1 o v1 v2 = some (v, h2) ∧ WRu T h2 o0 o := by
  obtain ⟨pl, pd, rf, g, U, V, hg⟩ := w
  have e1 : G_recovers T h o0 v1 v2 = some (-1, h) := by
    unfold G_recovers
    rw [U.told, Option.bind_some, if_pos rfl]
  have e2 : M_recovers h o v1 v2 = some (-1, h) := by
    unfold M_recovers
    rw [if_pos V.2.1.1]
  exact ⟨_, h, h, e1, e2, pl, pd, rf, g, U, V, hg⟩
theorem wu_flips {v1 : Int} (w : WRu T h o0 o) : ∃ v h1 h2, G_flips T h o0 v1 = some (v, h1) ∧ M_flips h1 o v1 = some (v, h2) ∧ WRu T h2 o0 o := by
  obtain ⟨pl, pd, rf, g, U, V, hg⟩ := w
  have e1 : G_flips T h o0 v1 = some (-1, h) := by
    unfold G_flips
    rw [U.told, Option.bind_some, if_pos rfl]
  have e2 : M_flips h o v1 = some (-1, h) := by
    unfold M_flips
    rw [if_pos V.2.1.1]
  exact ⟨_, h, h, e1, e2, pl, pd, rf, g, U, V, hg⟩
theorem wu_arrived {v1 : Int} (w : WRu T h o0 o) : ∃ v h1 h2, G_arrived T h o0 v1 = some (v, h1) ∧ M_arrived h1 o v1 = some (v, h2) ∧ WRu T h2 o0 o := by
  obtain ⟨pl, pd, rf, g, U, V, hg⟩ := w
  have e1 : G_arrived T h o0 v1 = some (-1, h) := by
    unfold G_arrived
    rw [U.told, Option.bind_some, if_pos rfl]
  have e2 : M_arrived h o v1 = some (-1, h) := by
    unfold M_arrived
    rw [if_pos V.2.1.1]
  exact ⟨_, h, h, e1, e2, pl, pd, rf, g, U, V, hg⟩
theorem wu_tells {v1 : Int} (w : WRu T h o0 o) : ∃ v h1 h2, G_tells T h o0 v1 = some (v, h1) ∧ M_tells h1 o v1 = some (v, h2) ∧ WRu T h2 o0 o := by
  obtain ⟨pl, pd, rf, g, U, V, hg⟩ := w
  have e1 : G_tells T h o0 v1 = some (-1, h) := by
    unfold G_tells
    rw [U.told, Option.bind_some, if_pos rfl]
  have e2 : M_tells h o v1 = some (-1, h) := by
    unfold M_tells
    rw [if_pos V.2.1.1]
  exact ⟨_, h, h, e1, e2, pl, pd, rf, g, U, V, hg⟩
theorem wu_image (w : WRu T h o0 o) : ∃ v h1 h2, G_image T h o0 = some (v, h1) ∧ M_image h1 o = some (v, h2) ∧ WRu T h2 o0 o := by
  obtain ⟨pl, pd, rf, g, U, V, hg⟩ := w
  have e1 : G_image T h o0 = some (-1, h) := by
    unfold G_image
    rw [U.told, Option.bind_some, if_pos rfl]
  have e2 : M_image h o = some (-1, h) := by
    unfold M_image
    rw [if_pos V.2.1.1]
  exact ⟨_, h, h, e1, e2, pl, pd, rf, g, U, V, hg⟩
theorem wu_best {v1 : Int} (w : WRu T h o0 o) : ∃ v h1 h2, G_best T h o0 v1 = some (v, h1) ∧ M_best h1 o v1 = some (v, h2) ∧ WRu T h2 o0 o := by
  obtain ⟨pl, pd, rf, g, U, V, hg⟩ := w
  exact ⟨_, h, h, u_cbest U, u_mbest V, pl, pd, rf, g, U, V, hg⟩
theorem wu_append {v1 v2 v3 : Int} (ho : o = o0 + 505) (w : WRu T h o0 o) : ∃ v h1 h2, G_append T h o0 v1 v2 v3 = some (v, h1) ∧ M_append h1 o v1 v2 v3 = some (v, h2) ∧ WRu T h2 o0 o := by
  obtain ⟨pl, pd, rf, g, U, V, hg⟩ := w
  have fin := WRu.rfs (kk := 2) ho (by decide) hg U V
  have V1 : MHu (jup h (o0 + 3) 2 (wr (h (o0 + 3) 2 + 1))) o rf g := V.hi (fun z hz => jup_ne (by omega))
  obtain ⟨h1, hh1⟩ : ∃ h1 : jH, h1 = jup h (o0 + 3) 2 (wr (h (o0 + 3) 2 + 1)) := ⟨_, rfl⟩
  have e1 : G_append T h o0 v1 v2 v3 = some (-1, h1) := by
    rw [hh1]
    unfold G_append
    rw [U.told, Option.bind_some, if_pos rfl]
    unfold G_append_p20
    rw [show G_refuse h o0 2 = _ from c_refuse (kk := 2) (by decide)]
    rfl
  rw [← hh1] at fin V1
  have e2 : M_append h1 o v1 v2 v3 = some (-1, jup h1 (o + 2) 2 (wr (h1 (o + 2) 2 + 1))) := by
    unfold M_append
    rw [if_pos V1.2.1.1]
    unfold M_append_p51
    rw [show M_refuses h1 o 2 = _ from m_refuses (k := 2) (by decide)]
    rfl
  exact ⟨_, h1, _, e1, e2, fin⟩
theorem wu_waits {v1 v2 : Int} (ho : o = o0 + 505) (w : WRu T h o0 o) : ∃ v h1 h2, G_waits T h o0 v1 v2 = some (v, h1) ∧ M_waits h1 o v1 v2 = some (v, h2) ∧ WRu T h2 o0 o := by
  obtain ⟨pl, pd, rf, g, U, V, hg⟩ := w
  have fin := WRu.rfs (kk := 2) ho (by decide) hg U V
  have V1 : MHu (jup h (o0 + 3) 2 (wr (h (o0 + 3) 2 + 1))) o rf g := V.hi (fun z hz => jup_ne (by omega))
  obtain ⟨h1, hh1⟩ : ∃ h1 : jH, h1 = jup h (o0 + 3) 2 (wr (h (o0 + 3) 2 + 1)) := ⟨_, rfl⟩
  have e1 : G_waits T h o0 v1 v2 = some (0, h1) := by
    rw [hh1]
    unfold G_waits
    unfold G_waits_p32 Qu_behindLast
    rw [U.2.2.1.2.2.2.1.1, U.2.2.1.2.2.2.1.2.2, Option.bind_some, pw (x := (0 : Int) + 0) (by decide) (by decide)]
    have e : G_waits_p33 T h o0 v1 v2 0 = some (0, jup h (o0 + 3) 2 (wr (h (o0 + 3) 2 + 1))) := by
      unfold G_waits_p33 G_waits_p63
      rw [if_pos rfl, show G_deny h o0 2 = _ from c_deny (kk := 2) (by decide), Option.bind_some]
      rfl
    by_cases c : v2 < 0
    · rw [if_pos c]; exact e
    · rw [if_neg c, if_neg (by omega)]; exact e
  rw [← hh1] at fin V1
  have e2 : M_waits h1 o v1 v2 = some (0, jup h1 (o + 2) 2 (wr (h1 (o + 2) 2 + 1))) := by
    unfold M_waits
    rw [if_pos V1.2.1.1]
    unfold M_waits_p57
    rw [show M_isRefused h1 o 2 = _ from m_isRefused (k := 2) (by decide), Option.bind_some]
    rfl
  exact ⟨_, h1, _, e1, e2, fin⟩
theorem wu_ticks {v1 : Int} (ho : o = o0 + 505) (w : WRu T h o0 o) : ∃ v h1 h2, G_ticks T h o0 v1 = some (v, h1) ∧ M_ticks h1 o v1 = some (v, h2) ∧ WRu T h2 o0 o := by
  obtain ⟨pl, pd, rf, g, U, V, hg⟩ := w
  have fin := WRu.rfs (kk := 3) ho (by decide) hg U V
  have V1 : MHu (jup h (o0 + 3) 3 (wr (h (o0 + 3) 3 + 1))) o rf g := V.hi (fun z hz => jup_ne (by omega))
  obtain ⟨h1, hh1⟩ : ∃ h1 : jH, h1 = jup h (o0 + 3) 3 (wr (h (o0 + 3) 3 + 1)) := ⟨_, rfl⟩
  have e1 : G_ticks T h o0 v1 = some (-1, h1) := by
    rw [hh1]
    unfold G_ticks
    unfold G_canPass G_canPass_p37
    rw [U.told, Option.bind_some, if_pos rfl, Option.bind_some, if_pos rfl, show G_refuse h o0 3 = _ from c_refuse (kk := 3) (by decide)]
    rfl
  rw [← hh1] at fin V1
  have e2 : M_ticks h1 o v1 = some (-1, jup h1 (o + 2) 3 (wr (h1 (o + 2) 3 + 1))) := by
    unfold M_ticks
    rw [u_ahead V1, Option.bind_some, if_pos rfl, show M_refuses h1 o 3 = _ from m_refuses (k := 3) (by decide)]
    rfl
  exact ⟨_, h1, _, e1, e2, fin⟩
theorem wu_chance {v1 : Int} (ho : o = o0 + 505) (w : WRu T h o0 o) : ∃ v h1 h2, G_chance T h o0 v1 = some (v, h1) ∧ M_chance h1 o v1 = some (v, h2) ∧ WRu T h2 o0 o := by
  obtain ⟨pl, pd, rf, g, U, V, hg⟩ := w
  have fin := WRu.rfs (kk := 3) ho (by decide) hg U V
  have V1 : MHu (jup h (o0 + 3) 3 (wr (h (o0 + 3) 3 + 1))) o rf g := V.hi (fun z hz => jup_ne (by omega))
  obtain ⟨h1, hh1⟩ : ∃ h1 : jH, h1 = jup h (o0 + 3) 3 (wr (h (o0 + 3) 3 + 1)) := ⟨_, rfl⟩
  have e1 : G_chance T h o0 v1 = some (-1, h1) := by
    rw [hh1]
    unfold G_chance
    unfold G_canPass G_canPass_p37
    rw [U.told, Option.bind_some, if_pos rfl, Option.bind_some, if_pos rfl, show G_refuse h o0 3 = _ from c_refuse (kk := 3) (by decide)]
    rfl
  rw [← hh1] at fin V1
  have e2 : M_chance h1 o v1 = some (-1, jup h1 (o + 2) 3 (wr (h1 (o + 2) 3 + 1))) := by
    unfold M_chance
    rw [u_ahead V1, Option.bind_some, if_pos rfl, show M_refuses h1 o 3 = _ from m_refuses (k := 3) (by decide)]
    rfl
  exact ⟨_, h1, _, e1, e2, fin⟩
theorem wu_snap (ho : o = o0 + 505) (w : WRu T h o0 o) : ∃ v h1 h2, G_snap T h o0 = some (v, h1) ∧ M_snap h1 o = some (v, h2) ∧ WRu T h2 o0 o := by
  obtain ⟨pl, pd, rf, g, U, V, hg⟩ := w
  have fin := WRu.rfs (kk := 4) ho (by decide) hg U V
  have V1 : MHu (jup h (o0 + 3) 4 (wr (h (o0 + 3) 4 + 1))) o rf g := V.hi (fun z hz => jup_ne (by omega))
  obtain ⟨h1, hh1⟩ : ∃ h1 : jH, h1 = jup h (o0 + 3) 4 (wr (h (o0 + 3) 4 + 1)) := ⟨_, rfl⟩
  have e1 : G_snap T h o0 = some (-1, h1) := by
    rw [hh1]
    unfold G_snap
    rw [U.told, Option.bind_some, if_pos rfl]
    unfold G_snap_p37
    rw [show G_refuse h o0 4 = _ from c_refuse (kk := 4) (by decide)]
    rfl
  rw [← hh1] at fin V1
  have e2 : M_snap h1 o = some (-1, jup h1 (o + 2) 4 (wr (h1 (o + 2) 4 + 1))) := by
    unfold M_snap
    rw [if_pos V1.2.1.1]
    unfold M_snap_p34
    rw [show M_refuses h1 o 4 = _ from m_refuses (k := 4) (by decide)]
    rfl
  exact ⟨_, h1, _, e1, e2, fin⟩
theorem wu_crash {v1 : Int} (ho : o = o0 + 505) (w : WRu T h o0 o) : ∃ v h1 h2, G_crash T h o0 v1 = some (v, h1) ∧ M_crash h1 o v1 = some (v, h2) ∧ WRu T h2 o0 o := by
  obtain ⟨pl, pd, rf, g, U, V, hg⟩ := w
  have fin := WRu.rfs (kk := 4) ho (by decide) hg U V
  have V1 : MHu (jup h (o0 + 3) 4 (wr (h (o0 + 3) 4 + 1))) o rf g := V.hi (fun z hz => jup_ne (by omega))
  obtain ⟨h1, hh1⟩ : ∃ h1 : jH, h1 = jup h (o0 + 3) 4 (wr (h (o0 + 3) 4 + 1)) := ⟨_, rfl⟩
  have e1 : G_crash T h o0 v1 = some (-1, h1) := by
    rw [hh1]
    unfold G_crash
    rw [U.told, Option.bind_some, if_pos rfl]
    unfold G_crash_p25
    rw [show G_refuse h o0 4 = _ from c_refuse (kk := 4) (by decide)]
    rfl
  rw [← hh1] at fin V1
  have e2 : M_crash h1 o v1 = some (-1, jup h1 (o + 2) 4 (wr (h1 (o + 2) 4 + 1))) := by
    unfold M_crash
    rw [if_pos V1.2.1.1]
    unfold M_crash_p23
    rw [show M_refuses h1 o 4 = _ from m_refuses (k := 4) (by decide)]
    rfl
  exact ⟨_, h1, _, e1, e2, fin⟩
theorem wu_giveUp (ho : o = o0 + 505) (w : WRu T h o0 o) : ∃ v h1 h2, G_giveUp T h o0 = some (v, h1) ∧ M_giveUp h1 o = some (v, h2) ∧ WRu T h2 o0 o := by
  obtain ⟨pl, pd, rf, g, U, V, hg⟩ := w
  have fin := WRu.rfs (kk := 4) ho (by decide) hg U V
  have V1 : MHu (jup h (o0 + 3) 4 (wr (h (o0 + 3) 4 + 1))) o rf g := V.hi (fun z hz => jup_ne (by omega))
  obtain ⟨h1, hh1⟩ : ∃ h1 : jH, h1 = jup h (o0 + 3) 4 (wr (h (o0 + 3) 4 + 1)) := ⟨_, rfl⟩
  have e1 : G_giveUp T h o0 = some (-1, h1) := by
    rw [hh1]
    unfold G_giveUp
    rw [U.2.2.1.2.1.2.2, if_pos rfl, show G_refuse h o0 4 = _ from c_refuse (kk := 4) (by decide)]
    rfl
  rw [← hh1] at fin V1
  have e2 : M_giveUp h1 o = some (-1, jup h1 (o + 2) 4 (wr (h1 (o + 2) 4 + 1))) := by
    unfold M_giveUp
    rw [if_pos (by decide), show ((10 : Int)).toNat = 10 from rfl, V1.at (by decide), if_pos rfl, show M_refuses h1 o 4 = _ from m_refuses (k := 4) (by decide)]
    rfl
  exact ⟨_, h1, _, e1, e2, fin⟩
theorem wu_flip {v1 v2 : Int} (ho : o = o0 + 505) (w : WRu T h o0 o) : ∃ v h1 h2, G_flip T h o0 v1 v2 = some (v, h1) ∧ M_flip h1 o v1 v2 = some (v, h2) ∧ WRu T h2 o0 o := by
  obtain ⟨pl, pd, rf, g, U, V, hg⟩ := w
  have fin := WRu.rfs (kk := 4) ho (by decide) hg U V
  have V1 : MHu (jup h (o0 + 3) 4 (wr (h (o0 + 3) 4 + 1))) o rf g := V.hi (fun z hz => jup_ne (by omega))
  obtain ⟨h1, hh1⟩ : ∃ h1 : jH, h1 = jup h (o0 + 3) 4 (wr (h (o0 + 3) 4 + 1)) := ⟨_, rfl⟩
  have e1 : G_flip T h o0 v1 v2 = some (-1, h1) := by
    rw [hh1]
    unfold G_flip
    have e : Di_holds h (o0 + 36) v1 v2 = some 0 := by
      unfold Di_holds Di_holds_p28
      rw [U.2.2.1.1.1]
      by_cases c : v1 < 0
      · rw [if_pos c]
      · rw [if_neg c, if_neg c]
    rw [e, Option.bind_some, if_pos rfl, show G_refuse h o0 4 = _ from c_refuse (kk := 4) (by decide)]
    rfl
  rw [← hh1] at fin V1
  have e2 : M_flip h1 o v1 v2 = some (-1, jup h1 (o + 2) 4 (wr (h1 (o + 2) 4 + 1))) := by
    unfold M_flip
    rw [u_isSeg V1, Option.bind_some, if_pos rfl]
    unfold M_flip_p24
    rw [show M_refuses h1 o 4 = _ from m_refuses (k := 4) (by decide)]
    rfl
  exact ⟨_, h1, _, e1, e2, fin⟩
theorem wu_undo (ho : o = o0 + 505) (w : WRu T h o0 o) : ∃ v h1 h2, G_undo T h o0 = some (v, h1) ∧ M_undo h1 o = some (v, h2) ∧ WRu T h2 o0 o := by
  obtain ⟨pl, pd, rf, g, U, V, hg⟩ := w
  have fin := WRu.rfs (kk := 5) ho (by decide) hg U V
  have V1 : MHu (jup h (o0 + 3) 5 (wr (h (o0 + 3) 5 + 1))) o rf g := V.hi (fun z hz => jup_ne (by omega))
  obtain ⟨h1, hh1⟩ : ∃ h1 : jH, h1 = jup h (o0 + 3) 5 (wr (h (o0 + 3) 5 + 1)) := ⟨_, rfl⟩
  have e1 : G_undo T h o0 = some (0, h1) := by
    rw [hh1]
    unfold G_undo
    rw [U.2.2.2.1, if_neg (by decide), show G_deny h o0 5 = _ from c_deny (kk := 5) (by decide), Option.bind_some]
    rfl
  rw [← hh1] at fin V1
  have e2 : M_undo h1 o = some (0, jup h1 (o + 2) 5 (wr (h1 (o + 2) 5 + 1))) := by
    unfold M_undo
    rw [if_pos V1.2.2.1, if_pos (by decide), if_pos (by decide)]
    rfl
  exact ⟨_, h1, _, e1, e2, fin⟩
theorem wu_see (ho : o = o0 + 505) (w : WRu T h o0 o) : ∃ v h1 h2, G_see T h o0 = some (v, h1) ∧ M_see h1 o = some (v, h2) ∧ WRu T h2 o0 o := by
  obtain ⟨pl, pd, rf, g, U, V, hg⟩ := w
  have fin := WRu.rf0 (kk := 1) ho (by decide) hg U V
  have V1 : MHu (jup (jup h o0 1 0) (o0 + 3) 1 (wr ((jup h o0 1 0) (o0 + 3) 1 + 1))) o rf g := V.hi (fun z hz => by rw [jup_ne (by omega), jup_ne (by omega)])
  obtain ⟨h1, hh1⟩ : ∃ h1 : jH, h1 = jup (jup h o0 1 0) (o0 + 3) 1 (wr ((jup h o0 1 0) (o0 + 3) 1 + 1)) := ⟨_, rfl⟩
  have e1 : G_see T h o0 = some (-1, h1) := by
    rw [hh1]
    unfold G_see
    unfold G_takeTape
    rw [Option.bind_some, U.t0.told, Option.bind_some, if_pos rfl]
    unfold G_see_p20
    rw [show G_refuse (jup h o0 1 0) o0 1 = _ from c_refuse (kk := 1) (by decide)]
    rfl
  rw [← hh1] at fin V1
  have V2 := V1.t0
  have e2 : M_see h1 o = some (-1, jup (jup h1 o 1 0) (o + 2) 1 (wr ((jup h1 o 1 0) (o + 2) 1 + 1))) := by
    unfold M_see
    rw [if_pos V2.2.1.1]
    unfold M_see_p39 M_see_p40 M_see_L43
    refine jloop_r ?_
    show M_see_B43 (jup h1 o 1 0) o (h1 o 1) 0 0 = _
    have e : M_see_p102 (jup h1 o 1 0) o (h1 o 1) 0 = some (-1, jup (jup h1 o 1 0) (o + 2) 1 (wr ((jup h1 o 1 0) (o + 2) 1 + 1))) := by
      unfold M_see_p102
      rw [if_pos rfl, show M_refuses (jup h1 o 1 0) o 1 = _ from m_refuses (k := 1) (by decide)]
      rfl
    unfold M_see_B43
    rw [if_pos (show (0 : Int) = 0 from rfl), e]
    split <;> rfl
  exact ⟨_, h1, _, e1, e2, fin⟩
theorem wu_on (ho : o = o0 + 505) (w : WRu T h o0 o) : ∃ v h1 h2, G_on T h o0 = some (v, h1) ∧ M_on h1 o = some (v, h2) ∧ WRu T h2 o0 o := by
  obtain ⟨pl, pd, rf, g, U, V, hg⟩ := w
  have fin := WRu.rf0 (kk := 6) ho (by decide) hg U V
  have V1 : MHu (jup (jup h o0 1 0) (o0 + 3) 6 (wr ((jup h o0 1 0) (o0 + 3) 6 + 1))) o rf g := V.hi (fun z hz => by rw [jup_ne (by omega), jup_ne (by omega)])
  obtain ⟨h1, hh1⟩ : ∃ h1 : jH, h1 = jup (jup h o0 1 0) (o0 + 3) 6 (wr ((jup h o0 1 0) (o0 + 3) 6 + 1)) := ⟨_, rfl⟩
  have e1 : G_on T h o0 = some (0, h1) := by
    rw [hh1]
    unfold G_on
    unfold G_takeTape
    rw [Option.bind_some, U.t0.told, Option.bind_some, if_pos rfl]
    unfold G_on_p20
    rw [show G_deny (jup h o0 1 0) o0 6 = _ from c_deny (kk := 6) (by decide), Option.bind_some]
    rfl
  rw [← hh1] at fin V1
  have V2 := V1.t0
  have e2 : M_on h1 o = some (0, jup (jup h1 o 1 0) (o + 2) 6 (wr ((jup h1 o 1 0) (o + 2) 6 + 1))) := by
    unfold M_on
    unfold M_isImage
    rw [if_pos V2.2.1.1, Option.bind_some, if_pos rfl, show M_isRefused (jup h1 o 1 0) o 6 = _ from m_isRefused (k := 6) (by decide), Option.bind_some]
    rfl
  exact ⟨_, h1, _, e1, e2, fin⟩
theorem wu_value {v1 : Int} (w : WRu T h o0 o) : ∃ v, G_value h o0 v1 = some v ∧ M_value h o v1 = some v ∧ WRu T h o0 o := by
  obtain ⟨pl, pd, rf, g, U, V, hg⟩ := w
  have e1 : G_value h o0 v1 = some (-1) := by
    unfold G_value
    rw [g_cell, Option.bind_some]
    by_cases c : 0 ≤ v1 ∧ v1 < ((16 : Nat) : Int)
    · rw [if_pos c, U.2.2.1.2.2.2.2.2 _ (by omega)]
    · rw [if_neg c]
  have e2 : M_value h o v1 = some (-1) := by
    unfold M_value
    unfold M_value_p32
    rw [if_pos V.2.1.1]
  exact ⟨_, e1, e2, pl, pd, rf, g, U, V, hg⟩
theorem wu_place {v1 : Int} (w : WRu T h o0 o) : ∃ v, G_place T h o0 v1 = some v ∧ M_place h o v1 = some v ∧ WRu T h o0 o := by
  obtain ⟨pl, pd, rf, g, U, V, hg⟩ := w
  have e1 : G_place T h o0 v1 = some (-1) := by
    unfold G_place
    rw [U.told, Option.bind_some, if_pos rfl]
  have e2 : M_place h o v1 = some (-1) := by
    unfold M_place
    unfold M_place_p30
    rw [if_pos V.2.1.1]
  exact ⟨_, e1, e2, pl, pd, rf, g, U, V, hg⟩
theorem wu_waiter {v1 : Int} (w : WRu T h o0 o) : ∃ v, G_waiter h o0 v1 = some v ∧ M_waiter h o v1 = some v ∧ WRu T h o0 o := by
  obtain ⟨pl, pd, rf, g, U, V, hg⟩ := w
  have e1 : G_waiter h o0 v1 = some (-1) := by
    unfold G_waiter
    unfold Wa_awaitedBy Wa_awaitedBy_L2
    rw [show jloop (fun s : Int => Wa_awaitedBy_B2 h (o0 + 47) v1 s) 0 = some (-1) from jloop_r (by
      show Wa_awaitedBy_B2 h (o0 + 47) v1 0 = _
      unfold Wa_awaitedBy_B2
      rw [U.2.2.1.2.2.2.2.1.1, if_neg (by decide)]
      rfl)]
    rfl
  have e2 : M_waiter h o v1 = some (-1) := by
    unfold M_waiter
    unfold M_waiter_p32
    rw [if_pos V.2.1.1]
  exact ⟨_, e1, e2, pl, pd, rf, g, U, V, hg⟩
theorem wu_octetOf {v1 v2 : Int} (w : WRu T h o0 o) : ∃ v, G_octetOf h o0 v1 v2 = some v ∧ M_octetOf h o v1 v2 = some v ∧ WRu T h o0 o := by
  obtain ⟨pl, pd, rf, g, U, V, hg⟩ := w
  have e1 : G_octetOf h o0 v1 v2 = some (-1) := by
    unfold G_octetOf
    unfold Di_octetAt
    rw [U.2.2.1.1.1]
    by_cases c : v1 < 0
    · rw [if_pos c]; rfl
    · rw [if_neg c, if_neg c]; rfl
  have e2 : M_octetOf h o v1 v2 = some (-1) := by
    unfold M_octetOf
    rw [u_isSeg V, Option.bind_some, if_pos rfl]
    rfl
  exact ⟨_, e1, e2, pl, pd, rf, g, U, V, hg⟩
theorem wu_waiting {v1 v2 : Int} (w : WRu T h o0 o) : ∃ v, G_waiting h o0 v1 v2 = some v ∧ M_waiting h o v1 v2 = some v ∧ WRu T h o0 o := by
  obtain ⟨pl, pd, rf, g, U, V, hg⟩ := w
  have e1 : G_waiting h o0 v1 v2 = some (-1) := by
    unfold G_waiting
    unfold Qu_waitingCount
    rw [U.2.2.1.2.2.2.1.2.1, U.2.2.1.2.2.2.1.2.2, Option.bind_some, pw (x := (0 : Int) - 0) (by decide) (by decide)]
    by_cases c : v1 < 0
    · rw [if_pos c]
    · rw [if_neg c, if_neg (by omega)]
  have e2 : M_waiting h o v1 v2 = some (-1) := by
    unfold M_waiting
    rw [if_pos (by decide), show ((11 : Int)).toNat = 11 from rfl, V.at (by decide), pw (x := (0 : Int) - 1) (by decide) (by decide), m_isIn, Option.bind_some, if_neg (show ¬ (0 ≤ v1 ∧ v1 ≤ 0 - 1) by omega), if_pos rfl]
  exact ⟨_, e1, e2, pl, pd, rf, g, U, V, hg⟩
theorem wu_kept {v1 v2 : Int} (w : WRu T h o0 o) : ∃ v, G_kept h o0 v1 v2 = some v ∧ M_kept h o v1 v2 = some v ∧ WRu T h o0 o := by
  obtain ⟨pl, pd, rf, g, U, V, hg⟩ := w
  have e1 : G_kept h o0 v1 v2 = some (-1) := by
    unfold G_kept
    unfold Wa_keptAt Wa_told
    rw [U.2.2.1.2.2.2.2.1.2, Option.bind_some]
    by_cases c : v1 < 0
    · rw [if_pos c]; rfl
    · rw [if_neg c, if_neg (show ¬ v1 < min 0 40 by omega)]; rfl
  have e2 : M_kept h o v1 v2 = some (-1) := by
    unfold M_kept
    unfold M_kept_p49
    rw [if_pos (by decide), show ((2244 : Int)).toNat = 2244 from rfl, V.at (by decide), pw (x := (0 : Int) - 1) (by decide) (by decide), m_isIn, Option.bind_some, if_neg (show ¬ (0 ≤ v1 ∧ v1 ≤ 0 - 1) by omega), if_pos rfl]
  exact ⟨_, e1, e2, pl, pd, rf, g, U, V, hg⟩
theorem wu_soon {v1 : Int} (w : WRu T h o0 o) : ∃ v, G_soon h o0 v1 = some v ∧ M_soon h o v1 = some v ∧ WRu T h o0 o := by
  obtain ⟨pl, pd, rf, g, U, V, hg⟩ := w
  have e1 : G_soon h o0 v1 = some (-1) := by
    unfold G_soon
    unfold Qu_latestOf Qu_latestOf_L4
    rw [show jloop (fun s : (Int × Int) => Qu_latestOf_B4 h (o0 + 42) v1 s.1 s.2) (-1, 0) = some (-1) from jloop_r (by
      show Qu_latestOf_B4 h (o0 + 42) v1 (-1) 0 = _
      unfold Qu_latestOf_B4
      rw [U.2.2.1.2.2.2.1.2.2, if_neg (by decide)]
      rfl), Option.bind_some, if_pos rfl, g_cell, Option.bind_some]
    by_cases c : 0 ≤ v1 ∧ v1 < ((16 : Nat) : Int)
    · rw [if_pos c, U.2.2.1.2.2.2.2.2 _ (by omega)]
    · rw [if_neg c]
  have e2 : M_soon h o v1 = some (-1) := by
    unfold M_soon
    unfold M_value M_value_p32 M_soon_L13
    rw [if_pos V.2.1.1, Option.bind_some, if_pos (by decide), show ((2 : Int)).toNat = 2 from rfl, V.at (by decide)]
    refine jloop_r ?_
    show M_soon_B13 h o v1 (-1) 0 = _
    unfold M_soon_B13
    rw [if_pos (by decide), show ((1 : Int)).toNat = 1 from rfl, V.at (by decide), if_neg (by decide)]
    rfl
  exact ⟨_, e1, e2, pl, pd, rf, g, U, V, hg⟩
theorem wu_has {v1 : Int} (w : WRu T h o0 o) : ∃ v, G_has h o0 v1 = some v ∧ M_has h o v1 = some v ∧ WRu T h o0 o := by
  obtain ⟨pl, pd, rf, g, U, V, hg⟩ := w
  have z0 : wr ((0 : Int) + 0) = 0 := by rw [pw (by decide) (by decide)]; rfl
  have z1 : wr ((0 : Int) - 0) = 0 := by rw [pw (by decide) (by decide)]; rfl
  have z2 : ∀ x : Int, wr ((0 : Int) * x) = 0 := fun x => by rw [Int.zero_mul, pw (by decide) (by decide)]
  have e1 : G_has h o0 v1 = some (if v1 = 12 then (g.2.1.length : Int) else if 0 ≤ v1 ∧ v1 ≤ 14 then 0 else -1) := by
    unfold G_has Qu_behindLast Qu_waitingCount Wa_told
    rw [U.2.2.1.1.1, U.2.2.1.1.2.1, U.2.2.1.2.1.2.1, U.2.2.1.2.2.2.1.1, U.2.2.1.2.2.2.1.2.1, U.2.2.1.2.2.2.1.2.2, U.2.2.1.2.2.1.1, U.2.2.1.2.2.1.2, U.2.2.1.2.1.1, U.2.2.1.2.2.2.2.1.1, U.2.2.1.2.2.2.2.1.2, U.2.2.1.2.1.2.2, U.2.2.2.1, U.1.2.2.2.2.1.1, u_cscar U, z0, z1]
    simp only [Option.bind_some]
    have hc : v1 = 0 ∨ v1 = 1 ∨ v1 = 2 ∨ v1 = 3 ∨ v1 = 4 ∨ v1 = 5 ∨ v1 = 6 ∨ v1 = 7 ∨ v1 = 8 ∨ v1 = 9 ∨ v1 = 10 ∨ v1 = 11 ∨ v1 = 12 ∨ v1 = 13 ∨ v1 = 14 ∨ ¬ (0 ≤ v1 ∧ v1 ≤ 14) := by omega
    rcases hc with e | e | e | e | e | e | e | e | e | e | e | e | e | e | e | e
    case' inr.inr.inr.inr.inr.inr.inr.inr.inr.inr.inr.inr.inr.inr.inr =>
      rw [if_neg (show ¬ v1 = 0 by omega), if_neg (show ¬ v1 = 1 by omega), if_neg (show ¬ v1 = 2 by omega), if_neg (show ¬ v1 = 3 by omega), if_neg (show ¬ v1 = 4 by omega), if_neg (show ¬ v1 = 5 by omega), if_neg (show ¬ v1 = 6 by omega), if_neg (show ¬ v1 = 7 by omega), if_neg (show ¬ v1 = 8 by omega), if_neg (show ¬ v1 = 9 by omega), if_neg (show ¬ v1 = 10 by omega), if_neg (show ¬ v1 = 11 by omega), if_neg (show ¬ v1 = 12 by omega), if_neg (show ¬ v1 = 13 by omega), if_neg (show ¬ v1 = 14 by omega), if_neg (show ¬ v1 = 12 by omega), if_neg e]
    all_goals (subst e; rfl)
  have e2 : M_has h o v1 = some (if v1 = 12 then (g.2.1.length : Int) else if 0 ≤ v1 ∧ v1 ≤ 14 then 0 else -1) := by
    unfold M_has M_segmentMany M_length
    simp only [show ((0 : Int)).toNat = 0 from rfl, show ((1 : Int)).toNat = 1 from rfl, show ((2 : Int)).toNat = 2 from rfl, show ((3 : Int)).toNat = 3 from rfl, show ((4 : Int)).toNat = 4 from rfl, show ((5 : Int)).toNat = 5 from rfl, show ((6 : Int)).toNat = 6 from rfl, show ((7 : Int)).toNat = 7 from rfl, show ((9 : Int)).toNat = 9 from rfl, show ((10 : Int)).toNat = 10 from rfl, show ((11 : Int)).toNat = 11 from rfl, show ((12 : Int)).toNat = 12 from rfl, show ((2244 : Int)).toNat = 2244 from rfl]
    rw [V.2.1.2.1, V.2.1.2.2.1, z2, u_mscar V, V.at (i := 0) (by decide), V.at (i := 1) (by decide), V.at (i := 2) (by decide), V.at (i := 11) (by decide), V.at (i := 4) (by decide), V.at (i := 3) (by decide), V.at (i := 9) (by decide), V.at (i := 12) (by decide), V.at (i := 2244) (by decide), V.at (i := 10) (by decide), V.1.2.2.1.1, V.2.2.1]
    simp only [Option.bind_some]
    have hc : v1 = 0 ∨ v1 = 1 ∨ v1 = 2 ∨ v1 = 3 ∨ v1 = 4 ∨ v1 = 5 ∨ v1 = 6 ∨ v1 = 7 ∨ v1 = 8 ∨ v1 = 9 ∨ v1 = 10 ∨ v1 = 11 ∨ v1 = 12 ∨ v1 = 13 ∨ v1 = 14 ∨ ¬ (0 ≤ v1 ∧ v1 ≤ 14) := by omega
    rcases hc with e | e | e | e | e | e | e | e | e | e | e | e | e | e | e | e
    case' inr.inr.inr.inr.inr.inr.inr.inr.inr.inr.inr.inr.inr.inr.inr =>
      rw [if_neg (show ¬ v1 = 0 by omega), if_neg (show ¬ v1 = 1 by omega), if_neg (show ¬ v1 = 2 by omega), if_neg (show ¬ v1 = 3 by omega), if_neg (show ¬ v1 = 4 by omega), if_neg (show ¬ v1 = 5 by omega), if_neg (show ¬ v1 = 6 by omega), if_neg (show ¬ v1 = 7 by omega), if_neg (show ¬ v1 = 8 by omega), if_neg (show ¬ v1 = 9 by omega), if_neg (show ¬ v1 = 10 by omega), if_neg (show ¬ v1 = 11 by omega), if_neg (show ¬ v1 = 12 by omega), if_neg (show ¬ v1 = 13 by omega), if_neg (show ¬ v1 = 14 by omega), if_neg (show ¬ v1 = 12 by omega), if_neg e]
    all_goals (subst e; rfl)
  exact ⟨_, e1, e2, pl, pd, rf, g, U, V, hg⟩
theorem wu_octet {v1 : Int} (w : WRu T h o0 o) : ∃ v, G_octet h o0 v1 = some v ∧ M_octet h o v1 = some v ∧ WRu T h o0 o := by
  obtain ⟨pl, pd, rf, g, U, V, hg⟩ := w
  exact ⟨_, RC.octet U.1.2.2.2.2.2.1, RM.octet V.1.2.2.2.1, pl, pd, rf, g, U, V, hg⟩
theorem wu_status {v1 : Int} (w : WRu T h o0 o) : ∃ v, G_status h o0 v1 = some v ∧ M_status h o v1 = some v ∧ WRu T h o0 o := by
  obtain ⟨pl, pd, rf, g, U, V, hg⟩ := w
  exact ⟨_, c_status U.2.2.2.2.2, m_status V.2.2.2.2.2, pl, pd, rf, g, U, V, hg⟩
theorem wu_fault {v1 : Int} (w : WRu T h o0 o) : ∃ v, G_fault h o0 v1 = some v ∧ M_fault h o v1 = some v ∧ WRu T h o0 o := by
  obtain ⟨pl, pd, rf, g, U, V, hg⟩ := w
  refine ⟨if v1 = 0 then g.2.2.2.2.1 else if v1 = 1 then g.2.2.2.2.2 else -1, ?_, ?_, pl, pd, rf, g, U, V, hg⟩
  · unfold G_fault
    rw [U.1.2.2.2.2.2.2.2.1, U.1.2.2.2.2.2.2.2.2]
    repeat' split
    all_goals rfl
  · unfold M_fault
    rw [V.1.2.2.2.2.2.1, V.1.2.2.2.2.2.2]
    repeat' split
    all_goals rfl
theorem wu_feed {v1 v2 v3 v4 v5 : Int} (n1 : jI32 v1) (n2 : jI32 v2) (n3 : jI32 v3) (n4 : jI32 v4) (n5 : jI32 v5) (ho : o = o0 + 505) (w : WRu T h o0 o) : ∃ v h1 h2, G_feed h o0 v1 v2 v3 v4 v5 = some (v, h1) ∧ M_feed h1 o v1 v2 v3 v4 v5 = some (v, h2) ∧ WRu T h2 o0 o := by
  obtain ⟨pl, pd, rf, g, U, V, hg⟩ := w
  by_cases c : g.1.length ≤ 1580
  · obtain ⟨h1, c1, c2, c3⟩ := c_feedT n1 n2 n3 n4 n5 U.1.2.2.2.1 c
    have V1 := V.hi (fun z hz => c2.1 z (by omega) (by omega))
    obtain ⟨h2, m1, m2, m3⟩ := m_feedT n1 n2 n3 n4 n5 V1.1.2.1 c
    exact ⟨_, h1, h2, c1, m1, pl, pd, rf, _, (U.tpe c2 c3).lo (fun z hz => m2.1 z (by omega) (by omega)), V1.tpe m2 m3, hg.1.app (spBy20_ok _ _ _ _ _), hg.2⟩
  · have fin := WRu.rfs (kk := 0) ho (by decide) hg U V
    have V1 : MHu (jup h (o0 + 3) 0 (wr (h (o0 + 3) 0 + 1))) o rf g := V.hi (fun z hz => jup_ne (by omega))
    exact ⟨_, _, _, by rw [c_feedNo U.1.2.2.2.1 c, show G_refuse h o0 0 = _ from c_refuse (kk := 0) (by decide)]; rfl, m_feedNo V1.1.2.1 c, fin⟩
theorem wu_end {v1 : Int} (ho : o = o0 + 505) (w : WRu T h o0 o) : ∃ v h1 h2, G_end h o0 v1 = some (v, h1) ∧ M_end h1 o v1 = some (v, h2) ∧ WRu T h2 o0 o := by
  obtain ⟨pl, pd, rf, g, U, V, hg⟩ := w
  by_cases c : 0 ≤ v1 ∧ v1 ≤ (g.1.length : Int)
  · obtain ⟨n, rfl⟩ : ∃ n : Nat, v1 = n := ⟨v1.toNat, by omega⟩
    obtain ⟨c2, c3⟩ := U.1.2.2.2.1.cutT (n := n) (by omega)
    have V1 := V.hi (fun z hz => c2.1 z (by omega) (by omega))
    obtain ⟨m2, m3⟩ := V1.1.2.1.cutT (n := n) (by omega)
    exact ⟨_, _, _, (c_endT U.1.2.2.2.1).1 c, (m_endT V1.1.2.1).1 c, pl, pd, rf, _, (U.tpe c2 c3).lo (fun z hz => m2.1 z (by omega) (by omega)), V1.tpe m2 m3, hg.1.tk n, hg.2⟩
  · have fin := WRu.rfs (kk := 0) ho (by decide) hg U V
    have V1 : MHu (jup h (o0 + 3) 0 (wr (h (o0 + 3) 0 + 1))) o rf g := V.hi (fun z hz => jup_ne (by omega))
    exact ⟨_, _, _, by rw [(c_endT U.1.2.2.2.1).2 c]; exact c_endNo, (m_endT V1.1.2.1).2 c, fin⟩
theorem CHu.sd {v : Int} (U : CHu T h o0 pl pd rf g) : CHu T (jup h o0 5 v) o0 pl pd rf (g.1, g.2.1, g.2.2.1, v, g.2.2.2.2) := by
  have hp := U.1.1.2.pos
  obtain ⟨⟨a1, a2, a3, a4, a5, a6, a7, a8, a9⟩, b2, ⟨⟨u1, u2, u3⟩, ⟨u4, u5, u6⟩, ⟨u7, u8⟩, ⟨u9, u10, u11⟩, ⟨u12, u13⟩, u14⟩, b4, b5, b6⟩ := U
  have e : ∀ z, z ≠ o0 → (jup h o0 5 v) z = h z := fun z hz => jup_ne hz
  have ef : ∀ f, f ≠ 5 → (jup h o0 5 v) o0 f = h o0 f := fun f hf => ju_ne hf
  exact ⟨⟨a1, by rw [ef 8 (by omega)]; exact a2, by rw [e _ (by omega)]; exact a3, a4.e (ef 1 (by omega)) (e _ (by omega)), a5.e (ef 7 (by omega)) (e _ (by omega)), a6.e (ef 3 (by omega)) (e _ (by omega)), ju_eq, by rw [e _ (by omega)]; exact a8, by rw [e _ (by omega)]; exact a9⟩, by rw [e _ (by omega)]; exact b2, ⟨⟨by rw [e _ (by omega)]; exact u1, by rw [e _ (by omega)]; exact u2, fun i hi => by rw [e _ (by omega)]; exact u3 i hi⟩, ⟨by rw [e _ (by omega)]; exact u4, by rw [e _ (by omega)]; exact u5, by rw [e _ (by omega)]; exact u6⟩, ⟨by rw [e _ (by omega)]; exact u7, by rw [e _ (by omega)]; exact u8⟩, ⟨by rw [e _ (by omega)]; exact u9, by rw [e _ (by omega)]; exact u10, by rw [e _ (by omega)]; exact u11⟩, ⟨by rw [e _ (by omega)]; exact u12, by rw [e _ (by omega)]; exact u13⟩, fun i hi => by rw [e _ (by omega)]; exact u14 i hi⟩, by rw [ef 13 (by omega)]; exact b4, by rw [ef 14 (by omega)]; exact b5, fun i hi => by rw [e _ (by omega)]; exact b6 i hi⟩
theorem MHu.sd {v : Int} (V : MHu h o rf g) : MHu (jup h o 75 v) o rf (g.1, g.2.1, g.2.2.1, v, g.2.2.2.2) := by
  obtain ⟨⟨⟨a1, a2, a3⟩, a4, a5, a6, a7, a8, a9⟩, ⟨u1, u2, u3, u4⟩, b3, ⟨u5, u6, u7⟩, b5, b6⟩ := V
  obtain ⟨d1, d2, d3, d4, d5, d6, d7, d8⟩ := a2
  have e : ∀ z, z ≠ o → (jup h o 75 v) z = h z := fun z hz => jup_ne hz
  have ef : ∀ f, f ≠ 75 → (jup h o 75 v) o f = h o f := fun f hf => ju_ne hf
  exact ⟨⟨⟨a1.e (fun z z1 z2 => e z (by omega)), ⟨d1.e (e _ (by omega)), d2.e (e _ (by omega)), d3.e (e _ (by omega)), d4.e (e _ (by omega)), d5.e (e _ (by omega)), d6.e (e _ (by omega)), d7.e (e _ (by omega)), d8.e (e _ (by omega))⟩, a3.e (fun z z1 z2 => e z (by omega))⟩, a4.e (ef 1 (by omega)) (e _ (by omega)), a5.e (ef 66 (by omega)) (e _ (by omega)), a6.e (ef 109 (by omega)) (e _ (by omega)), ju_eq, by rw [ef 7 (by omega)]; exact a8, by rw [ef 8 (by omega)]; exact a9⟩, ⟨by rw [ef 43 (by omega)]; exact u1, by rw [e _ (by omega)]; exact u2, by rw [e _ (by omega)]; exact u3, fun i hi => by rw [e _ (by omega)]; exact u4 i hi⟩, by rw [ef 73 (by omega)]; exact b3, ⟨by rw [ef 52 (by omega)]; exact u5, by rw [ef 56 (by omega)]; exact u6, by rw [ef 53 (by omega)]; exact u7⟩, by rw [ef 74 (by omega)]; exact b5, fun i hi => by rw [e _ (by omega)]; exact b6 i hi⟩
theorem wu_seed {v1 : Int} (hn : jI32 v1) (ho : o = o0 + 505) (w : WRu T h o0 o) : ∃ v h1 h2, G_seed h o0 v1 = some (v, h1) ∧ M_seed h1 o v1 = some (v, h2) ∧ WRu T h2 o0 o := by
  obtain ⟨pl, pd, rf, g, U, V, hg⟩ := w
  by_cases c : v1 < 0
  · have fin := WRu.rfs (kk := 6) ho (by decide) hg U V
    obtain ⟨h1, hh1⟩ : ∃ h1 : jH, h1 = jup h (o0 + 3) 6 (wr (h (o0 + 3) 6 + 1)) := ⟨_, rfl⟩
    rw [← hh1] at fin
    have e1 : G_seed h o0 v1 = some (0, h1) := by
      unfold G_seed
      rw [if_pos c, show G_deny h o0 6 = _ from c_deny (kk := 6) (by decide), Option.bind_some, hh1]
      rfl
    have e2 : M_seed h1 o v1 = some (0, jup h1 (o + 2) 6 (wr (h1 (o + 2) 6 + 1))) := by
      unfold M_seed
      rw [if_pos c, show M_isRefused h1 o 6 = _ from m_isRefused (k := 6) (by decide), Option.bind_some]
      rfl
    exact ⟨_, h1, _, e1, e2, fin⟩
  · have e1 : G_seed h o0 v1 = some (1, jup h o0 5 v1) := by
      unfold G_seed
      rw [if_neg c]
    have e2 : M_seed (jup h o0 5 v1) o v1 = some (1, jup (jup h o0 5 v1) o 75 v1) := by
      unfold M_seed
      rw [if_neg c]
    exact ⟨_, _, _, e1, e2, pl, pd, rf, _, (U.sd (v := v1)).lo (fun z hz => jup_ne (by omega)), (V.hi (fun z hz => jup_ne (by omega))).sd (v := v1), hg.1, hg.2.1, by show 0 ≤ v1; omega, by show v1 < 2147483648; have := hn.2; omega⟩
theorem wu_ask (ho : o = o0 + 505) (w : WRu T h o0 o) : ∃ v h1 h2, G_ask T h o0 = some (v, h1) ∧ M_ask h1 o = some (v, h2) ∧ WRu T h2 o0 o := by
  obtain ⟨pl, pd, rf, g, U, V, hg⟩ := w
  have V1 : MHu (jup h o0 1 0) o rf g := V.hi (fun z hz => jup_ne (by omega))
  have e1 : G_ask T h o0 = some (-1000000000000000, jup h o0 1 0) := by
    unfold G_ask G_takeTape
    rw [Option.bind_some, U.t0.told, Option.bind_some, if_pos rfl]
  have e2 : M_ask (jup h o0 1 0) o = some (-1000000000000000, jup (jup h o0 1 0) o 1 0) := by
    unfold M_ask
    rw [if_pos V1.2.1.1]
  exact ⟨_, _, _, e1, e2, pl, pd, rf, _, U.t0.lo (fun z hz => jup_ne (by omega)), V1.t0, hg.nil⟩
theorem CHu.jn {e : Int × Nat} (U : CHu T h o0 pl pd rf g) (f : CJn o0 pd h h') (h1 : h' o0 1 = 0) (hr : ∀ i, h' (o0 + 3) i = (if i = 1 then wr (h (o0 + 3) 1 + 1) else h (o0 + 3) i)) (hb : PBad (o0 + 17) h' e) : CHu T h' o0 pl pd (pu rf 1 (wr (rf 1 + 1))) (spGJn g e) := by
  have hp := U.1.1.2.pos
  obtain ⟨a1, a2, ⟨⟨u1, u2, u3⟩, ⟨u4, u5, u6⟩, ⟨u7, u8⟩, ⟨u9, u10, u11⟩, ⟨u12, u13⟩, u14⟩, a4, a5, a6⟩ := U
  have e : ∀ z, (pl ≤ z ∧ z ≤ pl + 8) ∨ (o0 + 35 ≤ z) → h' z = h z := fun z hz => f.1 z (by omega) (by omega) (by omega) (by omega)
  refine ⟨a1.jn f h1 hb, by rw [e _ (by omega)]; exact a2, ⟨⟨by rw [e _ (by omega)]; exact u1, by rw [e _ (by omega)]; exact u2, fun i hi => by rw [e _ (by omega)]; exact u3 i hi⟩, ⟨by rw [e _ (by omega)]; exact u4, by rw [e _ (by omega)]; exact u5, by rw [e _ (by omega)]; exact u6⟩, ⟨by rw [e _ (by omega)]; exact u7, by rw [e _ (by omega)]; exact u8⟩, ⟨by rw [e _ (by omega)]; exact u9, by rw [e _ (by omega)]; exact u10, by rw [e _ (by omega)]; exact u11⟩, ⟨by rw [e _ (by omega)]; exact u12, by rw [e _ (by omega)]; exact u13⟩, fun i hi => by rw [e _ (by omega)]; exact u14 i hi⟩, by rw [f.2.1 13 (by omega)]; exact a4, by rw [f.2.1 14 (by omega)]; exact a5, fun i hi => ?_⟩
  rw [hr, a6 1 (by decide), a6 i hi]
  rfl
theorem MHu.jn {e : Int × Nat} (V : MHu h o rf g) (f : MJn o h h') (h1 : h' o 1 = 0) (hr : ∀ i, h' (o + 2) i = (if i = 1 then wr (h (o + 2) 1 + 1) else h (o + 2) i)) (h7 : h' o 7 = e.1) (h8 : h' o 8 = (e.2 : Int)) : MHu h' o (pu rf 1 (wr (rf 1 + 1))) (spGJn g e) := by
  obtain ⟨a1, ⟨u1, u2, u3, u4⟩, a3, ⟨u5, u6, u7⟩, a5, a6⟩ := V
  have ef : ∀ i, i = 43 ∨ i = 52 ∨ i = 53 ∨ i = 56 ∨ i = 73 ∨ i = 74 → h' o i = h o i := fun i hi => f.2.1 i (by omega) (by omega) (by omega) (by omega) (by rcases hi with e | e | e | e | e | e <;> subst e <;> decide)
  refine ⟨a1.jn f h1 h7 h8, ⟨by rw [ef 43 (by omega)]; exact u1, by rw [f.2.2.1 5 (by omega)]; exact u2, by rw [f.2.2.1 6 (by omega)]; exact u3, fun i hi => by rw [f.1 _ (by omega) (by omega) (by omega) (by omega) (by omega) (by omega) (by omega) (by omega) (by omega)]; exact u4 i hi⟩, by rw [ef 73 (by omega)]; exact a3, ⟨by rw [ef 52 (by omega)]; exact u5, by rw [ef 56 (by omega)]; exact u6, by rw [ef 53 (by omega)]; exact u7⟩, by rw [ef 74 (by omega)]; exact a5, fun i hi => ?_⟩
  rw [hr, a6 1 (by decide), a6 i hi]
  rfl
theorem wu_journal (ho : o = o0 + 505) (w : WRu T h o0 o) : ∃ v h1 h2, G_journal T h o0 = some (v, h1) ∧ M_journal h1 o = some (v, h2) ∧ WRz T h2 o0 o (k + 1) := by
  obtain ⟨pl, pd, rf, g, U, V, hg⟩ := w
  have hp := U.1.1.2.pos
  obtain ⟨j1, j2⟩ := c_journal U.1.1.1 U.1.1.2 U.1.2.1 U.1.2.2.1 hg.1 U.1.2.2.2.1
  cases hq : spJour g.1 with
  | inl e =>
    obtain ⟨h1, c1, c2, c3, c4, c5⟩ := j1 e hq
    have V1 := V.hi (fun z hz => c2.1 z (by omega) (by omega) (by omega) (by omega))
    obtain ⟨h2, m1, m2, m3, m4, m5, m6⟩ := (m_journal V1.1.2.1 hg.1 V1.1.1.1 V1.1.1.2.1).1 e hq
    exact ⟨_, h1, h2, c1, m1, Or.inr ⟨pl, pd, _, _, (U.jn c2 c3 c4 c5).lo (fun z hz => m2.1 z (by omega) (by omega) (by omega) (by omega) (by omega) (by omega) (by omega) (by omega) (by omega)), V1.jn m2 m3 m4 m5 m6, spGJn_ok hg⟩⟩
  | inr x =>
    obtain ⟨⟨a, b, c⟩, n, q⟩ := x
    obtain ⟨d1, d2, d3⟩ := TDk.jy (k := k + 1) (rf := rf) hg hq
    obtain ⟨h1, c1, c2, c3, c4, c5, c6, c7, c8⟩ := j2 a b c n q hq
    obtain ⟨s0, s1⟩ := U.1.jy (B := 0) U.2.2.2.2.1 U.2.2.2.2.2 d1 d2 c2 c3 c4 c5 c6 c7 c8
    have V1 := V.hi (fun z hz => s0 z (by omega))
    obtain ⟨h2, m1, m2, m3, m4, m5, m6⟩ := (m_journal V1.1.2.1 hg.1 V1.1.1.1 V1.1.1.2.1).2 a b c n q hq
    have s2 := V1.1.jy (rf := rf) V1.2.2.2.1 V1.2.2.2.2.1 V1.2.2.2.2.2 m2 m3 m4 m5 m6
    exact ⟨_, h1, h2, c1, m1, Or.inl (WRt.mk ho ⟨s0, s1⟩ s2 d3)⟩
end UNT
