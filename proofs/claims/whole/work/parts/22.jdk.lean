/-! the JDK's methods that are reached -/
noncomputable def JArr_fill_g_B5  (h : jH) (r0 : Nat) (n0 : Nat) (v1 : Int) (v2 : Int) (v3 : Int) : Option ((Int × jH) ⊕ jH) := (if v2 < v3 then (if 0 ≤ v2 ∧ (v2).toNat < n0 then some (.inl ((wr (v2 + 1)), (jup h r0 (v2).toNat v1))) else none) else Option.map Sum.inr (some h))
noncomputable def JArr_fill_g_L5  (h : jH) (r0 : Nat) (n0 : Nat) (v1 : Int) (v2 : Int) (v3 : Int) : Option jH := jloop (fun s : (Int × jH) => JArr_fill_g_B5 s.2 r0 n0 v1 s.1 v3) (v2, h)
def yk_JArr_fill_g_L5 (T : jT) (xs : List Int) (d : Nat) (y : jV × jS)  (r0 : Nat) (n0 : Nat) (v1 : Int) (v3 : Int) : ((Int × jH) ⊕ jH) → Prop
  | .inl (v2, h) => jEv xs d (359, 5, [(2, Int.ofNat r0), (0, v1), (0, v2), (0, v3)], []) (T, h) y
  | .inr o => ykV T y o
theorem t_JArr_fill_g_B5 {T : jT} {xs : List Int} {d : Nat} {y : jV × jS} (hd : 0 ≤ d) {h : jH}  {r0 : Nat} {n0 : Nat} {v1 : Int} {v2 : Int} {v3 : Int} {out : ((Int × jH) ⊕ jH)} (hr0 : T.1[r0]? = some (20, n0)) (H : JArr_fill_g_B5 h r0 n0 v1 v2 v3 = some out) (HY : yk_JArr_fill_g_L5 T xs d y r0 n0 v1 v3 out) : jEv xs d (359, 5, [(2, Int.ofNat r0), (0, v1), (0, v2), (0, v3)], []) (T, h) y := by
  unfold JArr_fill_g_B5 at H
  refine jEv.blk [(.iload_n 2, 1, []), (.iload_n 3, 1, [])] (by decide +kernel) (pc' := 7) (ls' := [(2, Int.ofNat r0), (0, v1), (0, v2), (0, v3)]) (st' := [(0, v3), (0, v2)]) rfl ?_
  refine jEv.ic_ge (t := 20) (show jfI 359 7 (.if_icmp .ge 13) 3 [] = true by decide +kernel) rfl H (fun c1 H => ?_) (fun c1 H => ?_)
  · refine jEv.blk [(.aload_n 0, 1, []), (.iload_n 2, 1, []), (.iload_n 1, 1, [])] (by decide +kernel) (pc' := 13) (ls' := [(2, Int.ofNat r0), (0, v1), (0, v2), (0, v3)]) (st' := [(0, v1), (0, v2), (2, Int.ofNat r0)]) rfl ?_
    refine jEv.ast (Or.inl ⟨rfl, rfl, rfl⟩) (show jfI 359 13 (.iastore) 1 [] = true by decide +kernel) hr0 rfl H (fun c2 H => ?_)
    refine jEv.blk [(.iinc 2 1, 3, [])] (by decide +kernel) (pc' := 17) (ls' := [(2, Int.ofNat r0), (0, v1), (0, (wr (v2 + 1))), (0, v3)]) (st' := []) rfl ?_
    refine jEv.goto (t := 5) (show jfI 359 17 (.goto (-12)) 3 [] = true by decide +kernel) rfl ?_
    exact (by cases H; exact HY)
  · refine jmapr H HY (fun out H (HY : ykV T y out) => ?_)
    exact jEv.retV (show jfI 359 20 (.return_) 1 [] = true by decide +kernel) (by decide +kernel) (by cases H; exact HY)
theorem t_JArr_fill_g_L5 {T : jT} {xs : List Int} {d : Nat} {y : jV × jS} (hd : 0 ≤ d) {h : jH}  {r0 : Nat} {n0 : Nat} {v1 : Int} {v2 : Int} {v3 : Int} {out : jH} (hr0 : T.1[r0]? = some (20, n0)) (H : JArr_fill_g_L5 h r0 n0 v1 v2 v3 = some out) (HY : ykV T y out) : jEv xs d (359, 5, [(2, Int.ofNat r0), (0, v1), (0, v2), (0, v3)], []) (T, h) y :=
  jloop_sound (G := fun s : (Int × jH) => jEv xs d (359, 5, [(2, Int.ofNat r0), (0, v1), (0, s.1), (0, v3)], []) (T, s.2) y) (K := yk_JArr_fill_g_L5 T xs d y r0 n0 v1 v3) (fun s out H HY => t_JArr_fill_g_B5 hd hr0 H HY) (fun s' hg => hg) (s := (v2, h)) H HY
noncomputable def JArr_fill_g  (h : jH) (r0 : Nat) (n0 : Nat) (v1 : Int) : Option jH := JArr_fill_g_L5 h r0 n0 v1 0 ((n0 : Nat) : Int)
theorem t_JArr_fill_g {T : jT} {xs : List Int} {h : jH}  {r0 : Nat} {n0 : Nat} {v1 : Int} {out : jH} (hr0 : T.1[r0]? = some (20, n0)) (H : JArr_fill_g h r0 n0 v1 = some out) : jEm xs 1 359 [(2, Int.ofNat r0), (0, v1)] (T, h) ((3, 0), (T, out)) := by
  have hd : 0 ≤ 0 := Nat.le_refl _
  obtain ⟨y, ey⟩ : ∃ y : jV × jS, y = ((3, 0), (T, out)) := ⟨_, rfl⟩
  rw [← ey]
  have HY : ykV T y out := ey
  refine jEm.ent (n := 4) (by decide +kernel) (Nat.le_of_ble_eq_true rfl) ?_
  show jEv xs 0 (359, 0, [(2, Int.ofNat r0), (0, v1), (3, 0), (3, 0)], []) (T, h) y
  unfold JArr_fill_g at H
  refine jEv.blk [(.iconst 0, 1, []), (.istore_n 2, 1, []), (.aload_n 0, 1, [])] (by decide +kernel) (pc' := 3) (ls' := [(2, Int.ofNat r0), (0, v1), (0, 0), (3, 0)]) (st' := [(2, Int.ofNat r0)]) rfl ?_
  refine jEv.alen (show jfI 359 3 (.arraylength) 1 [] = true by decide +kernel) hr0 (by decide) ?_
  refine jEv.blk [(.istore_n 3, 1, [])] (by decide +kernel) (pc' := 5) (ls' := [(2, Int.ofNat r0), (0, v1), (0, 0), (0, ((n0 : Nat) : Int))]) (st' := []) rfl ?_
  exact t_JArr_fill_g_L5 (T := T) (xs := xs) (y := y) hd hr0 H HY
noncomputable def JMath_min_0_g  (v0 : Int) (v1 : Int) : Option Int := (if v1 < v0 then some v1 else some v0)
theorem t_JMath_min_0_g {T : jT} {xs : List Int} {h : jH}  {v0 : Int} {v1 : Int} {out : Int}  (H : JMath_min_0_g v0 v1 = some out) : jEm xs 1 360 [(0, v0), (0, v1)] (T, h) ((0, out), (T, h)) := by
  have hd : 0 ≤ 0 := Nat.le_refl _
  obtain ⟨y, ey⟩ : ∃ y : jV × jS, y = ((0, out), (T, h)) := ⟨_, rfl⟩
  rw [← ey]
  have HY : ykIp T h y out := ey
  refine jEm.ent (n := 2) (by decide +kernel) (Nat.le_of_ble_eq_true rfl) ?_
  show jEv xs 0 (360, 0, [(0, v0), (0, v1)], []) (T, h) y
  unfold JMath_min_0_g at H
  refine jEv.blk [(.iload_n 0, 1, []), (.iload_n 1, 1, [])] (by decide +kernel) (pc' := 2) (ls' := [(0, v0), (0, v1)]) (st' := [(0, v1), (0, v0)]) rfl ?_
  refine jEv.ic_gt (t := 9) (show jfI 360 2 (.if_icmp .gt 7) 3 [] = true by decide +kernel) rfl H (fun c1 H => ?_) (fun c1 H => ?_)
  · refine jEv.blk [(.iload_n 1, 1, [])] (by decide +kernel) (pc' := 10) (ls' := [(0, v0), (0, v1)]) (st' := [(0, v1)]) rfl ?_
    exact jEv.retI (show jfI 360 10 (.ireturn) 1 [] = true by decide +kernel) (by decide +kernel) (by cases H; exact HY)
  · refine jEv.blk [(.iload_n 0, 1, [])] (by decide +kernel) (pc' := 6) (ls' := [(0, v0), (0, v1)]) (st' := [(0, v0)]) rfl ?_
    refine jEv.goto (t := 10) (show jfI 360 6 (.goto 4) 3 [] = true by decide +kernel) rfl ?_
    exact jEv.retI (show jfI 360 10 (.ireturn) 1 [] = true by decide +kernel) (by decide +kernel) (by cases H; exact HY)
noncomputable def JMath_min_1_g  (v0 : Int) (v2 : Int) : Option Int := (if 0 < (jcmp v0 v2) then some v2 else some v0)
theorem t_JMath_min_1_g {T : jT} {xs : List Int} {h : jH}  {v0 : Int} {v2 : Int} {out : Int}  (H : JMath_min_1_g v0 v2 = some out) : jEm xs 1 368 [(1, v0), (1, v2)] (T, h) ((1, out), (T, h)) := by
  have hd : 0 ≤ 0 := Nat.le_refl _
  obtain ⟨y, ey⟩ : ∃ y : jV × jS, y = ((1, out), (T, h)) := ⟨_, rfl⟩
  rw [← ey]
  have HY : ykJp T h y out := ey
  refine jEm.ent (n := 4) (by decide +kernel) (Nat.le_of_ble_eq_true rfl) ?_
  show jEv xs 0 (368, 0, [(1, v0), (3, 0), (1, v2), (3, 0)], []) (T, h) y
  unfold JMath_min_1_g at H
  refine jEv.blk [(.lload_n 0, 1, []), (.lload_n 2, 1, []), (.lcmp, 1, [])] (by decide +kernel) (pc' := 3) (ls' := [(1, v0), (3, 0), (1, v2), (3, 0)]) (st' := [(0, (jcmp v0 v2))]) rfl ?_
  refine jEv.if_gt (t := 10) (show jfI 368 3 (.ifCond .gt 7) 3 [] = true by decide +kernel) rfl H (fun c1 H => ?_) (fun c1 H => ?_)
  · refine jEv.blk [(.lload_n 2, 1, [])] (by decide +kernel) (pc' := 11) (ls' := [(1, v0), (3, 0), (1, v2), (3, 0)]) (st' := [(1, v2)]) rfl ?_
    exact jEv.retJ (show jfI 368 11 (.lreturn) 1 [] = true by decide +kernel) (by decide +kernel) (by cases H; exact HY)
  · refine jEv.blk [(.lload_n 0, 1, [])] (by decide +kernel) (pc' := 7) (ls' := [(1, v0), (3, 0), (1, v2), (3, 0)]) (st' := [(1, v0)]) rfl ?_
    refine jEv.goto (t := 11) (show jfI 368 7 (.goto 4) 3 [] = true by decide +kernel) rfl ?_
    exact jEv.retJ (show jfI 368 11 (.lreturn) 1 [] = true by decide +kernel) (by decide +kernel) (by cases H; exact HY)
noncomputable def JMath_max_0_g  (v0 : Int) (v2 : Int) : Option Int := (if (jcmp v0 v2) < 0 then some v2 else some v0)
theorem t_JMath_max_0_g {T : jT} {xs : List Int} {h : jH}  {v0 : Int} {v2 : Int} {out : Int}  (H : JMath_max_0_g v0 v2 = some out) : jEm xs 1 369 [(1, v0), (1, v2)] (T, h) ((1, out), (T, h)) := by
  have hd : 0 ≤ 0 := Nat.le_refl _
  obtain ⟨y, ey⟩ : ∃ y : jV × jS, y = ((1, out), (T, h)) := ⟨_, rfl⟩
  rw [← ey]
  have HY : ykJp T h y out := ey
  refine jEm.ent (n := 4) (by decide +kernel) (Nat.le_of_ble_eq_true rfl) ?_
  show jEv xs 0 (369, 0, [(1, v0), (3, 0), (1, v2), (3, 0)], []) (T, h) y
  unfold JMath_max_0_g at H
  refine jEv.blk [(.lload_n 0, 1, []), (.lload_n 2, 1, []), (.lcmp, 1, [])] (by decide +kernel) (pc' := 3) (ls' := [(1, v0), (3, 0), (1, v2), (3, 0)]) (st' := [(0, (jcmp v0 v2))]) rfl ?_
  refine jEv.if_lt (t := 10) (show jfI 369 3 (.ifCond .lt 7) 3 [] = true by decide +kernel) rfl H (fun c1 H => ?_) (fun c1 H => ?_)
  · refine jEv.blk [(.lload_n 2, 1, [])] (by decide +kernel) (pc' := 11) (ls' := [(1, v0), (3, 0), (1, v2), (3, 0)]) (st' := [(1, v2)]) rfl ?_
    exact jEv.retJ (show jfI 369 11 (.lreturn) 1 [] = true by decide +kernel) (by decide +kernel) (by cases H; exact HY)
  · refine jEv.blk [(.lload_n 0, 1, [])] (by decide +kernel) (pc' := 7) (ls' := [(1, v0), (3, 0), (1, v2), (3, 0)]) (st' := [(1, v0)]) rfl ?_
    refine jEv.goto (t := 11) (show jfI 369 7 (.goto 4) 3 [] = true by decide +kernel) rfl ?_
    exact jEv.retJ (show jfI 369 11 (.lreturn) 1 [] = true by decide +kernel) (by decide +kernel) (by cases H; exact HY)
noncomputable def JMath_max_1_g  (v0 : Int) (v1 : Int) : Option Int := (if v0 < v1 then some v1 else some v0)
theorem t_JMath_max_1_g {T : jT} {xs : List Int} {h : jH}  {v0 : Int} {v1 : Int} {out : Int}  (H : JMath_max_1_g v0 v1 = some out) : jEm xs 1 371 [(0, v0), (0, v1)] (T, h) ((0, out), (T, h)) := by
  have hd : 0 ≤ 0 := Nat.le_refl _
  obtain ⟨y, ey⟩ : ∃ y : jV × jS, y = ((0, out), (T, h)) := ⟨_, rfl⟩
  rw [← ey]
  have HY : ykIp T h y out := ey
  refine jEm.ent (n := 2) (by decide +kernel) (Nat.le_of_ble_eq_true rfl) ?_
  show jEv xs 0 (371, 0, [(0, v0), (0, v1)], []) (T, h) y
  unfold JMath_max_1_g at H
  refine jEv.blk [(.iload_n 0, 1, []), (.iload_n 1, 1, [])] (by decide +kernel) (pc' := 2) (ls' := [(0, v0), (0, v1)]) (st' := [(0, v1), (0, v0)]) rfl ?_
  refine jEv.ic_lt (t := 9) (show jfI 371 2 (.if_icmp .lt 7) 3 [] = true by decide +kernel) rfl H (fun c1 H => ?_) (fun c1 H => ?_)
  · refine jEv.blk [(.iload_n 1, 1, [])] (by decide +kernel) (pc' := 10) (ls' := [(0, v0), (0, v1)]) (st' := [(0, v1)]) rfl ?_
    exact jEv.retI (show jfI 371 10 (.ireturn) 1 [] = true by decide +kernel) (by decide +kernel) (by cases H; exact HY)
  · refine jEv.blk [(.iload_n 0, 1, [])] (by decide +kernel) (pc' := 6) (ls' := [(0, v0), (0, v1)]) (st' := [(0, v0)]) rfl ?_
    refine jEv.goto (t := 10) (show jfI 371 6 (.goto 4) 3 [] = true by decide +kernel) rfl ?_
    exact jEv.retI (show jfI 371 10 (.ireturn) 1 [] = true by decide +kernel) (by decide +kernel) (by cases H; exact HY)
theorem t_JMath_min_0 {T : jT} {xs : List Int} {h : jH} {a b : Int} : jEm xs 1 360 [(0, a), (0, b)] (T, h) ((0, min a b), (T, h)) := t_JMath_min_0_g (by
  unfold JMath_min_0_g
  by_cases c : b < a
  · rw [if_pos c, Int.min_def, if_neg (by omega)]
  · rw [if_neg c, Int.min_def, if_pos (by omega)])
theorem t_JMath_max_1 {T : jT} {xs : List Int} {h : jH} {a b : Int} : jEm xs 1 371 [(0, a), (0, b)] (T, h) ((0, max a b), (T, h)) := t_JMath_max_1_g (by
  unfold JMath_max_1_g
  by_cases c : a < b
  · rw [if_pos c, Int.max_def, if_pos (by omega)]
  · rw [if_neg c, Int.max_def]
    split
    · congr 1; omega
    · rfl)
theorem jcmp_pos (a b : Int) : 0 < jcmp a b ↔ b < a := by
  unfold jcmp
  split
  · omega
  · split <;> omega
theorem jcmp_neg (a b : Int) : jcmp a b < 0 ↔ a < b := by
  unfold jcmp
  split
  · omega
  · split <;> omega
theorem t_JMath_min_1 {T : jT} {xs : List Int} {h : jH} {a b : Int} : jEm xs 1 368 [(1, a), (1, b)] (T, h) ((1, min a b), (T, h)) := t_JMath_min_1_g (by
  unfold JMath_min_1_g
  by_cases c : b < a
  · rw [if_pos ((jcmp_pos a b).mpr c), Int.min_def, if_neg (by omega)]
  · rw [if_neg (fun h => c ((jcmp_pos a b).mp h)), Int.min_def, if_pos (by omega)])
theorem t_JMath_max_0 {T : jT} {xs : List Int} {h : jH} {a b : Int} : jEm xs 1 369 [(1, a), (1, b)] (T, h) ((1, max a b), (T, h)) := t_JMath_max_0_g (by
  unfold JMath_max_0_g
  by_cases c : a < b
  · rw [if_pos ((jcmp_neg a b).mpr c), Int.max_def, if_pos (by omega)]
  · rw [if_neg (fun h => c ((jcmp_neg a b).mp h)), Int.max_def]
    split
    · congr 1; omega
    · rfl)
theorem JArr_fill_loop (h : jH) (r n : Nat) (v : Int) (hn : n ≤ 100000) : ∀ (m i : Nat), i + m = n → JArr_fill_g_L5 (fun o => if o = r then (fun k => if k < i then v else h r k) else h o) r n v (i : Int) (n : Int) = some (jfill h r n v) := by
  intro m
  induction m with
  | zero =>
    intro i hi
    have e : i = n := by omega
    subst e
    unfold JArr_fill_g_L5
    rw [jloop_eq]
    unfold JArr_fill_g_B5
    rw [if_neg (by omega)]
    rfl
  | succ m ih =>
    intro i hi
    have := ih (i + 1) (by omega)
    unfold JArr_fill_g_L5 at this ⊢
    rw [jloop_eq]
    have e : JArr_fill_g_B5 (fun o => if o = r then (fun k => if k < i then v else h r k) else h o) r n v (i : Int) (n : Int) = some (.inl (((i + 1 : Nat) : Int), (fun o => if o = r then (fun k => if k < i + 1 then v else h r k) else h o))) := by
      unfold JArr_fill_g_B5
      rw [if_pos (by omega), if_pos (by omega)]
      congr 3
      · rw [wr_id ⟨by omega, by omega⟩]
        omega
      · funext o
        unfold jup
        by_cases ho : o = r
        · simp only [ho, if_true]
          funext k
          by_cases hk : k = i
          · subst hk
            simp
          · have : ((i : Int).toNat) = i := rfl
            simp only [this, hk, if_false]
            by_cases hk2 : k < i
            · rw [if_pos hk2, if_pos (by omega)]
            · rw [if_neg hk2, if_neg (by omega)]
        · simp only [ho, if_false]
    dsimp only
    rw [e]
    exact this
theorem t_JArr_fill {T : jT} {xs : List Int} {h : jH} {r n : Nat} {v : Int} (hn : n ≤ 100000) (hr : T.1[r]? = some (20, n)) : jEm xs 1 359 [(2, Int.ofNat r), (0, v)] (T, h) ((3, 0), (T, jfill h r n v)) := t_JArr_fill_g hr (by
  have := JArr_fill_loop h r n v hn n 0 (by omega)
  have e : (fun o => if o = r then (fun k => if k < 0 then v else h r k) else h o) = h := by
    funext o
    by_cases ho : o = r
    · simp [ho]
    · simp [ho]
  rw [e] at this
  exact this)
/-! String constants -/
section JSTR
variable {xs : List Int} {d mi pc : Nat} {ls st : List jV} {σ : jS} {y : jV × jS}
theorem jEv.gS0 {idx a b w : Nat} {z : Int} (hf : jfI mi pc (.getfield idx) 3 [50, 0, a, b, w] = true) (hz : 10 ≤ z ∧ z < 40) (kk : jEv xs d (mi, pc + 3, ls, (4, z + 40) :: st) σ y) : jEv xs d (mi, pc, ls, (4, z) :: st) σ y := by
  refine jEv.on ?_ kk
  unfold jn0; dsimp only; rw [jfI_of hf]
  show jgf [50, 0, a, b, w] mi pc ls ((4, z) :: st) σ = _
  exact jpos (c := 10 ≤ z ∧ z < 40) hz rfl
theorem jEv.gS1 {idx a b w : Nat} {z : Int} (hf : jfI mi pc (.getfield idx) 3 [50, 1, a, b, w] = true) (hz : 10 ≤ z ∧ z < 40) (kk : jEv xs d (mi, pc + 3, ls, (0, 0) :: st) σ y) : jEv xs d (mi, pc, ls, (4, z) :: st) σ y := by
  refine jEv.on ?_ kk
  unfold jn0; dsimp only; rw [jfI_of hf]
  show jgf [50, 1, a, b, w] mi pc ls ((4, z) :: st) σ = _
  exact jpos (c := 10 ≤ z ∧ z < 40) hz rfl
theorem jEv.gs7 {idx b w : Nat} (hf : jfI mi pc (.getstatic idx) 3 [7, b, w] = true) (kk : jEv xs d (mi, pc + 3, ls, (0, 1) :: st) σ y) : jEv xs d (mi, pc, ls, st) σ y := by
  refine jEv.on ?_ kk
  unfold jn0; dsimp only; rw [jfI_of hf]
  rfl
theorem jEv.baldX {z i : Int} {l : List Int} (hf : jfI mi pc .baload 1 [] = true) (hx : jext xs z = some (25, l)) (hc : 0 ≤ i ∧ i.toNat < l.length) (kk : jEv xs d (mi, pc + 1, ls, (0, l.getD i.toNat 0) :: st) σ y) : jEv xs d (mi, pc, ls, (0, i) :: (4, z) :: st) σ y := by
  refine jEv.on ?_ kk
  unfold jn0; dsimp only; rw [jfI_of hf]
  show jld 25 0 xs mi pc ls ((0, i) :: (4, z) :: st) σ = _
  show (match jext xs z with | some (k, l) => if k = 25 ∧ jinb i l.length = true then jon mi (pc + 1) ls ((0, l.getD i.toNat 0) :: st) σ else none | none => none) = _
  rw [hx]
  exact jpos (c := (25 : Nat) = 25 ∧ jinb i l.length = true) ⟨rfl, jinb_at hc⟩ rfl
end JSTR
theorem jIsS_ext {xs : List Int} {z : Int} {w : List Int} (h : jIsS z w) : jext xs (z + 40) = some (25, w) := by
  unfold jext
  have := h.1
  rw [if_neg (by omega), if_neg (by omega), if_neg (by omega), if_pos (by omega), show z + 40 - 50 = z - 10 by omega, h.2]
  rfl
theorem jIsS_bnd {z : Int} {w : List Int} (h : jIsS z w) : (∀ v ∈ w, 0 ≤ v ∧ v < 128) ∧ w.length < 100 := by
  have h1 := List.all_eq_true.mp jStr_in _ (List.mem_of_getElem? h.2)
  simp only [Bool.and_eq_true, decide_eq_true_eq, List.all_eq_true] at h1
  exact h1
theorem t_J_checkIndex {xs : List Int} {σ : jS} {i n f : Int} (h : 0 ≤ i ∧ i < n) : jEm xs 1 367 [(0, i), (0, n), (4, f)] σ ((0, i), σ) := by
  refine jEm.ent (n := 3) (by decide +kernel) (Nat.le_of_ble_eq_true rfl) ?_
  show jEv xs 0 (367, 0, [(0, i), (0, n), (4, f)], []) σ ((0, i), σ)
  refine jEv.blk [(.iload_n 0, 1, [])] (by decide +kernel) (pc' := 1) (ls' := [(0, i), (0, n), (4, f)]) (st' := [(0, i)]) rfl ?_
  refine jEv.cnd0 (t := 9) (show jfI 367 1 (.ifCond .lt 8) 3 [] = true by decide +kernel) rfl (fun c => absurd (by simpa [jcnd] using c) (show ¬ i < 0 by omega)) (fun _ => ?_)
  refine jEv.blk [(.iload_n 0, 1, []), (.iload_n 1, 1, [])] (by decide +kernel) (pc' := 6) (ls' := [(0, i), (0, n), (4, f)]) (st' := [(0, n), (0, i)]) rfl ?_
  refine jEv.cnd (t := 16) (show jfI 367 6 (.if_icmp .lt 10) 3 [] = true by decide +kernel) rfl (fun _ => ?_) (fun c => absurd h.2 (by simpa [jcnd] using c))
  refine jEv.blk [(.iload_n 0, 1, [])] (by decide +kernel) (pc' := 17) (ls' := [(0, i), (0, n), (4, f)]) (st' := [(0, i)]) rfl ?_
  exact jEv.retI (show jfI 367 17 (.ireturn) 1 [] = true by decide +kernel) (by decide +kernel) rfl
theorem t_JStr_checkIndex {xs : List Int} {σ : jS} {i n : Int} (h : 0 ≤ i ∧ i < n) : jEm xs 2 366 [(0, i), (0, n)] σ ((3, 0), σ) := by
  refine jEm.ent (n := 2) (by decide +kernel) (Nat.le_of_ble_eq_true rfl) ?_
  show jEv xs 1 (366, 0, [(0, i), (0, n)], []) σ ((3, 0), σ)
  refine jEv.blk [(.iload_n 0, 1, []), (.iload_n 1, 1, [])] (by decide +kernel) (pc' := 2) (ls' := [(0, i), (0, n)]) (st' := [(0, n), (0, i)]) rfl ?_
  refine jEv.gs (k := 3) (show jfI 366 2 (.getstatic 1053) 3 [3, 0, 3169] = true by decide +kernel) (by decide) ?_
  refine jEv.calS (st' := [(0, i)]) (show jfI 366 5 (.invokestatic 1059) 3 [3, 367, 3, 3171] = true by decide +kernel) rfl (Or.inl rfl) rfl (Nat.le_of_ble_eq_true rfl) (t_J_checkIndex h) rfl ?_
  refine jEv.blk [(.pop, 1, [])] (by decide +kernel) (pc' := 9) (ls' := [(0, i), (0, n)]) (st' := []) rfl ?_
  exact jEv.retV (show jfI 366 9 (.return_) 1 [] = true by decide +kernel) (by decide +kernel) rfl
theorem jand255 {v : Int} (h : 0 ≤ v ∧ v < 128) : jand v 255 = v := by
  obtain ⟨n, rfl⟩ := Int.eq_ofNat_of_zero_le h.1
  have hn : n < 128 := by omega
  have key : ∀ n : Nat, n < 128 → jand (n : Int) 255 = n := by decide +kernel
  exact key n hn
theorem t_J_charAt {xs : List Int} {σ : jS} {z i : Int} {w : List Int} (hs : jIsS z w) (h : 0 ≤ i ∧ i.toNat < w.length) : jEm xs 3 365 [(4, z + 40), (0, i)] σ ((0, w.getD i.toNat 0), σ) := by
  have hx := jIsS_ext (xs := xs) hs
  have hb := jIsS_bnd hs
  have hv : 0 ≤ w.getD i.toNat 0 ∧ w.getD i.toNat 0 < 128 := by
    rw [List.getD_eq_getElem?_getD, List.getElem?_eq_getElem h.2]
    exact hb.1 _ (List.getElem_mem h.2)
  refine jEm.ent (n := 2) (by decide +kernel) (Nat.le_of_ble_eq_true rfl) ?_
  show jEv xs 2 (365, 0, [(4, z + 40), (0, i)], []) σ ((0, w.getD i.toNat 0), σ)
  refine jEv.blk [(.iload_n 1, 1, []), (.aload_n 0, 1, [])] (by decide +kernel) (pc' := 2) (ls' := [(4, z + 40), (0, i)]) (st' := [(4, z + 40), (0, i)]) rfl ?_
  refine jEv.alenX (show jfI 365 2 (.arraylength) 1 [] = true by decide +kernel) hx ?_
  refine jEv.calS (st' := []) (show jfI 365 3 (.invokestatic 9) 3 [3, 366, 2, 3166] = true by decide +kernel) rfl (Or.inl rfl) rfl (Nat.le_of_ble_eq_true rfl) (t_JStr_checkIndex (by omega)) rfl ?_
  refine jEv.blk [(.aload_n 0, 1, []), (.iload_n 1, 1, [])] (by decide +kernel) (pc' := 8) (ls' := [(4, z + 40), (0, i)]) (st' := [(0, i), (4, z + 40)]) rfl ?_
  refine jEv.baldX (show jfI 365 8 (.baload) 1 [] = true by decide +kernel) hx h ?_
  refine jEv.blk [(.sipush 255, 3, []), (.iand, 1, []), (.i2c, 1, [])] (by decide +kernel) (pc' := 14) (ls' := [(4, z + 40), (0, i)]) (st' := [(0, jand (w.getD i.toNat 0) 255 % 65536)]) rfl ?_
  have e : jand (w.getD i.toNat 0) 255 % 65536 = w.getD i.toNat 0 := by
    rw [jand255 hv]
    omega
  rw [e]
  refine jEv.fin ?_
  unfold jn0; dsimp only
  rw [jfI_of (mi := 365) (pc := 14) (i := .ireturn) (n := 1) (info := []) (by decide +kernel)]
  rw [show (jmi 365).2.2.2.1 = 6 by decide +kernel]
  exact jpos (c := jfit 23 (w.getD i.toNat 0) = true) (by simp only [jfit, Bool.and_eq_true, decide_eq_true_eq]; omega) rfl
theorem t_JStr_isLatin1 {xs : List Int} {σ : jS} {z : Int} (hz : 10 ≤ z ∧ z < 40) : jEm xs 1 364 [(4, z)] σ ((0, 1), σ) := by
  refine jEm.ent (n := 1) (by decide +kernel) (Nat.le_of_ble_eq_true rfl) ?_
  show jEv xs 0 (364, 0, [(4, z)], []) σ ((0, 1), σ)
  refine jEv.gs7 (show jfI 364 0 (.getstatic 38) 3 [7, 0, 3153] = true by decide +kernel) ?_
  refine jEv.cnd0 (t := 17) (show jfI 364 3 (.ifCond .eq 14) 3 [] = true by decide +kernel) rfl (fun c => absurd c (by decide)) (fun _ => ?_)
  refine jEv.blk [(.aload_n 0, 1, [])] (by decide +kernel) (pc' := 7) (ls' := [(4, z)]) (st' := [(4, z)]) rfl ?_
  refine jEv.gS1 (show jfI 364 7 (.getfield 15) 3 [50, 1, 0, 0, 11056] = true by decide +kernel) hz ?_
  refine jEv.cnd0 (t := 17) (show jfI 364 10 (.ifCond .ne 7) 3 [] = true by decide +kernel) rfl (fun c => absurd c (by decide)) (fun _ => ?_)
  refine jEv.blk [(.iconst 1, 1, [])] (by decide +kernel) (pc' := 14) (ls' := [(4, z)]) (st' := [(0, 1)]) rfl ?_
  refine jEv.goto (t := 18) (show jfI 364 14 (.goto 4) 3 [] = true by decide +kernel) rfl ?_
  exact jEv.retZ (show jfI 364 18 (.ireturn) 1 [] = true by decide +kernel) (by decide +kernel) (by decide) rfl
theorem t_JStr_charAt {xs : List Int} {σ : jS} {z i : Int} {w : List Int} (hs : jIsS z w) (h : 0 ≤ i ∧ i.toNat < w.length) : jEm xs 4 363 [(4, z), (0, i)] σ ((0, w.getD i.toNat 0), σ) := by
  have hb := jIsS_bnd hs
  have hv : 0 ≤ w.getD i.toNat 0 ∧ w.getD i.toNat 0 < 128 := by
    rw [List.getD_eq_getElem?_getD, List.getElem?_eq_getElem h.2]
    exact hb.1 _ (List.getElem_mem h.2)
  refine jEm.ent (n := 2) (by decide +kernel) (Nat.le_of_ble_eq_true rfl) ?_
  show jEv xs 3 (363, 0, [(4, z), (0, i)], []) σ ((0, w.getD i.toNat 0), σ)
  refine jEv.blk [(.aload_n 0, 1, [])] (by decide +kernel) (pc' := 1) (ls' := [(4, z), (0, i)]) (st' := [(4, z)]) rfl ?_
  refine jEv.calX (st' := [(0, 1)]) (show jfI 363 1 (.invokevirtual 492) 3 [1, 364, 0, 3159] = true by decide +kernel) rfl rfl rfl (Nat.le_of_ble_eq_true rfl) (by decide +kernel) hs.1 ((t_JStr_isLatin1 hs.1).mono (by decide)) rfl ?_
  refine jEv.cnd0 (t := 16) (show jfI 363 4 (.ifCond .eq 12) 3 [] = true by decide +kernel) rfl (fun c => absurd c (by decide)) (fun _ => ?_)
  refine jEv.blk [(.aload_n 0, 1, [])] (by decide +kernel) (pc' := 8) (ls' := [(4, z), (0, i)]) (st' := [(4, z)]) rfl ?_
  refine jEv.gS0 (show jfI 363 8 (.getfield 9) 3 [50, 0, 0, 0, 11055] = true by decide +kernel) hs.1 ?_
  refine jEv.blk [(.iload_n 1, 1, [])] (by decide +kernel) (pc' := 12) (ls' := [(4, z), (0, i)]) (st' := [(0, i), (4, z + 40)]) rfl ?_
  refine jEv.calS (st' := [(0, w.getD i.toNat 0)]) (show jfI 363 12 (.invokestatic 495) 3 [3, 365, 2, 3163] = true by decide +kernel) rfl (Or.inl rfl) rfl (Nat.le_of_ble_eq_true rfl) (t_J_charAt hs h) rfl ?_
  refine jEv.fin ?_
  unfold jn0; dsimp only
  rw [jfI_of (mi := 363) (pc := 15) (i := .ireturn) (n := 1) (info := []) (by decide +kernel)]
  rw [show (jmi 363).2.2.2.1 = 6 by decide +kernel]
  exact jpos (c := jfit 23 (w.getD i.toNat 0) = true) (by simp only [jfit, Bool.and_eq_true, decide_eq_true_eq]; omega) rfl
theorem t_JStr_coder {xs : List Int} {σ : jS} {z : Int} (hz : 10 ≤ z ∧ z < 40) : jEm xs 1 362 [(4, z)] σ ((0, 0), σ) := by
  refine jEm.ent (n := 1) (by decide +kernel) (Nat.le_of_ble_eq_true rfl) ?_
  show jEv xs 0 (362, 0, [(4, z)], []) σ ((0, 0), σ)
  refine jEv.gs7 (show jfI 362 0 (.getstatic 38) 3 [7, 0, 3153] = true by decide +kernel) ?_
  refine jEv.cnd0 (t := 13) (show jfI 362 3 (.ifCond .eq 10) 3 [] = true by decide +kernel) rfl (fun c => absurd c (by decide)) (fun _ => ?_)
  refine jEv.blk [(.aload_n 0, 1, [])] (by decide +kernel) (pc' := 7) (ls' := [(4, z)]) (st' := [(4, z)]) rfl ?_
  refine jEv.gS1 (show jfI 362 7 (.getfield 15) 3 [50, 1, 0, 0, 11056] = true by decide +kernel) hz ?_
  refine jEv.goto (t := 14) (show jfI 362 10 (.goto 4) 3 [] = true by decide +kernel) rfl ?_
  refine jEv.fin ?_
  unfold jn0; dsimp only
  rw [jfI_of (mi := 362) (pc := 14) (i := .ireturn) (n := 1) (info := []) (by decide +kernel)]
  rw [show (jmi 362).2.2.2.1 = 7 by decide +kernel]
  rfl
theorem t_JStr_length {xs : List Int} {σ : jS} {z : Int} {w : List Int} (hs : jIsS z w) : jEm xs 2 361 [(4, z)] σ ((0, (w.length : Int)), σ) := by
  have hx := jIsS_ext (xs := xs) hs
  have hb := jIsS_bnd hs
  refine jEm.ent (n := 1) (by decide +kernel) (Nat.le_of_ble_eq_true rfl) ?_
  show jEv xs 1 (361, 0, [(4, z)], []) σ ((0, (w.length : Int)), σ)
  refine jEv.blk [(.aload_n 0, 1, [])] (by decide +kernel) (pc' := 1) (ls' := [(4, z)]) (st' := [(4, z)]) rfl ?_
  refine jEv.gS0 (show jfI 361 1 (.getfield 9) 3 [50, 0, 0, 0, 11055] = true by decide +kernel) hs.1 ?_
  refine jEv.alenX (show jfI 361 4 (.arraylength) 1 [] = true by decide +kernel) hx ?_
  refine jEv.blk [(.aload_n 0, 1, [])] (by decide +kernel) (pc' := 6) (ls' := [(4, z)]) (st' := [(4, z), (0, (w.length : Int))]) rfl ?_
  refine jEv.calX (st' := [(0, 0), (0, (w.length : Int))]) (show jfI 361 6 (.invokevirtual 335) 3 [1, 362, 0, 3149] = true by decide +kernel) rfl rfl rfl (Nat.le_of_ble_eq_true rfl) (by decide +kernel) hs.1 (t_JStr_coder hs.1) rfl ?_
  refine jEv.blk [(.ishr, 1, [])] (by decide +kernel) (pc' := 10) (ls' := [(4, z)]) (st' := [(0, jshr (w.length : Int) 0)]) rfl ?_
  have e : jshr (w.length : Int) 0 = w.length := by
    have key : ∀ n : Nat, n < 100 → jshr (n : Int) 0 = n := by decide +kernel
    exact key _ hb.2
  rw [e]
  exact jEv.retI (show jfI 361 10 (.ireturn) 1 [] = true by decide +kernel) (by decide +kernel) rfl
