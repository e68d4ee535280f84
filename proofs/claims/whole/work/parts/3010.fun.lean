/-! methods as functions -/
def yk_M_laysArrived_L18 (T : jT) (xs : List Int) (d : Nat) (y : jV × jS)  (o0 : Nat) (v1 : Int) : ((Int × jH) ⊕ jH) → Prop
  | .inl (v2, h) => jEv xs d (328, 18, [(2, Int.ofNat o0), (0, v1), (0, v2), (3, 0)], []) (T, h) y
  | .inr o => ykV T y o
def yk_M_laysArrived_L30 (T : jT) (xs : List Int) (d : Nat) (y : jV × jS)  (o0 : Nat) (v1 : Int) (v2 : Int) : ((Int × jH) ⊕ ((Int × jH) ⊕ jH)) → Prop
  | .inl (v3, h) => jEv xs d (328, 30, [(2, Int.ofNat o0), (0, v1), (0, v2), (0, v3)], []) (T, h) y
  | .inr o => yk_M_laysArrived_L18 T xs d y o0 v1 o
set_option maxRecDepth 20000 in
noncomputable def M_laysArrived_p113  (h : jH) (o0 : Nat) (v1 : Int) (v2 : Int) : Option ((Int × jH) ⊕ jH) := Option.bind (M_triesAnew h o0) (fun b17 => some (.inl ((wr (v2 + 1)), b17)))
set_option maxRecDepth 20000 in
theorem t_M_laysArrived_p113 {T : jT} {xs : List Int} {d : Nat} {y : jV × jS} (hd : 7 ≤ d) {h : jH}  {o0 : Nat} {v1 : Int} {v2 : Int} {out : ((Int × jH) ⊕ jH)} (ho0 : isX12 T o0) (H : M_laysArrived_p113 h o0 v1 v2 = some out) (HY : yk_M_laysArrived_L18 T xs d y o0 v1 out) : jEv xs d (328, 113, [(2, Int.ofNat o0), (0, v1), (0, v2), (3, 0)], []) (T, h) y := by
  unfold M_laysArrived_p113 at H
  refine jEv.blk [(.aload_n 0, 1, [])] (by decide +kernel) (pc' := 114) (ls' := [(2, Int.ofNat o0), (0, v1), (0, v2), (3, 0)]) (st' := [(2, Int.ofNat o0)]) rfl ?_
  refine jbind H (fun b17 Hb17 H => ?_)
  refine jEv.calV (st' := []) (show jfI 328 114 (.invokevirtual 491) 3 [1, 307, 0, 10075] = true by decide +kernel) rfl (Or.inl rfl) rfl (Nat.le_of_ble_eq_true rfl) (by decide +kernel) (by decide) (isX12_L ho0) ((t_M_triesAnew (T := T) (xs := xs) ho0 Hb17).mono (jKle 1 hd)) rfl ?_
  refine jEv.blk [(.iinc 2 1, 3, [])] (by decide +kernel) (pc' := 120) (ls' := [(2, Int.ofNat o0), (0, v1), (0, (wr (v2 + 1))), (3, 0)]) (st' := []) rfl ?_
  refine jEv.goto (t := 18) (show jfI 328 120 (.goto (-102)) 3 [] = true by decide +kernel) rfl ?_
  exact (by cases H; exact HY)
set_option maxRecDepth 20000 in
noncomputable def M_laysArrived_B30  (h : jH) (o0 : Nat) (v1 : Int) (v2 : Int) (v3 : Int) : Option ((Int × jH) ⊕ ((Int × jH) ⊕ jH)) := (if v3 < 16 then (if (0 : Int) ≤ (wr (144 + v3)) ∧ ((wr (144 + v3)) : Int).toNat < 2365 then (if (h (o0 + 33) ((wr (144 + v3)) : Int).toNat) = (-1) then (if (0 : Int) ≤ (wr ((wr (16 * v2)) + v3)) ∧ ((wr ((wr (16 * v2)) + v3)) : Int).toNat < 8208 then some (.inl ((wr (v3 + 1)), (jup h (o0 + 40) ((wr ((wr (16 * v2)) + v3)) : Int).toNat 1000))) else none) else (if (0 : Int) ≤ (wr (144 + v3)) ∧ ((wr (144 + v3)) : Int).toNat < 2365 then (if (0 : Int) ≤ (wr ((wr (16 * v2)) + v3)) ∧ ((wr ((wr (16 * v2)) + v3)) : Int).toNat < 8208 then some (.inl ((wr (v3 + 1)), (jup h (o0 + 40) ((wr ((wr (16 * v2)) + v3)) : Int).toNat (h (o0 + 33) ((wr (144 + v3)) : Int).toNat)))) else none) else none)) else none) else Option.map Sum.inr (Option.bind (M_isAsSeen h o0 v2) (fun b12 => (if b12 = 0 ∨ b12 = 1 then (if (0 : Int) ≤ v2 ∧ (v2 : Int).toNat < 513 then (if (0 : Int) ≤ v2 ∧ (v2 : Int).toNat < 513 then (if ((jup h (o0 + 39) (v2 : Int).toNat b12) (o0 + 39) (v2 : Int).toNat) = 0 then M_laysArrived_p113 (jup h (o0 + 39) (v2 : Int).toNat b12) o0 v1 v2 else M_laysArrived_p113 (jup (jup h (o0 + 39) (v2 : Int).toNat b12) o0 69 (wr (((jup h (o0 + 39) (v2 : Int).toNat b12) o0 69) + 1))) o0 v1 v2) else none) else none) else none))))
noncomputable def M_laysArrived_L30  (h : jH) (o0 : Nat) (v1 : Int) (v2 : Int) (v3 : Int) : Option ((Int × jH) ⊕ jH) := jloop (fun s : (Int × jH) => M_laysArrived_B30 s.2 o0 v1 v2 s.1) (v3, h)
set_option maxRecDepth 20000 in
theorem t_M_laysArrived_B30 {T : jT} {xs : List Int} {d : Nat} {y : jV × jS} (hd : 7 ≤ d) {h : jH}  {o0 : Nat} {v1 : Int} {v2 : Int} {v3 : Int} {out : ((Int × jH) ⊕ ((Int × jH) ⊕ jH))} (ho0 : isX12 T o0) (H : M_laysArrived_B30 h o0 v1 v2 v3 = some out) (HY : yk_M_laysArrived_L30 T xs d y o0 v1 v2 out) : jEv xs d (328, 30, [(2, Int.ofNat o0), (0, v1), (0, v2), (0, v3)], []) (T, h) y := by
  unfold M_laysArrived_B30 at H
  refine jEv.blk [(.iload_n 3, 1, []), (.bipush 16, 2, [])] (by decide +kernel) (pc' := 33) (ls' := [(2, Int.ofNat o0), (0, v1), (0, v2), (0, v3)]) (st' := [(0, 16), (0, v3)]) rfl ?_
  refine jEv.ic_ge (t := 83) (show jfI 328 33 (.if_icmp .ge 50) 3 [] = true by decide +kernel) rfl H (fun c6 H => ?_) (fun c6 H => ?_)
  · refine jEv.blk [(.aload_n 0, 1, [])] (by decide +kernel) (pc' := 37) (ls' := [(2, Int.ofNat o0), (0, v1), (0, v2), (0, v3)]) (st' := [(2, Int.ofNat o0)]) rfl ?_
    refine jEv.gfR (o' := (o0 + 40)) (show jfI 328 37 (.getfield 136) 3 [12, 70, 5, 0, 7106] = true by decide +kernel) (isX12_L ho0) (by decide) (isX12_r70 ho0) ?_
    refine jEv.blk [(.bipush 16, 2, []), (.iload_n 2, 1, []), (.imul, 1, []), (.iload_n 3, 1, []), (.iadd, 1, []), (.aload_n 0, 1, [])] (by decide +kernel) (pc' := 47) (ls' := [(2, Int.ofNat o0), (0, v1), (0, v2), (0, v3)]) (st' := [(2, Int.ofNat o0), (0, (wr ((wr (16 * v2)) + v3))), (2, Int.ofNat (o0 + 40))]) rfl ?_
    refine jEv.gfR (o' := (o0 + 33)) (show jfI 328 47 (.getfield 111) 3 [12, 45, 5, 0, 7081] = true by decide +kernel) (isX12_L ho0) (by decide) (isX12_r45 ho0) ?_
    refine jEv.blk [(.sipush 144, 3, []), (.iload_n 3, 1, []), (.iadd, 1, [])] (by decide +kernel) (pc' := 55) (ls' := [(2, Int.ofNat o0), (0, v1), (0, v2), (0, v3)]) (st' := [(0, (wr (144 + v3))), (2, Int.ofNat (o0 + 33)), (0, (wr ((wr (16 * v2)) + v3))), (2, Int.ofNat (o0 + 40))]) rfl ?_
    refine jEv.ald (Or.inl ⟨rfl, rfl, rfl⟩) (show jfI 328 55 (.iaload) 1 [] = true by decide +kernel) (isX12_a45 ho0) H (fun c7 H => ?_)
    refine jEv.blk [(.iconst (-1), 1, [])] (by decide +kernel) (pc' := 57) (ls' := [(2, Int.ofNat o0), (0, v1), (0, v2), (0, v3)]) (st' := [(0, (-1)), (0, (h (o0 + 33) ((wr (144 + v3)) : Int).toNat)), (0, (wr ((wr (16 * v2)) + v3))), (2, Int.ofNat (o0 + 40))]) rfl ?_
    refine jEv.ic_ne (t := 66) (show jfI 328 57 (.if_icmp .ne 9) 3 [] = true by decide +kernel) rfl H (fun c8 H => ?_) (fun c8 H => ?_)
    · refine jEv.blk [(.sipush 1000, 3, [])] (by decide +kernel) (pc' := 63) (ls' := [(2, Int.ofNat o0), (0, v1), (0, v2), (0, v3)]) (st' := [(0, 1000), (0, (wr ((wr (16 * v2)) + v3))), (2, Int.ofNat (o0 + 40))]) rfl ?_
      refine jEv.goto (t := 76) (show jfI 328 63 (.goto 13) 3 [] = true by decide +kernel) rfl ?_
      refine jEv.ast (Or.inl ⟨rfl, rfl, rfl⟩) (show jfI 328 76 (.iastore) 1 [] = true by decide +kernel) (isX12_a70 ho0) rfl H (fun c9 H => ?_)
      refine jEv.blk [(.iinc 3 1, 3, [])] (by decide +kernel) (pc' := 80) (ls' := [(2, Int.ofNat o0), (0, v1), (0, v2), (0, (wr (v3 + 1)))]) (st' := []) rfl ?_
      refine jEv.goto (t := 30) (show jfI 328 80 (.goto (-50)) 3 [] = true by decide +kernel) rfl ?_
      exact (by cases H; exact HY)
    · refine jEv.blk [(.aload_n 0, 1, [])] (by decide +kernel) (pc' := 67) (ls' := [(2, Int.ofNat o0), (0, v1), (0, v2), (0, v3)]) (st' := [(2, Int.ofNat o0), (0, (wr ((wr (16 * v2)) + v3))), (2, Int.ofNat (o0 + 40))]) rfl ?_
      refine jEv.gfR (o' := (o0 + 33)) (show jfI 328 67 (.getfield 111) 3 [12, 45, 5, 0, 7081] = true by decide +kernel) (isX12_L ho0) (by decide) (isX12_r45 ho0) ?_
      refine jEv.blk [(.sipush 144, 3, []), (.iload_n 3, 1, []), (.iadd, 1, [])] (by decide +kernel) (pc' := 75) (ls' := [(2, Int.ofNat o0), (0, v1), (0, v2), (0, v3)]) (st' := [(0, (wr (144 + v3))), (2, Int.ofNat (o0 + 33)), (0, (wr ((wr (16 * v2)) + v3))), (2, Int.ofNat (o0 + 40))]) rfl ?_
      refine jEv.ald (Or.inl ⟨rfl, rfl, rfl⟩) (show jfI 328 75 (.iaload) 1 [] = true by decide +kernel) (isX12_a45 ho0) H (fun c10 H => ?_)
      refine jEv.ast (Or.inl ⟨rfl, rfl, rfl⟩) (show jfI 328 76 (.iastore) 1 [] = true by decide +kernel) (isX12_a70 ho0) rfl H (fun c11 H => ?_)
      refine jEv.blk [(.iinc 3 1, 3, [])] (by decide +kernel) (pc' := 80) (ls' := [(2, Int.ofNat o0), (0, v1), (0, v2), (0, (wr (v3 + 1)))]) (st' := []) rfl ?_
      refine jEv.goto (t := 30) (show jfI 328 80 (.goto (-50)) 3 [] = true by decide +kernel) rfl ?_
      exact (by cases H; exact HY)
  · refine jmapr H HY (fun out H (HY : yk_M_laysArrived_L18 T xs d y o0 v1 out) => ?_)
    refine jEv.blk [(.aload_n 0, 1, [])] (by decide +kernel) (pc' := 84) (ls' := [(2, Int.ofNat o0), (0, v1), (0, v2), (0, v3)]) (st' := [(2, Int.ofNat o0)]) rfl ?_
    refine jEv.gfR (o' := (o0 + 39)) (show jfI 328 84 (.getfield 132) 3 [12, 68, 5, 0, 7104] = true by decide +kernel) (isX12_L ho0) (by decide) (isX12_r68 ho0) ?_
    refine jEv.blk [(.iload_n 2, 1, []), (.aload_n 0, 1, []), (.iload_n 2, 1, [])] (by decide +kernel) (pc' := 90) (ls' := [(2, Int.ofNat o0), (0, v1), (0, v2), (0, v3)]) (st' := [(0, v2), (2, Int.ofNat o0), (0, v2), (2, Int.ofNat (o0 + 39))]) rfl ?_
    refine jbind H (fun b12 Hb12 H => ?_)
    refine jEv.calV (st' := [(0, b12), (0, v2), (2, Int.ofNat (o0 + 39))]) (show jfI 328 90 (.invokevirtual 625) 3 [1, 329, 1, 10167] = true by decide +kernel) rfl (Or.inl rfl) rfl (Nat.le_of_ble_eq_true rfl) (by decide +kernel) (by decide) (isX12_L ho0) ((t_M_isAsSeen (T := T) (xs := xs) ho0 Hb12).mono (jKle 1 hd)) rfl ?_
    refine jchk H (fun c14 H => ?_)
    refine jEv.ast (Or.inr (Or.inr (Or.inr ⟨rfl, rfl, rfl⟩))) (show jfI 328 93 (.bastore) 1 [] = true by decide +kernel) (isX12_a68 ho0) (jfit_of c14) H (fun c13 H => ?_)
    refine jEv.blk [(.aload_n 0, 1, [])] (by decide +kernel) (pc' := 95) (ls' := [(2, Int.ofNat o0), (0, v1), (0, v2), (0, v3)]) (st' := [(2, Int.ofNat o0)]) rfl ?_
    refine jEv.gfR (o' := (o0 + 39)) (show jfI 328 95 (.getfield 132) 3 [12, 68, 5, 0, 7104] = true by decide +kernel) (isX12_L ho0) (by decide) (isX12_r68 ho0) ?_
    refine jEv.blk [(.iload_n 2, 1, [])] (by decide +kernel) (pc' := 99) (ls' := [(2, Int.ofNat o0), (0, v1), (0, v2), (0, v3)]) (st' := [(0, v2), (2, Int.ofNat (o0 + 39))]) rfl ?_
    refine jEv.ald (Or.inr (Or.inr (Or.inr ⟨rfl, rfl, rfl⟩))) (show jfI 328 99 (.baload) 1 [] = true by decide +kernel) (isX12_a68 ho0) H (fun c15 H => ?_)
    refine jEv.if_eq (t := 113) (show jfI 328 100 (.ifCond .eq 13) 3 [] = true by decide +kernel) rfl H (fun c16 H => ?_) (fun c16 H => ?_)
    · exact jEv.weak (a := [(2, Int.ofNat o0), (0, v1), (0, v2), (3, 0)]) (jles.c1 (jles.c1 (jles.c1 (jles.c0 jles.nl)))) (t_M_laysArrived_p113 (T := T) (xs := xs) (y := y) hd ho0 H HY)
    · refine jEv.blk [(.aload_n 0, 1, []), (.dup, 1, [])] (by decide +kernel) (pc' := 105) (ls' := [(2, Int.ofNat o0), (0, v1), (0, v2), (0, v3)]) (st' := [(2, Int.ofNat o0), (2, Int.ofNat o0)]) rfl ?_
      refine jEv.gfI (show jfI 328 105 (.getfield 622) 3 [12, 69, 0, 0, 7105] = true by decide +kernel) (isX12_L ho0) (by decide) ?_
      refine jEv.blk [(.iconst 1, 1, []), (.iadd, 1, [])] (by decide +kernel) (pc' := 110) (ls' := [(2, Int.ofNat o0), (0, v1), (0, v2), (0, v3)]) (st' := [(0, (wr (((jup h (o0 + 39) (v2 : Int).toNat b12) o0 69) + 1))), (2, Int.ofNat o0)]) rfl ?_
      refine jEv.pfI (show jfI 328 110 (.putfield 622) 3 [12, 69, 0, 0, 7105] = true by decide +kernel) (isX12_L ho0) (by decide) ?_
      exact jEv.weak (a := [(2, Int.ofNat o0), (0, v1), (0, v2), (3, 0)]) (jles.c1 (jles.c1 (jles.c1 (jles.c0 jles.nl)))) (t_M_laysArrived_p113 (T := T) (xs := xs) (y := y) hd ho0 H HY)
theorem t_M_laysArrived_L30 {T : jT} {xs : List Int} {d : Nat} {y : jV × jS} (hd : 7 ≤ d) {h : jH}  {o0 : Nat} {v1 : Int} {v2 : Int} {v3 : Int} {out : ((Int × jH) ⊕ jH)} (ho0 : isX12 T o0) (H : M_laysArrived_L30 h o0 v1 v2 v3 = some out) (HY : yk_M_laysArrived_L18 T xs d y o0 v1 out) : jEv xs d (328, 30, [(2, Int.ofNat o0), (0, v1), (0, v2), (0, v3)], []) (T, h) y :=
  jloop_sound (G := fun s : (Int × jH) => jEv xs d (328, 30, [(2, Int.ofNat o0), (0, v1), (0, v2), (0, s.1)], []) (T, s.2) y) (K := yk_M_laysArrived_L30 T xs d y o0 v1 v2) (fun s out H HY => t_M_laysArrived_B30 hd ho0 H HY) (fun s' hg => hg) (s := (v3, h)) H HY
set_option maxRecDepth 20000 in
noncomputable def M_laysArrived_B18  (h : jH) (o0 : Nat) (v1 : Int) (v2 : Int) : Option ((Int × jH) ⊕ jH) := (if v1 < v2 then Option.map Sum.inr (Option.bind (M_takesBack h o0) (fun b4 => some b4)) else Option.bind (M_crashes h o0 v2) (fun b5 => M_laysArrived_L30 b5 o0 v1 v2 0))
noncomputable def M_laysArrived_L18  (h : jH) (o0 : Nat) (v1 : Int) (v2 : Int) : Option jH := jloop (fun s : (Int × jH) => M_laysArrived_B18 s.2 o0 v1 s.1) (v2, h)
set_option maxRecDepth 20000 in
theorem t_M_laysArrived_B18 {T : jT} {xs : List Int} {d : Nat} {y : jV × jS} (hd : 7 ≤ d) {h : jH}  {o0 : Nat} {v1 : Int} {v2 : Int} {out : ((Int × jH) ⊕ jH)} (ho0 : isX12 T o0) (H : M_laysArrived_B18 h o0 v1 v2 = some out) (HY : yk_M_laysArrived_L18 T xs d y o0 v1 out) : jEv xs d (328, 18, [(2, Int.ofNat o0), (0, v1), (0, v2), (3, 0)], []) (T, h) y := by
  unfold M_laysArrived_B18 at H
  refine jEv.blk [(.iload_n 2, 1, []), (.iload_n 1, 1, [])] (by decide +kernel) (pc' := 20) (ls' := [(2, Int.ofNat o0), (0, v1), (0, v2), (3, 0)]) (st' := [(0, v1), (0, v2)]) rfl ?_
  refine jEv.ic_gt (t := 123) (show jfI 328 20 (.if_icmp .gt 103) 3 [] = true by decide +kernel) rfl H (fun c3 H => ?_) (fun c3 H => ?_)
  · refine jmapr H HY (fun out H (HY : ykV T y out) => ?_)
    refine jEv.blk [(.aload_n 0, 1, [])] (by decide +kernel) (pc' := 124) (ls' := [(2, Int.ofNat o0), (0, v1), (0, v2), (3, 0)]) (st' := [(2, Int.ofNat o0)]) rfl ?_
    refine jbind H (fun b4 Hb4 H => ?_)
    refine jEv.calV (st' := []) (show jfI 328 124 (.invokevirtual 597) 3 [1, 306, 0, 10071] = true by decide +kernel) rfl (Or.inl rfl) rfl (Nat.le_of_ble_eq_true rfl) (by decide +kernel) (by decide) (isX12_L ho0) ((t_M_takesBack (T := T) (xs := xs) ho0 Hb4).mono (jKle 2 hd)) rfl ?_
    exact jEv.retV (show jfI 328 127 (.return_) 1 [] = true by decide +kernel) (by decide +kernel) (by cases H; exact HY)
  · refine jEv.blk [(.aload_n 0, 1, []), (.iload_n 2, 1, [])] (by decide +kernel) (pc' := 25) (ls' := [(2, Int.ofNat o0), (0, v1), (0, v2), (3, 0)]) (st' := [(0, v2), (2, Int.ofNat o0)]) rfl ?_
    refine jbind H (fun b5 Hb5 H => ?_)
    refine jEv.calV (st' := []) (show jfI 328 25 (.invokevirtual 613) 3 [1, 315, 1, 10111] = true by decide +kernel) rfl (Or.inl rfl) rfl (Nat.le_of_ble_eq_true rfl) (by decide +kernel) (by decide) (isX12_L ho0) ((t_M_crashes (T := T) (xs := xs) ho0 Hb5).mono (jKle 7 hd)) rfl ?_
    refine jEv.blk [(.iconst 0, 1, []), (.istore_n 3, 1, [])] (by decide +kernel) (pc' := 30) (ls' := [(2, Int.ofNat o0), (0, v1), (0, v2), (0, 0)]) (st' := []) rfl ?_
    exact t_M_laysArrived_L30 (T := T) (xs := xs) (y := y) hd ho0 H HY
theorem t_M_laysArrived_L18 {T : jT} {xs : List Int} {d : Nat} {y : jV × jS} (hd : 7 ≤ d) {h : jH}  {o0 : Nat} {v1 : Int} {v2 : Int} {out : jH} (ho0 : isX12 T o0) (H : M_laysArrived_L18 h o0 v1 v2 = some out) (HY : ykV T y out) : jEv xs d (328, 18, [(2, Int.ofNat o0), (0, v1), (0, v2), (3, 0)], []) (T, h) y :=
  jloop_sound (G := fun s : (Int × jH) => jEv xs d (328, 18, [(2, Int.ofNat o0), (0, v1), (0, s.1), (3, 0)], []) (T, s.2) y) (K := yk_M_laysArrived_L18 T xs d y o0 v1) (fun s out H HY => t_M_laysArrived_B18 hd ho0 H HY) (fun s' hg => hg) (s := (v2, h)) H HY
set_option maxRecDepth 20000 in
noncomputable def M_laysArrived  (h : jH) (o0 : Nat) : Option jH := (if (0 : Int) ≤ 4 ∧ (4 : Int).toNat < 2365 then Option.bind (M_putsAside (jup h o0 69 0) o0) (fun b2 => M_laysArrived_L18 b2 o0 (h (o0 + 33) (4 : Int).toNat) 0) else none)
set_option maxRecDepth 20000 in
theorem t_M_laysArrived {T : jT} {xs : List Int} {h : jH}  {o0 : Nat} {out : jH} (ho0 : isX12 T o0) (H : M_laysArrived h o0 = some out) : jEm xs 8 328 [(2, Int.ofNat o0)] (T, h) ((3, 0), (T, out)) := by
  have hd : 7 ≤ 7 := Nat.le_refl _
  obtain ⟨y, ey⟩ : ∃ y : jV × jS, y = ((3, 0), (T, out)) := ⟨_, rfl⟩
  rw [← ey]
  have HY : ykV T y out := ey
  refine jEm.ent (n := 4) (by decide +kernel) (Nat.le_of_ble_eq_true rfl) ?_
  show jEv xs 7 (328, 0, [(2, Int.ofNat o0), (3, 0), (3, 0), (3, 0)], []) (T, h) y
  unfold M_laysArrived at H
  refine jEv.blk [(.aload_n 0, 1, [])] (by decide +kernel) (pc' := 1) (ls' := [(2, Int.ofNat o0), (3, 0), (3, 0), (3, 0)]) (st' := [(2, Int.ofNat o0)]) rfl ?_
  refine jEv.gfR (o' := (o0 + 33)) (show jfI 328 1 (.getfield 111) 3 [12, 45, 5, 0, 7081] = true by decide +kernel) (isX12_L ho0) (by decide) (isX12_r45 ho0) ?_
  refine jEv.blk [(.iconst 4, 1, [])] (by decide +kernel) (pc' := 5) (ls' := [(2, Int.ofNat o0), (3, 0), (3, 0), (3, 0)]) (st' := [(0, 4), (2, Int.ofNat (o0 + 33))]) rfl ?_
  refine jEv.ald (Or.inl ⟨rfl, rfl, rfl⟩) (show jfI 328 5 (.iaload) 1 [] = true by decide +kernel) (isX12_a45 ho0) H (fun c1 H => ?_)
  refine jEv.blk [(.istore_n 1, 1, []), (.aload_n 0, 1, []), (.iconst 0, 1, [])] (by decide +kernel) (pc' := 9) (ls' := [(2, Int.ofNat o0), (0, (h (o0 + 33) (4 : Int).toNat)), (3, 0), (3, 0)]) (st' := [(0, 0), (2, Int.ofNat o0)]) rfl ?_
  refine jEv.pfI (show jfI 328 9 (.putfield 622) 3 [12, 69, 0, 0, 7105] = true by decide +kernel) (isX12_L ho0) (by decide) ?_
  refine jEv.blk [(.aload_n 0, 1, [])] (by decide +kernel) (pc' := 13) (ls' := [(2, Int.ofNat o0), (0, (h (o0 + 33) (4 : Int).toNat)), (3, 0), (3, 0)]) (st' := [(2, Int.ofNat o0)]) rfl ?_
  refine jbind H (fun b2 Hb2 H => ?_)
  refine jEv.calV (st' := []) (show jfI 328 13 (.invokevirtual 591) 3 [1, 281, 0, 9210] = true by decide +kernel) rfl (Or.inl rfl) rfl (Nat.le_of_ble_eq_true rfl) (by decide +kernel) (by decide) (isX12_L ho0) ((t_M_putsAside (T := T) (xs := xs) ho0 Hb2).mono (jKle 1 hd)) rfl ?_
  refine jEv.blk [(.iconst 0, 1, []), (.istore_n 2, 1, [])] (by decide +kernel) (pc' := 18) (ls' := [(2, Int.ofNat o0), (0, (h (o0 + 33) (4 : Int).toNat)), (0, 0), (3, 0)]) (st' := []) rfl ?_
  exact t_M_laysArrived_L18 (T := T) (xs := xs) (y := y) hd ho0 H HY
def yk_M_arrived_L32 (T : jT) (xs : List Int) (d : Nat) (y : jV × jS) (h : jH)  (o0 : Nat) (v1 : Int) : ((Int × Int) ⊕ (Int × jH)) → Prop
  | .inl (v2, v3) => jEv xs d (327, 32, [(2, Int.ofNat o0), (0, v1), (0, v2), (0, v3)], []) (T, h) y
  | .inr o => ykI T y o
set_option maxRecDepth 20000 in
noncomputable def M_arrived_B32  (h : jH) (o0 : Nat) (v1 : Int) (v2 : Int) (v3 : Int) : Option ((Int × Int) ⊕ (Int × jH)) := (if (0 : Int) ≤ 4 ∧ (4 : Int).toNat < 2365 then (if (h (o0 + 33) (4 : Int).toNat) < v3 then Option.map Sum.inr (some ((-1), h)) else (if (0 : Int) ≤ v3 ∧ (v3 : Int).toNat < 513 then (if (h (o0 + 39) (v3 : Int).toNat) = 0 then some (.inl (v2, (wr (v3 + 1)))) else (if v2 = v1 then Option.map Sum.inr (some (v3, h)) else some (.inl ((wr (v2 + 1)), (wr (v3 + 1)))))) else none)) else none)
noncomputable def M_arrived_L32  (h : jH) (o0 : Nat) (v1 : Int) (v2 : Int) (v3 : Int) : Option (Int × jH) := jloop (fun s : (Int × Int) => M_arrived_B32 h o0 v1 s.1 s.2) (v2, v3)
set_option maxRecDepth 20000 in
theorem t_M_arrived_B32 {T : jT} {xs : List Int} {d : Nat} {y : jV × jS} (hd : 8 ≤ d) {h : jH}  {o0 : Nat} {v1 : Int} {v2 : Int} {v3 : Int} {out : ((Int × Int) ⊕ (Int × jH))} (ho0 : isX12 T o0) (H : M_arrived_B32 h o0 v1 v2 v3 = some out) (HY : yk_M_arrived_L32 T xs d y h o0 v1 out) : jEv xs d (327, 32, [(2, Int.ofNat o0), (0, v1), (0, v2), (0, v3)], []) (T, h) y := by
  unfold M_arrived_B32 at H
  refine jEv.blk [(.iload_n 3, 1, []), (.aload_n 0, 1, [])] (by decide +kernel) (pc' := 34) (ls' := [(2, Int.ofNat o0), (0, v1), (0, v2), (0, v3)]) (st' := [(2, Int.ofNat o0), (0, v3)]) rfl ?_
  refine jEv.gfR (o' := (o0 + 33)) (show jfI 327 34 (.getfield 111) 3 [12, 45, 5, 0, 7081] = true by decide +kernel) (isX12_L ho0) (by decide) (isX12_r45 ho0) ?_
  refine jEv.blk [(.iconst 4, 1, [])] (by decide +kernel) (pc' := 38) (ls' := [(2, Int.ofNat o0), (0, v1), (0, v2), (0, v3)]) (st' := [(0, 4), (2, Int.ofNat (o0 + 33)), (0, v3)]) rfl ?_
  refine jEv.ald (Or.inl ⟨rfl, rfl, rfl⟩) (show jfI 327 38 (.iaload) 1 [] = true by decide +kernel) (isX12_a45 ho0) H (fun c5 H => ?_)
  refine jEv.ic_gt (t := 70) (show jfI 327 39 (.if_icmp .gt 31) 3 [] = true by decide +kernel) rfl H (fun c6 H => ?_) (fun c6 H => ?_)
  · refine jmapr H HY (fun out H (HY : ykI T y out) => ?_)
    refine jEv.blk [(.iconst (-1), 1, [])] (by decide +kernel) (pc' := 71) (ls' := [(2, Int.ofNat o0), (0, v1), (0, v2), (0, v3)]) (st' := [(0, (-1))]) rfl ?_
    exact jEv.retI (show jfI 327 71 (.ireturn) 1 [] = true by decide +kernel) (by decide +kernel) (by cases H; exact HY)
  · refine jEv.blk [(.aload_n 0, 1, [])] (by decide +kernel) (pc' := 43) (ls' := [(2, Int.ofNat o0), (0, v1), (0, v2), (0, v3)]) (st' := [(2, Int.ofNat o0)]) rfl ?_
    refine jEv.gfR (o' := (o0 + 39)) (show jfI 327 43 (.getfield 132) 3 [12, 68, 5, 0, 7104] = true by decide +kernel) (isX12_L ho0) (by decide) (isX12_r68 ho0) ?_
    refine jEv.blk [(.iload_n 3, 1, [])] (by decide +kernel) (pc' := 47) (ls' := [(2, Int.ofNat o0), (0, v1), (0, v2), (0, v3)]) (st' := [(0, v3), (2, Int.ofNat (o0 + 39))]) rfl ?_
    refine jEv.ald (Or.inr (Or.inr (Or.inr ⟨rfl, rfl, rfl⟩))) (show jfI 327 47 (.baload) 1 [] = true by decide +kernel) (isX12_a68 ho0) H (fun c7 H => ?_)
    refine jEv.if_ne (t := 54) (show jfI 327 48 (.ifCond .ne 6) 3 [] = true by decide +kernel) rfl H (fun c8 H => ?_) (fun c8 H => ?_)
    · refine jEv.goto (t := 64) (show jfI 327 51 (.goto 13) 3 [] = true by decide +kernel) rfl ?_
      refine jEv.blk [(.iinc 3 1, 3, [])] (by decide +kernel) (pc' := 67) (ls' := [(2, Int.ofNat o0), (0, v1), (0, v2), (0, (wr (v3 + 1)))]) (st' := []) rfl ?_
      refine jEv.goto (t := 32) (show jfI 327 67 (.goto (-35)) 3 [] = true by decide +kernel) rfl ?_
      exact (by cases H; exact HY)
    · refine jEv.blk [(.iload_n 2, 1, []), (.iload_n 1, 1, [])] (by decide +kernel) (pc' := 56) (ls' := [(2, Int.ofNat o0), (0, v1), (0, v2), (0, v3)]) (st' := [(0, v1), (0, v2)]) rfl ?_
      refine jEv.ic_ne (t := 61) (show jfI 327 56 (.if_icmp .ne 5) 3 [] = true by decide +kernel) rfl H (fun c9 H => ?_) (fun c9 H => ?_)
      · refine jmapr H HY (fun out H (HY : ykI T y out) => ?_)
        refine jEv.blk [(.iload_n 3, 1, [])] (by decide +kernel) (pc' := 60) (ls' := [(2, Int.ofNat o0), (0, v1), (0, v2), (0, v3)]) (st' := [(0, v3)]) rfl ?_
        exact jEv.retI (show jfI 327 60 (.ireturn) 1 [] = true by decide +kernel) (by decide +kernel) (by cases H; exact HY)
      · refine jEv.blk [(.iinc 2 1, 3, [])] (by decide +kernel) (pc' := 64) (ls' := [(2, Int.ofNat o0), (0, v1), (0, (wr (v2 + 1))), (0, v3)]) (st' := []) rfl ?_
        refine jEv.blk [(.iinc 3 1, 3, [])] (by decide +kernel) (pc' := 67) (ls' := [(2, Int.ofNat o0), (0, v1), (0, (wr (v2 + 1))), (0, (wr (v3 + 1)))]) (st' := []) rfl ?_
        refine jEv.goto (t := 32) (show jfI 327 67 (.goto (-35)) 3 [] = true by decide +kernel) rfl ?_
        exact (by cases H; exact HY)
theorem t_M_arrived_L32 {T : jT} {xs : List Int} {d : Nat} {y : jV × jS} (hd : 8 ≤ d) {h : jH}  {o0 : Nat} {v1 : Int} {v2 : Int} {v3 : Int} {out : (Int × jH)} (ho0 : isX12 T o0) (H : M_arrived_L32 h o0 v1 v2 v3 = some out) (HY : ykI T y out) : jEv xs d (327, 32, [(2, Int.ofNat o0), (0, v1), (0, v2), (0, v3)], []) (T, h) y :=
  jloop_sound (G := fun s : (Int × Int) => jEv xs d (327, 32, [(2, Int.ofNat o0), (0, v1), (0, s.1), (0, s.2)], []) (T, h) y) (K := yk_M_arrived_L32 T xs d y h o0 v1) (fun s out H HY => t_M_arrived_B32 hd ho0 H HY) (fun s' hg => hg) (s := (v2, v3)) H HY
set_option maxRecDepth 20000 in
noncomputable def M_arrived  (h : jH) (o0 : Nat) (v1 : Int) : Option (Int × jH) := (if (h o0 43) = 0 then some ((-1), h) else (if v1 < (-1) then some ((-1), h) else Option.bind (M_laysArrived h o0) (fun b3 => (if v1 = (-1) then some ((b3 o0 69), b3) else M_arrived_L32 b3 o0 v1 0 0))))
set_option maxRecDepth 20000 in
theorem t_M_arrived {T : jT} {xs : List Int} {h : jH}  {o0 : Nat} {v1 : Int} {out : (Int × jH)} (ho0 : isX12 T o0) (H : M_arrived h o0 v1 = some out) : jEm xs 9 327 [(2, Int.ofNat o0), (0, v1)] (T, h) ((0, out.1), (T, out.2)) := by
  have hd : 8 ≤ 8 := Nat.le_refl _
  obtain ⟨y, ey⟩ : ∃ y : jV × jS, y = ((0, out.1), (T, out.2)) := ⟨_, rfl⟩
  rw [← ey]
  have HY : ykI T y out := ey
  refine jEm.ent (n := 4) (by decide +kernel) (Nat.le_of_ble_eq_true rfl) ?_
  show jEv xs 8 (327, 0, [(2, Int.ofNat o0), (0, v1), (3, 0), (3, 0)], []) (T, h) y
  unfold M_arrived at H
  refine jEv.blk [(.aload_n 0, 1, [])] (by decide +kernel) (pc' := 1) (ls' := [(2, Int.ofNat o0), (0, v1), (3, 0), (3, 0)]) (st' := [(2, Int.ofNat o0)]) rfl ?_
  refine jEv.gfI (show jfI 327 1 (.getfield 340) 3 [12, 43, 0, 1, 7079] = true by decide +kernel) (isX12_L ho0) (by decide) ?_
  refine jEv.if_eq (t := 12) (show jfI 327 4 (.ifCond .eq 8) 3 [] = true by decide +kernel) rfl H (fun c1 H => ?_) (fun c1 H => ?_)
  · refine jEv.blk [(.iconst (-1), 1, [])] (by decide +kernel) (pc' := 13) (ls' := [(2, Int.ofNat o0), (0, v1), (3, 0), (3, 0)]) (st' := [(0, (-1))]) rfl ?_
    exact jEv.retI (show jfI 327 13 (.ireturn) 1 [] = true by decide +kernel) (by decide +kernel) (by cases H; exact HY)
  · refine jEv.blk [(.iload_n 1, 1, []), (.iconst (-1), 1, [])] (by decide +kernel) (pc' := 9) (ls' := [(2, Int.ofNat o0), (0, v1), (3, 0), (3, 0)]) (st' := [(0, (-1)), (0, v1)]) rfl ?_
    refine jEv.ic_ge (t := 14) (show jfI 327 9 (.if_icmp .ge 5) 3 [] = true by decide +kernel) rfl H (fun c2 H => ?_) (fun c2 H => ?_)
    · refine jEv.blk [(.iconst (-1), 1, [])] (by decide +kernel) (pc' := 13) (ls' := [(2, Int.ofNat o0), (0, v1), (3, 0), (3, 0)]) (st' := [(0, (-1))]) rfl ?_
      exact jEv.retI (show jfI 327 13 (.ireturn) 1 [] = true by decide +kernel) (by decide +kernel) (by cases H; exact HY)
    · refine jEv.blk [(.aload_n 0, 1, [])] (by decide +kernel) (pc' := 15) (ls' := [(2, Int.ofNat o0), (0, v1), (3, 0), (3, 0)]) (st' := [(2, Int.ofNat o0)]) rfl ?_
      refine jbind H (fun b3 Hb3 H => ?_)
      refine jEv.calV (st' := []) (show jfI 327 15 (.invokevirtual 628) 3 [1, 328, 0, 10163] = true by decide +kernel) rfl (Or.inl rfl) rfl (Nat.le_of_ble_eq_true rfl) (by decide +kernel) (by decide) (isX12_L ho0) ((t_M_laysArrived (T := T) (xs := xs) ho0 Hb3).mono (jKle 8 hd)) rfl ?_
      refine jEv.blk [(.iload_n 1, 1, []), (.iconst (-1), 1, [])] (by decide +kernel) (pc' := 20) (ls' := [(2, Int.ofNat o0), (0, v1), (3, 0), (3, 0)]) (st' := [(0, (-1)), (0, v1)]) rfl ?_
      refine jEv.ic_ne (t := 28) (show jfI 327 20 (.if_icmp .ne 8) 3 [] = true by decide +kernel) rfl H (fun c4 H => ?_) (fun c4 H => ?_)
      · refine jEv.blk [(.aload_n 0, 1, [])] (by decide +kernel) (pc' := 24) (ls' := [(2, Int.ofNat o0), (0, v1), (3, 0), (3, 0)]) (st' := [(2, Int.ofNat o0)]) rfl ?_
        refine jEv.gfI (show jfI 327 24 (.getfield 622) 3 [12, 69, 0, 0, 7105] = true by decide +kernel) (isX12_L ho0) (by decide) ?_
        exact jEv.retI (show jfI 327 27 (.ireturn) 1 [] = true by decide +kernel) (by decide +kernel) (by cases H; exact HY)
      · refine jEv.blk [(.iconst 0, 1, []), (.istore_n 2, 1, []), (.iconst 0, 1, []), (.istore_n 3, 1, [])] (by decide +kernel) (pc' := 32) (ls' := [(2, Int.ofNat o0), (0, v1), (0, 0), (0, 0)]) (st' := []) rfl ?_
        exact t_M_arrived_L32 (T := T) (xs := xs) (y := y) hd ho0 H HY
def yk_M_mostAlike_L26 (T : jT) (xs : List Int) (d : Nat) (y : jV × jS)  (o0 : Nat) (v1 : Int) : ((Int × Int × jH) ⊕ (Int × jH)) → Prop
  | .inl (v2, v3, h) => jEv xs d (331, 26, [(2, Int.ofNat o0), (0, v1), (0, v2), (0, v3), (3, 0)], []) (T, h) y
  | .inr o => ykI T y o
def yk_M_mostAlike_L4 (T : jT) (xs : List Int) (d : Nat) (y : jV × jS)  (o0 : Nat) (v1 : Int) (v2 : Int) : ((Int × jH) ⊕ (Int × jH)) → Prop
  | .inl (v3, h) => jEv xs d (331, 4, [(2, Int.ofNat o0), (0, v1), (0, v2), (0, v3), (3, 0)], []) (T, h) y
  | .inr o => ykI T y o
set_option maxRecDepth 20000 in
noncomputable def M_mostAlike_B26  (h : jH) (o0 : Nat) (v1 : Int) (v2 : Int) (v3 : Int) : Option ((Int × Int × jH) ⊕ (Int × jH)) := (if (0 : Int) ≤ 4 ∧ (4 : Int).toNat < 2365 then (if (h (o0 + 33) (4 : Int).toNat) < v3 then Option.map Sum.inr (some (v2, h)) else (if (0 : Int) ≤ v3 ∧ (v3 : Int).toNat < 513 then (if (h (o0 + 39) (v3 : Int).toNat) = 0 then some (.inl (v2, (wr (v3 + 1)), h)) else (if (0 : Int) ≤ (wr ((wr (16 * v3)) + v1)) ∧ ((wr ((wr (16 * v3)) + v1)) : Int).toNat < 8208 then (if (0 : Int) ≤ (h (o0 + 40) ((wr ((wr (16 * v3)) + v1)) : Int).toNat) ∧ ((h (o0 + 40) ((wr ((wr (16 * v3)) + v1)) : Int).toNat) : Int).toNat < 1001 then (if (0 : Int) ≤ (h (o0 + 40) ((wr ((wr (16 * v3)) + v1)) : Int).toNat) ∧ ((h (o0 + 40) ((wr ((wr (16 * v3)) + v1)) : Int).toNat) : Int).toNat < 1001 then (if (0 : Int) ≤ (h (o0 + 40) ((wr ((wr (16 * v3)) + v1)) : Int).toNat) ∧ ((h (o0 + 40) ((wr ((wr (16 * v3)) + v1)) : Int).toNat) : Int).toNat < 1001 then (if v2 < ((jup h (o0 + 41) ((h (o0 + 40) ((wr ((wr (16 * v3)) + v1)) : Int).toNat) : Int).toNat (wr ((h (o0 + 41) ((h (o0 + 40) ((wr ((wr (16 * v3)) + v1)) : Int).toNat) : Int).toNat) + 1))) (o0 + 41) ((h (o0 + 40) ((wr ((wr (16 * v3)) + v1)) : Int).toNat) : Int).toNat) then (if (0 : Int) ≤ (h (o0 + 40) ((wr ((wr (16 * v3)) + v1)) : Int).toNat) ∧ ((h (o0 + 40) ((wr ((wr (16 * v3)) + v1)) : Int).toNat) : Int).toNat < 1001 then some (.inl (((jup h (o0 + 41) ((h (o0 + 40) ((wr ((wr (16 * v3)) + v1)) : Int).toNat) : Int).toNat (wr ((h (o0 + 41) ((h (o0 + 40) ((wr ((wr (16 * v3)) + v1)) : Int).toNat) : Int).toNat) + 1))) (o0 + 41) ((h (o0 + 40) ((wr ((wr (16 * v3)) + v1)) : Int).toNat) : Int).toNat), (wr (v3 + 1)), (jup h (o0 + 41) ((h (o0 + 40) ((wr ((wr (16 * v3)) + v1)) : Int).toNat) : Int).toNat (wr ((h (o0 + 41) ((h (o0 + 40) ((wr ((wr (16 * v3)) + v1)) : Int).toNat) : Int).toNat) + 1))))) else none) else some (.inl (v2, (wr (v3 + 1)), (jup h (o0 + 41) ((h (o0 + 40) ((wr ((wr (16 * v3)) + v1)) : Int).toNat) : Int).toNat (wr ((h (o0 + 41) ((h (o0 + 40) ((wr ((wr (16 * v3)) + v1)) : Int).toNat) : Int).toNat) + 1)))))) else none) else none) else none) else none)) else none)) else none)
noncomputable def M_mostAlike_L26  (h : jH) (o0 : Nat) (v1 : Int) (v2 : Int) (v3 : Int) : Option (Int × jH) := jloop (fun s : (Int × Int × jH) => M_mostAlike_B26 s.2.2 o0 v1 s.1 s.2.1) (v2, v3, h)
set_option maxRecDepth 20000 in
theorem t_M_mostAlike_B26 {T : jT} {xs : List Int} {d : Nat} {y : jV × jS} (hd : 0 ≤ d) {h : jH}  {o0 : Nat} {v1 : Int} {v2 : Int} {v3 : Int} {out : ((Int × Int × jH) ⊕ (Int × jH))} (ho0 : isX12 T o0) (H : M_mostAlike_B26 h o0 v1 v2 v3 = some out) (HY : yk_M_mostAlike_L26 T xs d y o0 v1 out) : jEv xs d (331, 26, [(2, Int.ofNat o0), (0, v1), (0, v2), (0, v3), (3, 0)], []) (T, h) y := by
  unfold M_mostAlike_B26 at H
  refine jEv.blk [(.iload_n 3, 1, []), (.aload_n 0, 1, [])] (by decide +kernel) (pc' := 28) (ls' := [(2, Int.ofNat o0), (0, v1), (0, v2), (0, v3), (3, 0)]) (st' := [(2, Int.ofNat o0), (0, v3)]) rfl ?_
  refine jEv.gfR (o' := (o0 + 33)) (show jfI 331 28 (.getfield 111) 3 [12, 45, 5, 0, 7081] = true by decide +kernel) (isX12_L ho0) (by decide) (isX12_r45 ho0) ?_
  refine jEv.blk [(.iconst 4, 1, [])] (by decide +kernel) (pc' := 32) (ls' := [(2, Int.ofNat o0), (0, v1), (0, v2), (0, v3), (3, 0)]) (st' := [(0, 4), (2, Int.ofNat (o0 + 33)), (0, v3)]) rfl ?_
  refine jEv.ald (Or.inl ⟨rfl, rfl, rfl⟩) (show jfI 331 32 (.iaload) 1 [] = true by decide +kernel) (isX12_a45 ho0) H (fun c3 H => ?_)
  refine jEv.ic_gt (t := 97) (show jfI 331 33 (.if_icmp .gt 64) 3 [] = true by decide +kernel) rfl H (fun c4 H => ?_) (fun c4 H => ?_)
  · refine jmapr H HY (fun out H (HY : ykI T y out) => ?_)
    refine jEv.blk [(.iload_n 2, 1, [])] (by decide +kernel) (pc' := 98) (ls' := [(2, Int.ofNat o0), (0, v1), (0, v2), (0, v3), (3, 0)]) (st' := [(0, v2)]) rfl ?_
    exact jEv.retI (show jfI 331 98 (.ireturn) 1 [] = true by decide +kernel) (by decide +kernel) (by cases H; exact HY)
  · refine jEv.blk [(.aload_n 0, 1, [])] (by decide +kernel) (pc' := 37) (ls' := [(2, Int.ofNat o0), (0, v1), (0, v2), (0, v3), (3, 0)]) (st' := [(2, Int.ofNat o0)]) rfl ?_
    refine jEv.gfR (o' := (o0 + 39)) (show jfI 331 37 (.getfield 132) 3 [12, 68, 5, 0, 7104] = true by decide +kernel) (isX12_L ho0) (by decide) (isX12_r68 ho0) ?_
    refine jEv.blk [(.iload_n 3, 1, [])] (by decide +kernel) (pc' := 41) (ls' := [(2, Int.ofNat o0), (0, v1), (0, v2), (0, v3), (3, 0)]) (st' := [(0, v3), (2, Int.ofNat (o0 + 39))]) rfl ?_
    refine jEv.ald (Or.inr (Or.inr (Or.inr ⟨rfl, rfl, rfl⟩))) (show jfI 331 41 (.baload) 1 [] = true by decide +kernel) (isX12_a68 ho0) H (fun c5 H => ?_)
    refine jEv.if_ne (t := 48) (show jfI 331 42 (.ifCond .ne 6) 3 [] = true by decide +kernel) rfl H (fun c6 H => ?_) (fun c6 H => ?_)
    · refine jEv.goto (t := 91) (show jfI 331 45 (.goto 46) 3 [] = true by decide +kernel) rfl ?_
      refine jEv.blk [(.iinc 3 1, 3, [])] (by decide +kernel) (pc' := 94) (ls' := [(2, Int.ofNat o0), (0, v1), (0, v2), (0, (wr (v3 + 1))), (3, 0)]) (st' := []) rfl ?_
      refine jEv.goto (t := 26) (show jfI 331 94 (.goto (-68)) 3 [] = true by decide +kernel) rfl ?_
      exact (by cases H; exact HY)
    · refine jEv.blk [(.aload_n 0, 1, [])] (by decide +kernel) (pc' := 49) (ls' := [(2, Int.ofNat o0), (0, v1), (0, v2), (0, v3), (3, 0)]) (st' := [(2, Int.ofNat o0)]) rfl ?_
      refine jEv.gfR (o' := (o0 + 40)) (show jfI 331 49 (.getfield 136) 3 [12, 70, 5, 0, 7106] = true by decide +kernel) (isX12_L ho0) (by decide) (isX12_r70 ho0) ?_
      refine jEv.blk [(.bipush 16, 2, []), (.iload_n 3, 1, []), (.imul, 1, []), (.iload_n 1, 1, []), (.iadd, 1, [])] (by decide +kernel) (pc' := 58) (ls' := [(2, Int.ofNat o0), (0, v1), (0, v2), (0, v3), (3, 0)]) (st' := [(0, (wr ((wr (16 * v3)) + v1))), (2, Int.ofNat (o0 + 40))]) rfl ?_
      refine jEv.ald (Or.inl ⟨rfl, rfl, rfl⟩) (show jfI 331 58 (.iaload) 1 [] = true by decide +kernel) (isX12_a70 ho0) H (fun c7 H => ?_)
      refine jEv.blk [(.istore 4, 2, []), (.aload_n 0, 1, [])] (by decide +kernel) (pc' := 62) (ls' := [(2, Int.ofNat o0), (0, v1), (0, v2), (0, v3), (0, (h (o0 + 40) ((wr ((wr (16 * v3)) + v1)) : Int).toNat))]) (st' := [(2, Int.ofNat o0)]) rfl ?_
      refine jEv.gfR (o' := (o0 + 41)) (show jfI 331 62 (.getfield 139) 3 [12, 71, 5, 0, 7107] = true by decide +kernel) (isX12_L ho0) (by decide) (isX12_r71 ho0) ?_
      refine jEv.blk [(.iload 4, 2, []), (.dup2, 1, [])] (by decide +kernel) (pc' := 68) (ls' := [(2, Int.ofNat o0), (0, v1), (0, v2), (0, v3), (0, (h (o0 + 40) ((wr ((wr (16 * v3)) + v1)) : Int).toNat))]) (st' := [(0, (h (o0 + 40) ((wr ((wr (16 * v3)) + v1)) : Int).toNat)), (2, Int.ofNat (o0 + 41)), (0, (h (o0 + 40) ((wr ((wr (16 * v3)) + v1)) : Int).toNat)), (2, Int.ofNat (o0 + 41))]) rfl ?_
      refine jEv.ald (Or.inl ⟨rfl, rfl, rfl⟩) (show jfI 331 68 (.iaload) 1 [] = true by decide +kernel) (isX12_a71 ho0) H (fun c8 H => ?_)
      refine jEv.blk [(.iconst 1, 1, []), (.iadd, 1, [])] (by decide +kernel) (pc' := 71) (ls' := [(2, Int.ofNat o0), (0, v1), (0, v2), (0, v3), (0, (h (o0 + 40) ((wr ((wr (16 * v3)) + v1)) : Int).toNat))]) (st' := [(0, (wr ((h (o0 + 41) ((h (o0 + 40) ((wr ((wr (16 * v3)) + v1)) : Int).toNat) : Int).toNat) + 1))), (0, (h (o0 + 40) ((wr ((wr (16 * v3)) + v1)) : Int).toNat)), (2, Int.ofNat (o0 + 41))]) rfl ?_
      refine jEv.ast (Or.inl ⟨rfl, rfl, rfl⟩) (show jfI 331 71 (.iastore) 1 [] = true by decide +kernel) (isX12_a71 ho0) rfl H (fun c9 H => ?_)
      refine jEv.blk [(.aload_n 0, 1, [])] (by decide +kernel) (pc' := 73) (ls' := [(2, Int.ofNat o0), (0, v1), (0, v2), (0, v3), (0, (h (o0 + 40) ((wr ((wr (16 * v3)) + v1)) : Int).toNat))]) (st' := [(2, Int.ofNat o0)]) rfl ?_
      refine jEv.gfR (o' := (o0 + 41)) (show jfI 331 73 (.getfield 139) 3 [12, 71, 5, 0, 7107] = true by decide +kernel) (isX12_L ho0) (by decide) (isX12_r71 ho0) ?_
      refine jEv.blk [(.iload 4, 2, [])] (by decide +kernel) (pc' := 78) (ls' := [(2, Int.ofNat o0), (0, v1), (0, v2), (0, v3), (0, (h (o0 + 40) ((wr ((wr (16 * v3)) + v1)) : Int).toNat))]) (st' := [(0, (h (o0 + 40) ((wr ((wr (16 * v3)) + v1)) : Int).toNat)), (2, Int.ofNat (o0 + 41))]) rfl ?_
      refine jEv.ald (Or.inl ⟨rfl, rfl, rfl⟩) (show jfI 331 78 (.iaload) 1 [] = true by decide +kernel) (isX12_a71 ho0) H (fun c10 H => ?_)
      refine jEv.blk [(.iload_n 2, 1, [])] (by decide +kernel) (pc' := 80) (ls' := [(2, Int.ofNat o0), (0, v1), (0, v2), (0, v3), (0, (h (o0 + 40) ((wr ((wr (16 * v3)) + v1)) : Int).toNat))]) (st' := [(0, v2), (0, ((jup h (o0 + 41) ((h (o0 + 40) ((wr ((wr (16 * v3)) + v1)) : Int).toNat) : Int).toNat (wr ((h (o0 + 41) ((h (o0 + 40) ((wr ((wr (16 * v3)) + v1)) : Int).toNat) : Int).toNat) + 1))) (o0 + 41) ((h (o0 + 40) ((wr ((wr (16 * v3)) + v1)) : Int).toNat) : Int).toNat))]) rfl ?_
      refine jEv.ic_le (t := 91) (show jfI 331 80 (.if_icmp .le 11) 3 [] = true by decide +kernel) rfl H (fun c11 H => ?_) (fun c11 H => ?_)
      · refine jEv.blk [(.aload_n 0, 1, [])] (by decide +kernel) (pc' := 84) (ls' := [(2, Int.ofNat o0), (0, v1), (0, v2), (0, v3), (0, (h (o0 + 40) ((wr ((wr (16 * v3)) + v1)) : Int).toNat))]) (st' := [(2, Int.ofNat o0)]) rfl ?_
        refine jEv.gfR (o' := (o0 + 41)) (show jfI 331 84 (.getfield 139) 3 [12, 71, 5, 0, 7107] = true by decide +kernel) (isX12_L ho0) (by decide) (isX12_r71 ho0) ?_
        refine jEv.blk [(.iload 4, 2, [])] (by decide +kernel) (pc' := 89) (ls' := [(2, Int.ofNat o0), (0, v1), (0, v2), (0, v3), (0, (h (o0 + 40) ((wr ((wr (16 * v3)) + v1)) : Int).toNat))]) (st' := [(0, (h (o0 + 40) ((wr ((wr (16 * v3)) + v1)) : Int).toNat)), (2, Int.ofNat (o0 + 41))]) rfl ?_
        refine jEv.ald (Or.inl ⟨rfl, rfl, rfl⟩) (show jfI 331 89 (.iaload) 1 [] = true by decide +kernel) (isX12_a71 ho0) H (fun c12 H => ?_)
        refine jEv.blk [(.istore_n 2, 1, [])] (by decide +kernel) (pc' := 91) (ls' := [(2, Int.ofNat o0), (0, v1), (0, ((jup h (o0 + 41) ((h (o0 + 40) ((wr ((wr (16 * v3)) + v1)) : Int).toNat) : Int).toNat (wr ((h (o0 + 41) ((h (o0 + 40) ((wr ((wr (16 * v3)) + v1)) : Int).toNat) : Int).toNat) + 1))) (o0 + 41) ((h (o0 + 40) ((wr ((wr (16 * v3)) + v1)) : Int).toNat) : Int).toNat)), (0, v3), (0, (h (o0 + 40) ((wr ((wr (16 * v3)) + v1)) : Int).toNat))]) (st' := []) rfl ?_
        refine jEv.blk [(.iinc 3 1, 3, [])] (by decide +kernel) (pc' := 94) (ls' := [(2, Int.ofNat o0), (0, v1), (0, ((jup h (o0 + 41) ((h (o0 + 40) ((wr ((wr (16 * v3)) + v1)) : Int).toNat) : Int).toNat (wr ((h (o0 + 41) ((h (o0 + 40) ((wr ((wr (16 * v3)) + v1)) : Int).toNat) : Int).toNat) + 1))) (o0 + 41) ((h (o0 + 40) ((wr ((wr (16 * v3)) + v1)) : Int).toNat) : Int).toNat)), (0, (wr (v3 + 1))), (0, (h (o0 + 40) ((wr ((wr (16 * v3)) + v1)) : Int).toNat))]) (st' := []) rfl ?_
        refine jEv.goto (t := 26) (show jfI 331 94 (.goto (-68)) 3 [] = true by decide +kernel) rfl ?_
        exact jEv.weak (a := [(2, Int.ofNat o0), (0, v1), (0, ((jup h (o0 + 41) ((h (o0 + 40) ((wr ((wr (16 * v3)) + v1)) : Int).toNat) : Int).toNat (wr ((h (o0 + 41) ((h (o0 + 40) ((wr ((wr (16 * v3)) + v1)) : Int).toNat) : Int).toNat) + 1))) (o0 + 41) ((h (o0 + 40) ((wr ((wr (16 * v3)) + v1)) : Int).toNat) : Int).toNat)), (0, (wr (v3 + 1))), (3, 0)]) (jles.c1 (jles.c1 (jles.c1 (jles.c1 (jles.c0 jles.nl))))) ((by cases H; exact HY))
      · refine jEv.blk [(.iinc 3 1, 3, [])] (by decide +kernel) (pc' := 94) (ls' := [(2, Int.ofNat o0), (0, v1), (0, v2), (0, (wr (v3 + 1))), (0, (h (o0 + 40) ((wr ((wr (16 * v3)) + v1)) : Int).toNat))]) (st' := []) rfl ?_
        refine jEv.goto (t := 26) (show jfI 331 94 (.goto (-68)) 3 [] = true by decide +kernel) rfl ?_
        exact jEv.weak (a := [(2, Int.ofNat o0), (0, v1), (0, v2), (0, (wr (v3 + 1))), (3, 0)]) (jles.c1 (jles.c1 (jles.c1 (jles.c1 (jles.c0 jles.nl))))) ((by cases H; exact HY))
theorem t_M_mostAlike_L26 {T : jT} {xs : List Int} {d : Nat} {y : jV × jS} (hd : 0 ≤ d) {h : jH}  {o0 : Nat} {v1 : Int} {v2 : Int} {v3 : Int} {out : (Int × jH)} (ho0 : isX12 T o0) (H : M_mostAlike_L26 h o0 v1 v2 v3 = some out) (HY : ykI T y out) : jEv xs d (331, 26, [(2, Int.ofNat o0), (0, v1), (0, v2), (0, v3), (3, 0)], []) (T, h) y :=
  jloop_sound (G := fun s : (Int × Int × jH) => jEv xs d (331, 26, [(2, Int.ofNat o0), (0, v1), (0, s.1), (0, s.2.1), (3, 0)], []) (T, s.2.2) y) (K := yk_M_mostAlike_L26 T xs d y o0 v1) (fun s out H HY => t_M_mostAlike_B26 hd ho0 H HY) (fun s' hg => hg) (s := (v2, v3, h)) H HY
set_option maxRecDepth 20000 in
noncomputable def M_mostAlike_B4  (h : jH) (o0 : Nat) (v1 : Int) (v2 : Int) (v3 : Int) : Option ((Int × jH) ⊕ (Int × jH)) := (if 1000 < v3 then Option.map Sum.inr (M_mostAlike_L26 h o0 v1 v2 0) else (if (0 : Int) ≤ v3 ∧ (v3 : Int).toNat < 1001 then some (.inl ((wr (v3 + 1)), (jup h (o0 + 41) (v3 : Int).toNat 0))) else none))
noncomputable def M_mostAlike_L4  (h : jH) (o0 : Nat) (v1 : Int) (v2 : Int) (v3 : Int) : Option (Int × jH) := jloop (fun s : (Int × jH) => M_mostAlike_B4 s.2 o0 v1 v2 s.1) (v3, h)
set_option maxRecDepth 20000 in
theorem t_M_mostAlike_B4 {T : jT} {xs : List Int} {d : Nat} {y : jV × jS} (hd : 0 ≤ d) {h : jH}  {o0 : Nat} {v1 : Int} {v2 : Int} {v3 : Int} {out : ((Int × jH) ⊕ (Int × jH))} (ho0 : isX12 T o0) (H : M_mostAlike_B4 h o0 v1 v2 v3 = some out) (HY : yk_M_mostAlike_L4 T xs d y o0 v1 v2 out) : jEv xs d (331, 4, [(2, Int.ofNat o0), (0, v1), (0, v2), (0, v3), (3, 0)], []) (T, h) y := by
  unfold M_mostAlike_B4 at H
  refine jEv.blk [(.iload_n 3, 1, []), (.sipush 1000, 3, [])] (by decide +kernel) (pc' := 8) (ls' := [(2, Int.ofNat o0), (0, v1), (0, v2), (0, v3), (3, 0)]) (st' := [(0, 1000), (0, v3)]) rfl ?_
  refine jEv.ic_gt (t := 24) (show jfI 331 8 (.if_icmp .gt 16) 3 [] = true by decide +kernel) rfl H (fun c1 H => ?_) (fun c1 H => ?_)
  · refine jmapr H HY (fun out H (HY : ykI T y out) => ?_)
    refine jEv.blk [(.iconst 0, 1, []), (.istore_n 3, 1, [])] (by decide +kernel) (pc' := 26) (ls' := [(2, Int.ofNat o0), (0, v1), (0, v2), (0, 0), (3, 0)]) (st' := []) rfl ?_
    exact t_M_mostAlike_L26 (T := T) (xs := xs) (y := y) hd ho0 H HY
  · refine jEv.blk [(.aload_n 0, 1, [])] (by decide +kernel) (pc' := 12) (ls' := [(2, Int.ofNat o0), (0, v1), (0, v2), (0, v3), (3, 0)]) (st' := [(2, Int.ofNat o0)]) rfl ?_
    refine jEv.gfR (o' := (o0 + 41)) (show jfI 331 12 (.getfield 139) 3 [12, 71, 5, 0, 7107] = true by decide +kernel) (isX12_L ho0) (by decide) (isX12_r71 ho0) ?_
    refine jEv.blk [(.iload_n 3, 1, []), (.iconst 0, 1, [])] (by decide +kernel) (pc' := 17) (ls' := [(2, Int.ofNat o0), (0, v1), (0, v2), (0, v3), (3, 0)]) (st' := [(0, 0), (0, v3), (2, Int.ofNat (o0 + 41))]) rfl ?_
    refine jEv.ast (Or.inl ⟨rfl, rfl, rfl⟩) (show jfI 331 17 (.iastore) 1 [] = true by decide +kernel) (isX12_a71 ho0) rfl H (fun c2 H => ?_)
    refine jEv.blk [(.iinc 3 1, 3, [])] (by decide +kernel) (pc' := 21) (ls' := [(2, Int.ofNat o0), (0, v1), (0, v2), (0, (wr (v3 + 1))), (3, 0)]) (st' := []) rfl ?_
    refine jEv.goto (t := 4) (show jfI 331 21 (.goto (-17)) 3 [] = true by decide +kernel) rfl ?_
    exact (by cases H; exact HY)
theorem t_M_mostAlike_L4 {T : jT} {xs : List Int} {d : Nat} {y : jV × jS} (hd : 0 ≤ d) {h : jH}  {o0 : Nat} {v1 : Int} {v2 : Int} {v3 : Int} {out : (Int × jH)} (ho0 : isX12 T o0) (H : M_mostAlike_L4 h o0 v1 v2 v3 = some out) (HY : ykI T y out) : jEv xs d (331, 4, [(2, Int.ofNat o0), (0, v1), (0, v2), (0, v3), (3, 0)], []) (T, h) y :=
  jloop_sound (G := fun s : (Int × jH) => jEv xs d (331, 4, [(2, Int.ofNat o0), (0, v1), (0, v2), (0, s.1), (3, 0)], []) (T, s.2) y) (K := yk_M_mostAlike_L4 T xs d y o0 v1 v2) (fun s out H HY => t_M_mostAlike_B4 hd ho0 H HY) (fun s' hg => hg) (s := (v3, h)) H HY
set_option maxRecDepth 20000 in
noncomputable def M_mostAlike  (h : jH) (o0 : Nat) (v1 : Int) : Option (Int × jH) := M_mostAlike_L4 h o0 v1 0 0
set_option maxRecDepth 20000 in
theorem t_M_mostAlike {T : jT} {xs : List Int} {h : jH}  {o0 : Nat} {v1 : Int} {out : (Int × jH)} (ho0 : isX12 T o0) (H : M_mostAlike h o0 v1 = some out) : jEm xs 1 331 [(2, Int.ofNat o0), (0, v1)] (T, h) ((0, out.1), (T, out.2)) := by
  have hd : 0 ≤ 0 := Nat.le_refl _
  obtain ⟨y, ey⟩ : ∃ y : jV × jS, y = ((0, out.1), (T, out.2)) := ⟨_, rfl⟩
  rw [← ey]
  have HY : ykI T y out := ey
  refine jEm.ent (n := 5) (by decide +kernel) (Nat.le_of_ble_eq_true rfl) ?_
  show jEv xs 0 (331, 0, [(2, Int.ofNat o0), (0, v1), (3, 0), (3, 0), (3, 0)], []) (T, h) y
  unfold M_mostAlike at H
  refine jEv.blk [(.iconst 0, 1, []), (.istore_n 2, 1, []), (.iconst 0, 1, []), (.istore_n 3, 1, [])] (by decide +kernel) (pc' := 4) (ls' := [(2, Int.ofNat o0), (0, v1), (0, 0), (0, 0), (3, 0)]) (st' := []) rfl ?_
  exact t_M_mostAlike_L4 (T := T) (xs := xs) (y := y) hd ho0 H HY
def yk_M_tells_L30 (T : jT) (xs : List Int) (d : Nat) (y : jV × jS)  (o0 : Nat) (v1 : Int) : ((Int × Int × Int × jH) ⊕ (Int × jH)) → Prop
  | .inl (v2, v3, v4, h) => jEv xs d (330, 30, [(2, Int.ofNat o0), (0, v1), (0, v2), (0, v3), (0, v4), (3, 0)], []) (T, h) y
  | .inr o => ykI T y o
set_option maxRecDepth 20000 in
noncomputable def M_tells_p66  (h : jH) (o0 : Nat) (v1 : Int) (v4 : Int) (v5 : Int) : Option ((Int × Int × Int × jH) ⊕ (Int × jH)) := some (.inl (v4, v5, (wr (v4 + 1)), h))
set_option maxRecDepth 20000 in
theorem t_M_tells_p66 {T : jT} {xs : List Int} {d : Nat} {y : jV × jS} (hd : 8 ≤ d) {h : jH}  {o0 : Nat} {v1 : Int} {v4 : Int} {v5 : Int} {out : ((Int × Int × Int × jH) ⊕ (Int × jH))} (ho0 : isX12 T o0) (H : M_tells_p66 h o0 v1 v4 v5 = some out) (HY : yk_M_tells_L30 T xs d y o0 v1 out) : jEv xs d (330, 66, [(2, Int.ofNat o0), (0, v1), (3, 0), (3, 0), (0, v4), (0, v5)], []) (T, h) y := by
  unfold M_tells_p66 at H
  refine jEv.blk [(.iload 4, 2, []), (.istore_n 2, 1, []), (.iload 5, 2, []), (.istore_n 3, 1, [])] (by decide +kernel) (pc' := 72) (ls' := [(2, Int.ofNat o0), (0, v1), (0, v4), (0, v5), (0, v4), (0, v5)]) (st' := []) rfl ?_
  refine jEv.blk [(.iinc 4 1, 3, [])] (by decide +kernel) (pc' := 75) (ls' := [(2, Int.ofNat o0), (0, v1), (0, v4), (0, v5), (0, (wr (v4 + 1))), (0, v5)]) (st' := []) rfl ?_
  refine jEv.goto (t := 30) (show jfI 330 75 (.goto (-45)) 3 [] = true by decide +kernel) rfl ?_
  exact jEv.weak (a := [(2, Int.ofNat o0), (0, v1), (0, v4), (0, v5), (0, (wr (v4 + 1))), (3, 0)]) (jles.c1 (jles.c1 (jles.c1 (jles.c1 (jles.c1 (jles.c0 jles.nl)))))) ((by cases H; exact HY))
set_option maxRecDepth 20000 in
noncomputable def M_tells_p78  (h : jH) (v1 : Int) (v2 : Int) (v3 : Int) : Option (Int × jH) := (if v2 = (-1) then some ((-1), h) else (if v1 = 0 then some (v2, h) else some (v3, h)))
set_option maxRecDepth 20000 in
theorem t_M_tells_p78 {T : jT} {xs : List Int} {d : Nat} {y : jV × jS} (hd : 8 ≤ d) {h : jH}  {v1 : Int} {v2 : Int} {v3 : Int} {out : (Int × jH)}  (H : M_tells_p78 h v1 v2 v3 = some out) (HY : ykI T y out) : jEv xs d (330, 78, [(3, 0), (0, v1), (0, v2), (0, v3), (3, 0), (3, 0)], []) (T, h) y := by
  unfold M_tells_p78 at H
  refine jEv.blk [(.iload_n 2, 1, []), (.iconst (-1), 1, [])] (by decide +kernel) (pc' := 80) (ls' := [(3, 0), (0, v1), (0, v2), (0, v3), (3, 0), (3, 0)]) (st' := [(0, (-1)), (0, v2)]) rfl ?_
  refine jEv.ic_ne (t := 87) (show jfI 330 80 (.if_icmp .ne 7) 3 [] = true by decide +kernel) rfl H (fun c10 H => ?_) (fun c10 H => ?_)
  · refine jEv.blk [(.iconst (-1), 1, [])] (by decide +kernel) (pc' := 84) (ls' := [(3, 0), (0, v1), (0, v2), (0, v3), (3, 0), (3, 0)]) (st' := [(0, (-1))]) rfl ?_
    refine jEv.goto (t := 96) (show jfI 330 84 (.goto 12) 3 [] = true by decide +kernel) rfl ?_
    exact jEv.retI (show jfI 330 96 (.ireturn) 1 [] = true by decide +kernel) (by decide +kernel) (by cases H; exact HY)
  · refine jEv.blk [(.iload_n 1, 1, [])] (by decide +kernel) (pc' := 88) (ls' := [(3, 0), (0, v1), (0, v2), (0, v3), (3, 0), (3, 0)]) (st' := [(0, v1)]) rfl ?_
    refine jEv.if_ne (t := 95) (show jfI 330 88 (.ifCond .ne 7) 3 [] = true by decide +kernel) rfl H (fun c11 H => ?_) (fun c11 H => ?_)
    · refine jEv.blk [(.iload_n 2, 1, [])] (by decide +kernel) (pc' := 92) (ls' := [(3, 0), (0, v1), (0, v2), (0, v3), (3, 0), (3, 0)]) (st' := [(0, v2)]) rfl ?_
      refine jEv.goto (t := 96) (show jfI 330 92 (.goto 4) 3 [] = true by decide +kernel) rfl ?_
      exact jEv.retI (show jfI 330 96 (.ireturn) 1 [] = true by decide +kernel) (by decide +kernel) (by cases H; exact HY)
    · refine jEv.blk [(.iload_n 3, 1, [])] (by decide +kernel) (pc' := 96) (ls' := [(3, 0), (0, v1), (0, v2), (0, v3), (3, 0), (3, 0)]) (st' := [(0, v3)]) rfl ?_
      exact jEv.retI (show jfI 330 96 (.ireturn) 1 [] = true by decide +kernel) (by decide +kernel) (by cases H; exact HY)
set_option maxRecDepth 20000 in
noncomputable def M_tells_B30  (h : jH) (o0 : Nat) (v1 : Int) (v2 : Int) (v3 : Int) (v4 : Int) : Option ((Int × Int × Int × jH) ⊕ (Int × jH)) := (if v4 < 16 then (if 0 < (h o0 69) then Option.bind (M_mostAlike h o0 v4) (fun b7 => (if v2 = (-1) then M_tells_p66 b7.2 o0 v1 v4 b7.1 else (if b7.1 < v3 then M_tells_p66 b7.2 o0 v1 v4 b7.1 else some (.inl (v2, v3, (wr (v4 + 1)), b7.2))))) else Option.map Sum.inr (M_tells_p78 h v1 v2 v3)) else Option.map Sum.inr (M_tells_p78 h v1 v2 v3))
noncomputable def M_tells_L30  (h : jH) (o0 : Nat) (v1 : Int) (v2 : Int) (v3 : Int) (v4 : Int) : Option (Int × jH) := jloop (fun s : (Int × Int × Int × jH) => M_tells_B30 s.2.2.2 o0 v1 s.1 s.2.1 s.2.2.1) (v2, v3, v4, h)
set_option maxRecDepth 20000 in
theorem t_M_tells_B30 {T : jT} {xs : List Int} {d : Nat} {y : jV × jS} (hd : 8 ≤ d) {h : jH}  {o0 : Nat} {v1 : Int} {v2 : Int} {v3 : Int} {v4 : Int} {out : ((Int × Int × Int × jH) ⊕ (Int × jH))} (ho0 : isX12 T o0) (H : M_tells_B30 h o0 v1 v2 v3 v4 = some out) (HY : yk_M_tells_L30 T xs d y o0 v1 out) : jEv xs d (330, 30, [(2, Int.ofNat o0), (0, v1), (0, v2), (0, v3), (0, v4), (3, 0)], []) (T, h) y := by
  unfold M_tells_B30 at H
  refine jEv.blk [(.iload 4, 2, []), (.bipush 16, 2, [])] (by decide +kernel) (pc' := 34) (ls' := [(2, Int.ofNat o0), (0, v1), (0, v2), (0, v3), (0, v4), (3, 0)]) (st' := [(0, 16), (0, v4)]) rfl ?_
  refine jEv.ic_ge (t := 78) (show jfI 330 34 (.if_icmp .ge 44) 3 [] = true by decide +kernel) rfl H (fun c5 H => ?_) (fun c5 H => ?_)
  · refine jEv.blk [(.aload_n 0, 1, [])] (by decide +kernel) (pc' := 38) (ls' := [(2, Int.ofNat o0), (0, v1), (0, v2), (0, v3), (0, v4), (3, 0)]) (st' := [(2, Int.ofNat o0)]) rfl ?_
    refine jEv.gfI (show jfI 330 38 (.getfield 622) 3 [12, 69, 0, 0, 7105] = true by decide +kernel) (isX12_L ho0) (by decide) ?_
    refine jEv.if_le (t := 78) (show jfI 330 41 (.ifCond .le 37) 3 [] = true by decide +kernel) rfl H (fun c6 H => ?_) (fun c6 H => ?_)
    · refine jEv.blk [(.aload_n 0, 1, []), (.iload 4, 2, [])] (by decide +kernel) (pc' := 47) (ls' := [(2, Int.ofNat o0), (0, v1), (0, v2), (0, v3), (0, v4), (3, 0)]) (st' := [(0, v4), (2, Int.ofNat o0)]) rfl ?_
      refine jbind H (fun b7 Hb7 H => ?_)
      refine jEv.calV (st' := [(0, b7.1)]) (show jfI 330 47 (.invokevirtual 631) 3 [1, 331, 1, 10175] = true by decide +kernel) rfl (Or.inl rfl) rfl (Nat.le_of_ble_eq_true rfl) (by decide +kernel) (by decide) (isX12_L ho0) ((t_M_mostAlike (T := T) (xs := xs) ho0 Hb7).mono (jKle 1 hd)) rfl ?_
      refine jEv.blk [(.istore 5, 2, []), (.iload_n 2, 1, []), (.iconst (-1), 1, [])] (by decide +kernel) (pc' := 54) (ls' := [(2, Int.ofNat o0), (0, v1), (0, v2), (0, v3), (0, v4), (0, b7.1)]) (st' := [(0, (-1)), (0, v2)]) rfl ?_
      refine jEv.ic_eq (t := 66) (show jfI 330 54 (.if_icmp .eq 12) 3 [] = true by decide +kernel) rfl H (fun c8 H => ?_) (fun c8 H => ?_)
      · exact jEv.weak (a := [(2, Int.ofNat o0), (0, v1), (3, 0), (3, 0), (0, v4), (0, b7.1)]) (jles.c1 (jles.c1 (jles.c0 (jles.c0 (jles.c1 (jles.c1 jles.nl)))))) (t_M_tells_p66 (T := T) (xs := xs) (y := y) hd ho0 H HY)
      · refine jEv.blk [(.iload 5, 2, []), (.iload_n 3, 1, [])] (by decide +kernel) (pc' := 60) (ls' := [(2, Int.ofNat o0), (0, v1), (0, v2), (0, v3), (0, v4), (0, b7.1)]) (st' := [(0, v3), (0, b7.1)]) rfl ?_
        refine jEv.ic_lt (t := 66) (show jfI 330 60 (.if_icmp .lt 6) 3 [] = true by decide +kernel) rfl H (fun c9 H => ?_) (fun c9 H => ?_)
        · exact jEv.weak (a := [(2, Int.ofNat o0), (0, v1), (3, 0), (3, 0), (0, v4), (0, b7.1)]) (jles.c1 (jles.c1 (jles.c0 (jles.c0 (jles.c1 (jles.c1 jles.nl)))))) (t_M_tells_p66 (T := T) (xs := xs) (y := y) hd ho0 H HY)
        · refine jEv.goto (t := 72) (show jfI 330 63 (.goto 9) 3 [] = true by decide +kernel) rfl ?_
          refine jEv.blk [(.iinc 4 1, 3, [])] (by decide +kernel) (pc' := 75) (ls' := [(2, Int.ofNat o0), (0, v1), (0, v2), (0, v3), (0, (wr (v4 + 1))), (0, b7.1)]) (st' := []) rfl ?_
          refine jEv.goto (t := 30) (show jfI 330 75 (.goto (-45)) 3 [] = true by decide +kernel) rfl ?_
          exact jEv.weak (a := [(2, Int.ofNat o0), (0, v1), (0, v2), (0, v3), (0, (wr (v4 + 1))), (3, 0)]) (jles.c1 (jles.c1 (jles.c1 (jles.c1 (jles.c1 (jles.c0 jles.nl)))))) ((by cases H; exact HY))
    · refine jmapr H HY (fun out H (HY : ykI T y out) => ?_)
      exact jEv.weak (a := [(3, 0), (0, v1), (0, v2), (0, v3), (3, 0), (3, 0)]) (jles.c0 (jles.c1 (jles.c1 (jles.c1 (jles.c0 (jles.c0 jles.nl)))))) (t_M_tells_p78 (T := T) (xs := xs) (y := y) hd H HY)
  · refine jmapr H HY (fun out H (HY : ykI T y out) => ?_)
    exact jEv.weak (a := [(3, 0), (0, v1), (0, v2), (0, v3), (3, 0), (3, 0)]) (jles.c0 (jles.c1 (jles.c1 (jles.c1 (jles.c0 (jles.c0 jles.nl)))))) (t_M_tells_p78 (T := T) (xs := xs) (y := y) hd H HY)
theorem t_M_tells_L30 {T : jT} {xs : List Int} {d : Nat} {y : jV × jS} (hd : 8 ≤ d) {h : jH}  {o0 : Nat} {v1 : Int} {v2 : Int} {v3 : Int} {v4 : Int} {out : (Int × jH)} (ho0 : isX12 T o0) (H : M_tells_L30 h o0 v1 v2 v3 v4 = some out) (HY : ykI T y out) : jEv xs d (330, 30, [(2, Int.ofNat o0), (0, v1), (0, v2), (0, v3), (0, v4), (3, 0)], []) (T, h) y :=
  jloop_sound (G := fun s : (Int × Int × Int × jH) => jEv xs d (330, 30, [(2, Int.ofNat o0), (0, v1), (0, s.1), (0, s.2.1), (0, s.2.2.1), (3, 0)], []) (T, s.2.2.2) y) (K := yk_M_tells_L30 T xs d y o0 v1) (fun s out H HY => t_M_tells_B30 hd ho0 H HY) (fun s' hg => hg) (s := (v2, v3, v4, h)) H HY
set_option maxRecDepth 20000 in
noncomputable def M_tells  (h : jH) (o0 : Nat) (v1 : Int) : Option (Int × jH) := (if (h o0 43) = 0 then some ((-1), h) else Option.bind (M_isIn v1 0 1) (fun b2 => (if b2 = 0 then some ((-1), h) else Option.bind (M_laysArrived h o0) (fun b4 => M_tells_L30 b4 o0 v1 (-1) 0 0))))
set_option maxRecDepth 20000 in
theorem t_M_tells {T : jT} {xs : List Int} {h : jH}  {o0 : Nat} {v1 : Int} {out : (Int × jH)} (ho0 : isX12 T o0) (H : M_tells h o0 v1 = some out) : jEm xs 9 330 [(2, Int.ofNat o0), (0, v1)] (T, h) ((0, out.1), (T, out.2)) := by
  have hd : 8 ≤ 8 := Nat.le_refl _
  obtain ⟨y, ey⟩ : ∃ y : jV × jS, y = ((0, out.1), (T, out.2)) := ⟨_, rfl⟩
  rw [← ey]
  have HY : ykI T y out := ey
  refine jEm.ent (n := 6) (by decide +kernel) (Nat.le_of_ble_eq_true rfl) ?_
  show jEv xs 8 (330, 0, [(2, Int.ofNat o0), (0, v1), (3, 0), (3, 0), (3, 0), (3, 0)], []) (T, h) y
  unfold M_tells at H
  refine jEv.blk [(.aload_n 0, 1, [])] (by decide +kernel) (pc' := 1) (ls' := [(2, Int.ofNat o0), (0, v1), (3, 0), (3, 0), (3, 0), (3, 0)]) (st' := [(2, Int.ofNat o0)]) rfl ?_
  refine jEv.gfI (show jfI 330 1 (.getfield 340) 3 [12, 43, 0, 1, 7079] = true by decide +kernel) (isX12_L ho0) (by decide) ?_
  refine jEv.if_eq (t := 17) (show jfI 330 4 (.ifCond .eq 13) 3 [] = true by decide +kernel) rfl H (fun c1 H => ?_) (fun c1 H => ?_)
  · refine jEv.blk [(.iconst (-1), 1, [])] (by decide +kernel) (pc' := 18) (ls' := [(2, Int.ofNat o0), (0, v1), (3, 0), (3, 0), (3, 0), (3, 0)]) (st' := [(0, (-1))]) rfl ?_
    exact jEv.retI (show jfI 330 18 (.ireturn) 1 [] = true by decide +kernel) (by decide +kernel) (by cases H; exact HY)
  · refine jEv.blk [(.iload_n 1, 1, []), (.i2l, 1, []), (.lconst 0, 1, []), (.lconst 1, 1, [])] (by decide +kernel) (pc' := 11) (ls' := [(2, Int.ofNat o0), (0, v1), (3, 0), (3, 0), (3, 0), (3, 0)]) (st' := [(1, 1), (1, 0), (1, v1)]) rfl ?_
    refine jbind H (fun b2 Hb2 H => ?_)
    refine jEv.calS (st' := [(0, b2)]) (show jfI 330 11 (.invokestatic 275) 3 [3, 213, 3, 8176] = true by decide +kernel) rfl (Or.inl rfl) rfl (Nat.le_of_ble_eq_true rfl) ((t_M_isIn (T := T) (xs := xs)  Hb2).mono (jKle 1 hd)) rfl ?_
    refine jEv.if_ne (t := 19) (show jfI 330 14 (.ifCond .ne 5) 3 [] = true by decide +kernel) rfl H (fun c3 H => ?_) (fun c3 H => ?_)
    · refine jEv.blk [(.iconst (-1), 1, [])] (by decide +kernel) (pc' := 18) (ls' := [(2, Int.ofNat o0), (0, v1), (3, 0), (3, 0), (3, 0), (3, 0)]) (st' := [(0, (-1))]) rfl ?_
      exact jEv.retI (show jfI 330 18 (.ireturn) 1 [] = true by decide +kernel) (by decide +kernel) (by cases H; exact HY)
    · refine jEv.blk [(.aload_n 0, 1, [])] (by decide +kernel) (pc' := 20) (ls' := [(2, Int.ofNat o0), (0, v1), (3, 0), (3, 0), (3, 0), (3, 0)]) (st' := [(2, Int.ofNat o0)]) rfl ?_
      refine jbind H (fun b4 Hb4 H => ?_)
      refine jEv.calV (st' := []) (show jfI 330 20 (.invokevirtual 628) 3 [1, 328, 0, 10163] = true by decide +kernel) rfl (Or.inl rfl) rfl (Nat.le_of_ble_eq_true rfl) (by decide +kernel) (by decide) (isX12_L ho0) ((t_M_laysArrived (T := T) (xs := xs) ho0 Hb4).mono (jKle 8 hd)) rfl ?_
      refine jEv.blk [(.iconst (-1), 1, []), (.istore_n 2, 1, []), (.iconst 0, 1, []), (.istore_n 3, 1, []), (.iconst 0, 1, []), (.istore 4, 2, [])] (by decide +kernel) (pc' := 30) (ls' := [(2, Int.ofNat o0), (0, v1), (0, (-1)), (0, 0), (0, 0), (3, 0)]) (st' := []) rfl ?_
      exact t_M_tells_L30 (T := T) (xs := xs) (y := y) hd ho0 H HY
def yk_M_undo_L21 (T : jT) (xs : List Int) (d : Nat) (y : jV × jS)  (o0 : Nat) : ((Int × jH) ⊕ (Int × jH)) → Prop
  | .inl (v1, h) => jEv xs d (332, 21, [(2, Int.ofNat o0), (0, v1)], []) (T, h) y
  | .inr o => ykI T y o
set_option maxRecDepth 20000 in
noncomputable def M_undo_B21  (h : jH) (o0 : Nat) (v1 : Int) : Option ((Int × jH) ⊕ (Int × jH)) := (if v1 < 2365 then (if (0 : Int) ≤ (wr ((wr (2365 * (h o0 74))) + v1)) ∧ ((wr ((wr (2365 * (h o0 74))) + v1)) : Int).toNat < 47300 then (if (0 : Int) ≤ v1 ∧ (v1 : Int).toNat < 2365 then some (.inl ((wr (v1 + 1)), (jup h (o0 + 33) (v1 : Int).toNat (h (o0 + 42) ((wr ((wr (2365 * (h o0 74))) + v1)) : Int).toNat)))) else none) else none) else Option.map Sum.inr (some (1, (jup (jup h o0 74 (Int.tmod (wr ((wr ((h o0 74) + 20)) - 1)) 20)) o0 73 (wr (((jup h o0 74 (Int.tmod (wr ((wr ((h o0 74) + 20)) - 1)) 20)) o0 73) - 1))))))
noncomputable def M_undo_L21  (h : jH) (o0 : Nat) (v1 : Int) : Option (Int × jH) := jloop (fun s : (Int × jH) => M_undo_B21 s.2 o0 s.1) (v1, h)
set_option maxRecDepth 20000 in
theorem t_M_undo_B21 {T : jT} {xs : List Int} {d : Nat} {y : jV × jS} (hd : 0 ≤ d) {h : jH}  {o0 : Nat} {v1 : Int} {out : ((Int × jH) ⊕ (Int × jH))} (ho0 : isX12 T o0) (H : M_undo_B21 h o0 v1 = some out) (HY : yk_M_undo_L21 T xs d y o0 out) : jEv xs d (332, 21, [(2, Int.ofNat o0), (0, v1)], []) (T, h) y := by
  unfold M_undo_B21 at H
  refine jEv.blk [(.iload_n 1, 1, []), (.sipush 2365, 3, [])] (by decide +kernel) (pc' := 25) (ls' := [(2, Int.ofNat o0), (0, v1)]) (st' := [(0, 2365), (0, v1)]) rfl ?_
  refine jEv.ic_ge (t := 55) (show jfI 332 25 (.if_icmp .ge 30) 3 [] = true by decide +kernel) rfl H (fun c4 H => ?_) (fun c4 H => ?_)
  · refine jEv.blk [(.aload_n 0, 1, [])] (by decide +kernel) (pc' := 29) (ls' := [(2, Int.ofNat o0), (0, v1)]) (st' := [(2, Int.ofNat o0)]) rfl ?_
    refine jEv.gfR (o' := (o0 + 33)) (show jfI 332 29 (.getfield 111) 3 [12, 45, 5, 0, 7081] = true by decide +kernel) (isX12_L ho0) (by decide) (isX12_r45 ho0) ?_
    refine jEv.blk [(.iload_n 1, 1, []), (.aload_n 0, 1, [])] (by decide +kernel) (pc' := 34) (ls' := [(2, Int.ofNat o0), (0, v1)]) (st' := [(2, Int.ofNat o0), (0, v1), (2, Int.ofNat (o0 + 33))]) rfl ?_
    refine jEv.gfR (o' := (o0 + 42)) (show jfI 332 34 (.getfield 143) 3 [12, 72, 5, 0, 7108] = true by decide +kernel) (isX12_L ho0) (by decide) (isX12_r72 ho0) ?_
    refine jEv.blk [(.sipush 2365, 3, []), (.aload_n 0, 1, [])] (by decide +kernel) (pc' := 41) (ls' := [(2, Int.ofNat o0), (0, v1)]) (st' := [(2, Int.ofNat o0), (0, 2365), (2, Int.ofNat (o0 + 42)), (0, v1), (2, Int.ofNat (o0 + 33))]) rfl ?_
    refine jEv.gfI (show jfI 332 41 (.getfield 634) 3 [12, 74, 0, 0, 7110] = true by decide +kernel) (isX12_L ho0) (by decide) ?_
    refine jEv.blk [(.imul, 1, []), (.iload_n 1, 1, []), (.iadd, 1, [])] (by decide +kernel) (pc' := 47) (ls' := [(2, Int.ofNat o0), (0, v1)]) (st' := [(0, (wr ((wr (2365 * (h o0 74))) + v1))), (2, Int.ofNat (o0 + 42)), (0, v1), (2, Int.ofNat (o0 + 33))]) rfl ?_
    refine jEv.ald (Or.inl ⟨rfl, rfl, rfl⟩) (show jfI 332 47 (.iaload) 1 [] = true by decide +kernel) (isX12_a72 ho0) H (fun c5 H => ?_)
    refine jEv.ast (Or.inl ⟨rfl, rfl, rfl⟩) (show jfI 332 48 (.iastore) 1 [] = true by decide +kernel) (isX12_a45 ho0) rfl H (fun c6 H => ?_)
    refine jEv.blk [(.iinc 1 1, 3, [])] (by decide +kernel) (pc' := 52) (ls' := [(2, Int.ofNat o0), (0, (wr (v1 + 1)))]) (st' := []) rfl ?_
    refine jEv.goto (t := 21) (show jfI 332 52 (.goto (-31)) 3 [] = true by decide +kernel) rfl ?_
    exact (by cases H; exact HY)
  · refine jmapr H HY (fun out H (HY : ykI T y out) => ?_)
    refine jEv.blk [(.aload_n 0, 1, []), (.aload_n 0, 1, [])] (by decide +kernel) (pc' := 57) (ls' := [(2, Int.ofNat o0), (0, v1)]) (st' := [(2, Int.ofNat o0), (2, Int.ofNat o0)]) rfl ?_
    refine jEv.gfI (show jfI 332 57 (.getfield 634) 3 [12, 74, 0, 0, 7110] = true by decide +kernel) (isX12_L ho0) (by decide) ?_
    refine jEv.blk [(.bipush 20, 2, []), (.iadd, 1, []), (.iconst 1, 1, []), (.isub, 1, []), (.bipush 20, 2, [])] (by decide +kernel) (pc' := 67) (ls' := [(2, Int.ofNat o0), (0, v1)]) (st' := [(0, 20), (0, (wr ((wr ((h o0 74) + 20)) - 1))), (2, Int.ofNat o0)]) rfl ?_
    refine jEv.irem (show jfI 332 67 (.irem) 1 [] = true by decide +kernel) (by decide) ?_
    refine jEv.pfI (show jfI 332 68 (.putfield 634) 3 [12, 74, 0, 0, 7110] = true by decide +kernel) (isX12_L ho0) (by decide) ?_
    refine jEv.blk [(.aload_n 0, 1, []), (.dup, 1, [])] (by decide +kernel) (pc' := 73) (ls' := [(2, Int.ofNat o0), (0, v1)]) (st' := [(2, Int.ofNat o0), (2, Int.ofNat o0)]) rfl ?_
    refine jEv.gfI (show jfI 332 73 (.getfield 347) 3 [12, 73, 0, 0, 7109] = true by decide +kernel) (isX12_L ho0) (by decide) ?_
    refine jEv.blk [(.iconst 1, 1, []), (.isub, 1, [])] (by decide +kernel) (pc' := 78) (ls' := [(2, Int.ofNat o0), (0, v1)]) (st' := [(0, (wr (((jup h o0 74 (Int.tmod (wr ((wr ((h o0 74) + 20)) - 1)) 20)) o0 73) - 1))), (2, Int.ofNat o0)]) rfl ?_
    refine jEv.pfI (show jfI 332 78 (.putfield 347) 3 [12, 73, 0, 0, 7109] = true by decide +kernel) (isX12_L ho0) (by decide) ?_
    refine jEv.blk [(.iconst 1, 1, [])] (by decide +kernel) (pc' := 82) (ls' := [(2, Int.ofNat o0), (0, v1)]) (st' := [(0, 1)]) rfl ?_
    exact jEv.retZ (show jfI 332 82 (.ireturn) 1 [] = true by decide +kernel) (by decide +kernel) (by decide) (by cases H; exact HY)
theorem t_M_undo_L21 {T : jT} {xs : List Int} {d : Nat} {y : jV × jS} (hd : 0 ≤ d) {h : jH}  {o0 : Nat} {v1 : Int} {out : (Int × jH)} (ho0 : isX12 T o0) (H : M_undo_L21 h o0 v1 = some out) (HY : ykI T y out) : jEv xs d (332, 21, [(2, Int.ofNat o0), (0, v1)], []) (T, h) y :=
  jloop_sound (G := fun s : (Int × jH) => jEv xs d (332, 21, [(2, Int.ofNat o0), (0, s.1)], []) (T, s.2) y) (K := yk_M_undo_L21 T xs d y o0) (fun s out H HY => t_M_undo_B21 hd ho0 H HY) (fun s' hg => hg) (s := (v1, h)) H HY
set_option maxRecDepth 20000 in
noncomputable def M_undo  (h : jH) (o0 : Nat) : Option (Int × jH) := (if (h o0 73) = 0 then (if (0 : Int) ≤ 5 ∧ (5 : Int).toNat < 7 then (if (0 : Int) ≤ 5 ∧ (5 : Int).toNat < 7 then some (0, (jup h (o0 + 2) (5 : Int).toNat (wr ((h (o0 + 2) (5 : Int).toNat) + 1)))) else none) else none) else M_undo_L21 h o0 0)
set_option maxRecDepth 20000 in
theorem t_M_undo {T : jT} {xs : List Int} {h : jH}  {o0 : Nat} {out : (Int × jH)} (ho0 : isX12 T o0) (H : M_undo h o0 = some out) : jEm xs 1 332 [(2, Int.ofNat o0)] (T, h) ((0, out.1), (T, out.2)) := by
  have hd : 0 ≤ 0 := Nat.le_refl _
  obtain ⟨y, ey⟩ : ∃ y : jV × jS, y = ((0, out.1), (T, out.2)) := ⟨_, rfl⟩
  rw [← ey]
  have HY : ykI T y out := ey
  refine jEm.ent (n := 2) (by decide +kernel) (Nat.le_of_ble_eq_true rfl) ?_
  show jEv xs 0 (332, 0, [(2, Int.ofNat o0), (3, 0)], []) (T, h) y
  unfold M_undo at H
  refine jEv.blk [(.aload_n 0, 1, [])] (by decide +kernel) (pc' := 1) (ls' := [(2, Int.ofNat o0), (3, 0)]) (st' := [(2, Int.ofNat o0)]) rfl ?_
  refine jEv.gfI (show jfI 332 1 (.getfield 347) 3 [12, 73, 0, 0, 7109] = true by decide +kernel) (isX12_L ho0) (by decide) ?_
  refine jEv.if_ne (t := 19) (show jfI 332 4 (.ifCond .ne 15) 3 [] = true by decide +kernel) rfl H (fun c1 H => ?_) (fun c1 H => ?_)
  · refine jEv.blk [(.aload_n 0, 1, [])] (by decide +kernel) (pc' := 8) (ls' := [(2, Int.ofNat o0), (3, 0)]) (st' := [(2, Int.ofNat o0)]) rfl ?_
    refine jEv.gfR (o' := (o0 + 2)) (show jfI 332 8 (.getfield 17) 3 [12, 9, 5, 0, 7045] = true by decide +kernel) (isX12_L ho0) (by decide) (isX12_r9 ho0) ?_
    refine jEv.blk [(.iconst 5, 1, []), (.dup2, 1, [])] (by decide +kernel) (pc' := 13) (ls' := [(2, Int.ofNat o0), (3, 0)]) (st' := [(0, 5), (2, Int.ofNat (o0 + 2)), (0, 5), (2, Int.ofNat (o0 + 2))]) rfl ?_
    refine jEv.ald (Or.inl ⟨rfl, rfl, rfl⟩) (show jfI 332 13 (.iaload) 1 [] = true by decide +kernel) (isX12_a9 ho0) H (fun c2 H => ?_)
    refine jEv.blk [(.iconst 1, 1, []), (.iadd, 1, [])] (by decide +kernel) (pc' := 16) (ls' := [(2, Int.ofNat o0), (3, 0)]) (st' := [(0, (wr ((h (o0 + 2) (5 : Int).toNat) + 1))), (0, 5), (2, Int.ofNat (o0 + 2))]) rfl ?_
    refine jEv.ast (Or.inl ⟨rfl, rfl, rfl⟩) (show jfI 332 16 (.iastore) 1 [] = true by decide +kernel) (isX12_a9 ho0) rfl H (fun c3 H => ?_)
    refine jEv.blk [(.iconst 0, 1, [])] (by decide +kernel) (pc' := 18) (ls' := [(2, Int.ofNat o0), (3, 0)]) (st' := [(0, 0)]) rfl ?_
    exact jEv.retZ (show jfI 332 18 (.ireturn) 1 [] = true by decide +kernel) (by decide +kernel) (by decide) (by cases H; exact HY)
  · refine jEv.blk [(.iconst 0, 1, []), (.istore_n 1, 1, [])] (by decide +kernel) (pc' := 21) (ls' := [(2, Int.ofNat o0), (0, 0)]) (st' := []) rfl ?_
    exact t_M_undo_L21 (T := T) (xs := xs) (y := y) hd ho0 H HY
def yk_M_keeps_L15 (T : jT) (xs : List Int) (d : Nat) (y : jV × jS)  (o0 : Nat) : ((Int × jH) ⊕ jH) → Prop
  | .inl (v1, h) => jEv xs d (334, 15, [(2, Int.ofNat o0), (0, v1)], []) (T, h) y
  | .inr o => ykV T y o
set_option maxRecDepth 20000 in
noncomputable def M_keeps_B15  (h : jH) (o0 : Nat) (v1 : Int) : Option ((Int × jH) ⊕ jH) := (if v1 < 2365 then (if (0 : Int) ≤ v1 ∧ (v1 : Int).toNat < 2365 then (if (0 : Int) ≤ (wr ((wr (2365 * (h o0 74))) + v1)) ∧ ((wr ((wr (2365 * (h o0 74))) + v1)) : Int).toNat < 47300 then some (.inl ((wr (v1 + 1)), (jup h (o0 + 42) ((wr ((wr (2365 * (h o0 74))) + v1)) : Int).toNat (h (o0 + 33) (v1 : Int).toNat)))) else none) else none) else Option.map Sum.inr ((if (h o0 73) < 20 then some (jup h o0 73 (wr ((h o0 73) + 1))) else some h)))
noncomputable def M_keeps_L15  (h : jH) (o0 : Nat) (v1 : Int) : Option jH := jloop (fun s : (Int × jH) => M_keeps_B15 s.2 o0 s.1) (v1, h)
set_option maxRecDepth 20000 in
theorem t_M_keeps_B15 {T : jT} {xs : List Int} {d : Nat} {y : jV × jS} (hd : 0 ≤ d) {h : jH}  {o0 : Nat} {v1 : Int} {out : ((Int × jH) ⊕ jH)} (ho0 : isX12 T o0) (H : M_keeps_B15 h o0 v1 = some out) (HY : yk_M_keeps_L15 T xs d y o0 out) : jEv xs d (334, 15, [(2, Int.ofNat o0), (0, v1)], []) (T, h) y := by
  unfold M_keeps_B15 at H
  refine jEv.blk [(.iload_n 1, 1, []), (.sipush 2365, 3, [])] (by decide +kernel) (pc' := 19) (ls' := [(2, Int.ofNat o0), (0, v1)]) (st' := [(0, 2365), (0, v1)]) rfl ?_
  refine jEv.ic_ge (t := 49) (show jfI 334 19 (.if_icmp .ge 30) 3 [] = true by decide +kernel) rfl H (fun c1 H => ?_) (fun c1 H => ?_)
  · refine jEv.blk [(.aload_n 0, 1, [])] (by decide +kernel) (pc' := 23) (ls' := [(2, Int.ofNat o0), (0, v1)]) (st' := [(2, Int.ofNat o0)]) rfl ?_
    refine jEv.gfR (o' := (o0 + 42)) (show jfI 334 23 (.getfield 143) 3 [12, 72, 5, 0, 7108] = true by decide +kernel) (isX12_L ho0) (by decide) (isX12_r72 ho0) ?_
    refine jEv.blk [(.sipush 2365, 3, []), (.aload_n 0, 1, [])] (by decide +kernel) (pc' := 30) (ls' := [(2, Int.ofNat o0), (0, v1)]) (st' := [(2, Int.ofNat o0), (0, 2365), (2, Int.ofNat (o0 + 42))]) rfl ?_
    refine jEv.gfI (show jfI 334 30 (.getfield 634) 3 [12, 74, 0, 0, 7110] = true by decide +kernel) (isX12_L ho0) (by decide) ?_
    refine jEv.blk [(.imul, 1, []), (.iload_n 1, 1, []), (.iadd, 1, []), (.aload_n 0, 1, [])] (by decide +kernel) (pc' := 37) (ls' := [(2, Int.ofNat o0), (0, v1)]) (st' := [(2, Int.ofNat o0), (0, (wr ((wr (2365 * (h o0 74))) + v1))), (2, Int.ofNat (o0 + 42))]) rfl ?_
    refine jEv.gfR (o' := (o0 + 33)) (show jfI 334 37 (.getfield 111) 3 [12, 45, 5, 0, 7081] = true by decide +kernel) (isX12_L ho0) (by decide) (isX12_r45 ho0) ?_
    refine jEv.blk [(.iload_n 1, 1, [])] (by decide +kernel) (pc' := 41) (ls' := [(2, Int.ofNat o0), (0, v1)]) (st' := [(0, v1), (2, Int.ofNat (o0 + 33)), (0, (wr ((wr (2365 * (h o0 74))) + v1))), (2, Int.ofNat (o0 + 42))]) rfl ?_
    refine jEv.ald (Or.inl ⟨rfl, rfl, rfl⟩) (show jfI 334 41 (.iaload) 1 [] = true by decide +kernel) (isX12_a45 ho0) H (fun c2 H => ?_)
    refine jEv.ast (Or.inl ⟨rfl, rfl, rfl⟩) (show jfI 334 42 (.iastore) 1 [] = true by decide +kernel) (isX12_a72 ho0) rfl H (fun c3 H => ?_)
    refine jEv.blk [(.iinc 1 1, 3, [])] (by decide +kernel) (pc' := 46) (ls' := [(2, Int.ofNat o0), (0, (wr (v1 + 1)))]) (st' := []) rfl ?_
    refine jEv.goto (t := 15) (show jfI 334 46 (.goto (-31)) 3 [] = true by decide +kernel) rfl ?_
    exact (by cases H; exact HY)
  · refine jmapr H HY (fun out H (HY : ykV T y out) => ?_)
    refine jEv.blk [(.aload_n 0, 1, [])] (by decide +kernel) (pc' := 50) (ls' := [(2, Int.ofNat o0), (0, v1)]) (st' := [(2, Int.ofNat o0)]) rfl ?_
    refine jEv.gfI (show jfI 334 50 (.getfield 347) 3 [12, 73, 0, 0, 7109] = true by decide +kernel) (isX12_L ho0) (by decide) ?_
    refine jEv.blk [(.bipush 20, 2, [])] (by decide +kernel) (pc' := 55) (ls' := [(2, Int.ofNat o0), (0, v1)]) (st' := [(0, 20), (0, (h o0 73))]) rfl ?_
    refine jEv.ic_ge (t := 68) (show jfI 334 55 (.if_icmp .ge 13) 3 [] = true by decide +kernel) rfl H (fun c4 H => ?_) (fun c4 H => ?_)
    · refine jEv.blk [(.aload_n 0, 1, []), (.dup, 1, [])] (by decide +kernel) (pc' := 60) (ls' := [(2, Int.ofNat o0), (0, v1)]) (st' := [(2, Int.ofNat o0), (2, Int.ofNat o0)]) rfl ?_
      refine jEv.gfI (show jfI 334 60 (.getfield 347) 3 [12, 73, 0, 0, 7109] = true by decide +kernel) (isX12_L ho0) (by decide) ?_
      refine jEv.blk [(.iconst 1, 1, []), (.iadd, 1, [])] (by decide +kernel) (pc' := 65) (ls' := [(2, Int.ofNat o0), (0, v1)]) (st' := [(0, (wr ((h o0 73) + 1))), (2, Int.ofNat o0)]) rfl ?_
      refine jEv.pfI (show jfI 334 65 (.putfield 347) 3 [12, 73, 0, 0, 7109] = true by decide +kernel) (isX12_L ho0) (by decide) ?_
      exact jEv.retV (show jfI 334 68 (.return_) 1 [] = true by decide +kernel) (by decide +kernel) (by cases H; exact HY)
    · exact jEv.retV (show jfI 334 68 (.return_) 1 [] = true by decide +kernel) (by decide +kernel) (by cases H; exact HY)
theorem t_M_keeps_L15 {T : jT} {xs : List Int} {d : Nat} {y : jV × jS} (hd : 0 ≤ d) {h : jH}  {o0 : Nat} {v1 : Int} {out : jH} (ho0 : isX12 T o0) (H : M_keeps_L15 h o0 v1 = some out) (HY : ykV T y out) : jEv xs d (334, 15, [(2, Int.ofNat o0), (0, v1)], []) (T, h) y :=
  jloop_sound (G := fun s : (Int × jH) => jEv xs d (334, 15, [(2, Int.ofNat o0), (0, s.1)], []) (T, s.2) y) (K := yk_M_keeps_L15 T xs d y o0) (fun s out H HY => t_M_keeps_B15 hd ho0 H HY) (fun s' hg => hg) (s := (v1, h)) H HY
set_option maxRecDepth 20000 in
noncomputable def M_keeps  (h : jH) (o0 : Nat) : Option jH := M_keeps_L15 (jup h o0 74 (Int.tmod (wr ((h o0 74) + 1)) 20)) o0 0
set_option maxRecDepth 20000 in
theorem t_M_keeps {T : jT} {xs : List Int} {h : jH}  {o0 : Nat} {out : jH} (ho0 : isX12 T o0) (H : M_keeps h o0 = some out) : jEm xs 1 334 [(2, Int.ofNat o0)] (T, h) ((3, 0), (T, out)) := by
  have hd : 0 ≤ 0 := Nat.le_refl _
  obtain ⟨y, ey⟩ : ∃ y : jV × jS, y = ((3, 0), (T, out)) := ⟨_, rfl⟩
  rw [← ey]
  have HY : ykV T y out := ey
  refine jEm.ent (n := 2) (by decide +kernel) (Nat.le_of_ble_eq_true rfl) ?_
  show jEv xs 0 (334, 0, [(2, Int.ofNat o0), (3, 0)], []) (T, h) y
  unfold M_keeps at H
  refine jEv.blk [(.aload_n 0, 1, []), (.aload_n 0, 1, [])] (by decide +kernel) (pc' := 2) (ls' := [(2, Int.ofNat o0), (3, 0)]) (st' := [(2, Int.ofNat o0), (2, Int.ofNat o0)]) rfl ?_
  refine jEv.gfI (show jfI 334 2 (.getfield 634) 3 [12, 74, 0, 0, 7110] = true by decide +kernel) (isX12_L ho0) (by decide) ?_
  refine jEv.blk [(.iconst 1, 1, []), (.iadd, 1, []), (.bipush 20, 2, [])] (by decide +kernel) (pc' := 9) (ls' := [(2, Int.ofNat o0), (3, 0)]) (st' := [(0, 20), (0, (wr ((h o0 74) + 1))), (2, Int.ofNat o0)]) rfl ?_
  refine jEv.irem (show jfI 334 9 (.irem) 1 [] = true by decide +kernel) (by decide) ?_
  refine jEv.pfI (show jfI 334 10 (.putfield 634) 3 [12, 74, 0, 0, 7110] = true by decide +kernel) (isX12_L ho0) (by decide) ?_
  refine jEv.blk [(.iconst 0, 1, []), (.istore_n 1, 1, [])] (by decide +kernel) (pc' := 15) (ls' := [(2, Int.ofNat o0), (0, 0)]) (st' := []) rfl ?_
  exact t_M_keeps_L15 (T := T) (xs := xs) (y := y) hd ho0 H HY
set_option maxRecDepth 20000 in
noncomputable def M_append_p51  (h : jH) (o0 : Nat) : Option (Int × jH) := Option.bind (M_refuses h o0 2) (fun b13 => some (b13.1, b13.2))
set_option maxRecDepth 20000 in
theorem t_M_append_p51 {T : jT} {xs : List Int} {d : Nat} {y : jV × jS} (hd : 3 ≤ d) {h : jH}  {o0 : Nat} {out : (Int × jH)} (ho0 : isX12 T o0) (H : M_append_p51 h o0 = some out) (HY : ykI T y out) : jEv xs d (333, 51, [(2, Int.ofNat o0), (3, 0), (3, 0), (3, 0)], []) (T, h) y := by
  unfold M_append_p51 at H
  refine jEv.blk [(.aload_n 0, 1, []), (.iconst 2, 1, [])] (by decide +kernel) (pc' := 53) (ls' := [(2, Int.ofNat o0), (3, 0), (3, 0), (3, 0)]) (st' := [(0, 2), (2, Int.ofNat o0)]) rfl ?_
  refine jbind H (fun b13 Hb13 H => ?_)
  refine jEv.calV (st' := [(0, b13.1)]) (show jfI 333 53 (.invokevirtual 333) 3 [1, 239, 1, 9038] = true by decide +kernel) rfl (Or.inl rfl) rfl (Nat.le_of_ble_eq_true rfl) (by decide +kernel) (by decide) (isX12_L ho0) ((t_M_refuses (T := T) (xs := xs) ho0 Hb13).mono (jKle 1 hd)) rfl ?_
  exact jEv.retI (show jfI 333 56 (.ireturn) 1 [] = true by decide +kernel) (by decide +kernel) (by cases H; exact HY)
set_option maxRecDepth 20000 in
noncomputable def M_append  (h : jH) (o0 : Nat) (v1 : Int) (v2 : Int) (v3 : Int) : Option (Int × jH) := (if (h o0 43) = 0 then M_append_p51 h o0 else Option.bind (M_isIn v1 0 15) (fun b2 => (if b2 = 0 then M_append_p51 h o0 else Option.bind (M_isIn v2 0 999) (fun b4 => (if b4 = 0 then M_append_p51 h o0 else Option.bind (M_isIn v3 0 40) (fun b6 => (if b6 = 0 then M_append_p51 h o0 else Option.bind (M_canAppend h o0 v3) (fun b8 => (if b8 = 0 then M_append_p51 h o0 else Option.bind (M_keeps h o0) (fun b10 => Option.bind (M_appends b10 o0 v1 v2 v3) (fun b11 => (if (0 : Int) ≤ 1 ∧ (1 : Int).toNat < 2365 then some ((wr ((b11 (o0 + 33) (1 : Int).toNat) - 1)), b11) else none))))))))))))
set_option maxRecDepth 20000 in
theorem t_M_append {T : jT} {xs : List Int} {h : jH}  {o0 : Nat} {v1 : Int} {v2 : Int} {v3 : Int} {out : (Int × jH)} (ho0 : isX12 T o0) (H : M_append h o0 v1 v2 v3 = some out) : jEm xs 4 333 [(2, Int.ofNat o0), (0, v1), (0, v2), (0, v3)] (T, h) ((0, out.1), (T, out.2)) := by
  have hd : 3 ≤ 3 := Nat.le_refl _
  obtain ⟨y, ey⟩ : ∃ y : jV × jS, y = ((0, out.1), (T, out.2)) := ⟨_, rfl⟩
  rw [← ey]
  have HY : ykI T y out := ey
  refine jEm.ent (n := 4) (by decide +kernel) (Nat.le_of_ble_eq_true rfl) ?_
  show jEv xs 3 (333, 0, [(2, Int.ofNat o0), (0, v1), (0, v2), (0, v3)], []) (T, h) y
  unfold M_append at H
  refine jEv.blk [(.aload_n 0, 1, [])] (by decide +kernel) (pc' := 1) (ls' := [(2, Int.ofNat o0), (0, v1), (0, v2), (0, v3)]) (st' := [(2, Int.ofNat o0)]) rfl ?_
  refine jEv.gfI (show jfI 333 1 (.getfield 340) 3 [12, 43, 0, 1, 7079] = true by decide +kernel) (isX12_L ho0) (by decide) ?_
  refine jEv.if_eq (t := 51) (show jfI 333 4 (.ifCond .eq 47) 3 [] = true by decide +kernel) rfl H (fun c1 H => ?_) (fun c1 H => ?_)
  · exact jEv.weak (a := [(2, Int.ofNat o0), (3, 0), (3, 0), (3, 0)]) (jles.c1 (jles.c0 (jles.c0 (jles.c0 jles.nl)))) (t_M_append_p51 (T := T) (xs := xs) (y := y) hd ho0 H HY)
  · refine jEv.blk [(.iload_n 1, 1, []), (.i2l, 1, []), (.lconst 0, 1, []), (.ldc2_w 578, 3, [1, 0, 15, 9178])] (by decide +kernel) (pc' := 13) (ls' := [(2, Int.ofNat o0), (0, v1), (0, v2), (0, v3)]) (st' := [(1, 15), (1, 0), (1, v1)]) rfl ?_
    refine jbind H (fun b2 Hb2 H => ?_)
    refine jEv.calS (st' := [(0, b2)]) (show jfI 333 13 (.invokestatic 275) 3 [3, 213, 3, 8176] = true by decide +kernel) rfl (Or.inl rfl) rfl (Nat.le_of_ble_eq_true rfl) ((t_M_isIn (T := T) (xs := xs)  Hb2).mono (jKle 1 hd)) rfl ?_
    refine jEv.if_eq (t := 51) (show jfI 333 16 (.ifCond .eq 35) 3 [] = true by decide +kernel) rfl H (fun c3 H => ?_) (fun c3 H => ?_)
    · exact jEv.weak (a := [(2, Int.ofNat o0), (3, 0), (3, 0), (3, 0)]) (jles.c1 (jles.c0 (jles.c0 (jles.c0 jles.nl)))) (t_M_append_p51 (T := T) (xs := xs) (y := y) hd ho0 H HY)
    · refine jEv.blk [(.iload_n 2, 1, []), (.i2l, 1, []), (.lconst 0, 1, []), (.ldc2_w 637, 3, [1, 0, 999, 10187])] (by decide +kernel) (pc' := 25) (ls' := [(2, Int.ofNat o0), (0, v1), (0, v2), (0, v3)]) (st' := [(1, 999), (1, 0), (1, v2)]) rfl ?_
      refine jbind H (fun b4 Hb4 H => ?_)
      refine jEv.calS (st' := [(0, b4)]) (show jfI 333 25 (.invokestatic 275) 3 [3, 213, 3, 8176] = true by decide +kernel) rfl (Or.inl rfl) rfl (Nat.le_of_ble_eq_true rfl) ((t_M_isIn (T := T) (xs := xs)  Hb4).mono (jKle 1 hd)) rfl ?_
      refine jEv.if_eq (t := 51) (show jfI 333 28 (.ifCond .eq 23) 3 [] = true by decide +kernel) rfl H (fun c5 H => ?_) (fun c5 H => ?_)
      · exact jEv.weak (a := [(2, Int.ofNat o0), (3, 0), (3, 0), (3, 0)]) (jles.c1 (jles.c0 (jles.c0 (jles.c0 jles.nl)))) (t_M_append_p51 (T := T) (xs := xs) (y := y) hd ho0 H HY)
      · refine jEv.blk [(.iload_n 3, 1, []), (.i2l, 1, []), (.lconst 0, 1, []), (.ldc2_w 608, 3, [1, 0, 40, 10101])] (by decide +kernel) (pc' := 37) (ls' := [(2, Int.ofNat o0), (0, v1), (0, v2), (0, v3)]) (st' := [(1, 40), (1, 0), (1, v3)]) rfl ?_
        refine jbind H (fun b6 Hb6 H => ?_)
        refine jEv.calS (st' := [(0, b6)]) (show jfI 333 37 (.invokestatic 275) 3 [3, 213, 3, 8176] = true by decide +kernel) rfl (Or.inl rfl) rfl (Nat.le_of_ble_eq_true rfl) ((t_M_isIn (T := T) (xs := xs)  Hb6).mono (jKle 1 hd)) rfl ?_
        refine jEv.if_eq (t := 51) (show jfI 333 40 (.ifCond .eq 11) 3 [] = true by decide +kernel) rfl H (fun c7 H => ?_) (fun c7 H => ?_)
        · exact jEv.weak (a := [(2, Int.ofNat o0), (3, 0), (3, 0), (3, 0)]) (jles.c1 (jles.c0 (jles.c0 (jles.c0 jles.nl)))) (t_M_append_p51 (T := T) (xs := xs) (y := y) hd ho0 H HY)
        · refine jEv.blk [(.aload_n 0, 1, []), (.iload_n 3, 1, [])] (by decide +kernel) (pc' := 45) (ls' := [(2, Int.ofNat o0), (0, v1), (0, v2), (0, v3)]) (st' := [(0, v3), (2, Int.ofNat o0)]) rfl ?_
          refine jbind H (fun b8 Hb8 H => ?_)
          refine jEv.calV (st' := [(0, b8)]) (show jfI 333 45 (.invokevirtual 353) 3 [1, 247, 1, 9068] = true by decide +kernel) rfl (Or.inl rfl) rfl (Nat.le_of_ble_eq_true rfl) (by decide +kernel) (by decide) (isX12_L ho0) ((t_M_canAppend (T := T) (xs := xs) ho0 Hb8).mono (jKle 3 hd)) rfl ?_
          refine jEv.if_ne (t := 57) (show jfI 333 48 (.ifCond .ne 9) 3 [] = true by decide +kernel) rfl H (fun c9 H => ?_) (fun c9 H => ?_)
          · exact jEv.weak (a := [(2, Int.ofNat o0), (3, 0), (3, 0), (3, 0)]) (jles.c1 (jles.c0 (jles.c0 (jles.c0 jles.nl)))) (t_M_append_p51 (T := T) (xs := xs) (y := y) hd ho0 H HY)
          · refine jEv.blk [(.aload_n 0, 1, [])] (by decide +kernel) (pc' := 58) (ls' := [(2, Int.ofNat o0), (0, v1), (0, v2), (0, v3)]) (st' := [(2, Int.ofNat o0)]) rfl ?_
            refine jbind H (fun b10 Hb10 H => ?_)
            refine jEv.calV (st' := []) (show jfI 333 58 (.invokevirtual 639) 3 [1, 334, 0, 10188] = true by decide +kernel) rfl (Or.inl rfl) rfl (Nat.le_of_ble_eq_true rfl) (by decide +kernel) (by decide) (isX12_L ho0) ((t_M_keeps (T := T) (xs := xs) ho0 Hb10).mono (jKle 1 hd)) rfl ?_
            refine jEv.blk [(.aload_n 0, 1, []), (.iload_n 1, 1, []), (.iload_n 2, 1, []), (.iload_n 3, 1, [])] (by decide +kernel) (pc' := 65) (ls' := [(2, Int.ofNat o0), (0, v1), (0, v2), (0, v3)]) (st' := [(0, v3), (0, v2), (0, v1), (2, Int.ofNat o0)]) rfl ?_
            refine jbind H (fun b11 Hb11 H => ?_)
            refine jEv.calV (st' := []) (show jfI 333 65 (.invokevirtual 356) 3 [1, 251, 3, 9084] = true by decide +kernel) rfl (Or.inl rfl) rfl (Nat.le_of_ble_eq_true rfl) (by decide +kernel) (by decide) (isX12_L ho0) ((t_M_appends (T := T) (xs := xs) ho0 Hb11).mono (jKle 1 hd)) rfl ?_
            refine jEv.blk [(.aload_n 0, 1, [])] (by decide +kernel) (pc' := 69) (ls' := [(2, Int.ofNat o0), (0, v1), (0, v2), (0, v3)]) (st' := [(2, Int.ofNat o0)]) rfl ?_
            refine jEv.gfR (o' := (o0 + 33)) (show jfI 333 69 (.getfield 111) 3 [12, 45, 5, 0, 7081] = true by decide +kernel) (isX12_L ho0) (by decide) (isX12_r45 ho0) ?_
            refine jEv.blk [(.iconst 1, 1, [])] (by decide +kernel) (pc' := 73) (ls' := [(2, Int.ofNat o0), (0, v1), (0, v2), (0, v3)]) (st' := [(0, 1), (2, Int.ofNat (o0 + 33))]) rfl ?_
            refine jEv.ald (Or.inl ⟨rfl, rfl, rfl⟩) (show jfI 333 73 (.iaload) 1 [] = true by decide +kernel) (isX12_a45 ho0) H (fun c12 H => ?_)
            refine jEv.blk [(.iconst 1, 1, []), (.isub, 1, [])] (by decide +kernel) (pc' := 76) (ls' := [(2, Int.ofNat o0), (0, v1), (0, v2), (0, v3)]) (st' := [(0, (wr ((b11 (o0 + 33) (1 : Int).toNat) - 1)))]) rfl ?_
            exact jEv.retI (show jfI 333 76 (.ireturn) 1 [] = true by decide +kernel) (by decide +kernel) (by cases H; exact HY)
set_option maxRecDepth 20000 in
noncomputable def M_isRefused  (h : jH) (o0 : Nat) (v1 : Int) : Option (Int × jH) := (if (0 : Int) ≤ v1 ∧ (v1 : Int).toNat < 7 then (if (0 : Int) ≤ v1 ∧ (v1 : Int).toNat < 7 then some (0, (jup h (o0 + 2) (v1 : Int).toNat (wr ((h (o0 + 2) (v1 : Int).toNat) + 1)))) else none) else none)
set_option maxRecDepth 20000 in
theorem t_M_isRefused {T : jT} {xs : List Int} {h : jH}  {o0 : Nat} {v1 : Int} {out : (Int × jH)} (ho0 : isX12 T o0) (H : M_isRefused h o0 v1 = some out) : jEm xs 1 336 [(2, Int.ofNat o0), (0, v1)] (T, h) ((0, out.1), (T, out.2)) := by
  have hd : 0 ≤ 0 := Nat.le_refl _
  obtain ⟨y, ey⟩ : ∃ y : jV × jS, y = ((0, out.1), (T, out.2)) := ⟨_, rfl⟩
  rw [← ey]
  have HY : ykI T y out := ey
  refine jEm.ent (n := 2) (by decide +kernel) (Nat.le_of_ble_eq_true rfl) ?_
  show jEv xs 0 (336, 0, [(2, Int.ofNat o0), (0, v1)], []) (T, h) y
  unfold M_isRefused at H
  refine jEv.blk [(.aload_n 0, 1, [])] (by decide +kernel) (pc' := 1) (ls' := [(2, Int.ofNat o0), (0, v1)]) (st' := [(2, Int.ofNat o0)]) rfl ?_
  refine jEv.gfR (o' := (o0 + 2)) (show jfI 336 1 (.getfield 17) 3 [12, 9, 5, 0, 7045] = true by decide +kernel) (isX12_L ho0) (by decide) (isX12_r9 ho0) ?_
  refine jEv.blk [(.iload_n 1, 1, []), (.dup2, 1, [])] (by decide +kernel) (pc' := 6) (ls' := [(2, Int.ofNat o0), (0, v1)]) (st' := [(0, v1), (2, Int.ofNat (o0 + 2)), (0, v1), (2, Int.ofNat (o0 + 2))]) rfl ?_
  refine jEv.ald (Or.inl ⟨rfl, rfl, rfl⟩) (show jfI 336 6 (.iaload) 1 [] = true by decide +kernel) (isX12_a9 ho0) H (fun c1 H => ?_)
  refine jEv.blk [(.iconst 1, 1, []), (.iadd, 1, [])] (by decide +kernel) (pc' := 9) (ls' := [(2, Int.ofNat o0), (0, v1)]) (st' := [(0, (wr ((h (o0 + 2) (v1 : Int).toNat) + 1))), (0, v1), (2, Int.ofNat (o0 + 2))]) rfl ?_
  refine jEv.ast (Or.inl ⟨rfl, rfl, rfl⟩) (show jfI 336 9 (.iastore) 1 [] = true by decide +kernel) (isX12_a9 ho0) rfl H (fun c2 H => ?_)
  refine jEv.blk [(.iconst 0, 1, [])] (by decide +kernel) (pc' := 11) (ls' := [(2, Int.ofNat o0), (0, v1)]) (st' := [(0, 0)]) rfl ?_
  exact jEv.retZ (show jfI 336 11 (.ireturn) 1 [] = true by decide +kernel) (by decide +kernel) (by decide) (by cases H; exact HY)
set_option maxRecDepth 20000 in
noncomputable def M_waits_p57  (h : jH) (o0 : Nat) : Option (Int × jH) := Option.bind (M_isRefused h o0 2) (fun b16 => (if b16.1 = 0 ∨ b16.1 = 1 then some (b16.1, b16.2) else none))
set_option maxRecDepth 20000 in
theorem t_M_waits_p57 {T : jT} {xs : List Int} {d : Nat} {y : jV × jS} (hd : 1 ≤ d) {h : jH}  {o0 : Nat} {out : (Int × jH)} (ho0 : isX12 T o0) (H : M_waits_p57 h o0 = some out) (HY : ykI T y out) : jEv xs d (335, 57, [(2, Int.ofNat o0), (3, 0), (3, 0)], []) (T, h) y := by
  unfold M_waits_p57 at H
  refine jEv.blk [(.aload_n 0, 1, []), (.iconst 2, 1, [])] (by decide +kernel) (pc' := 59) (ls' := [(2, Int.ofNat o0), (3, 0), (3, 0)]) (st' := [(0, 2), (2, Int.ofNat o0)]) rfl ?_
  refine jbind H (fun b16 Hb16 H => ?_)
  refine jEv.calV (st' := [(0, b16.1)]) (show jfI 335 59 (.invokevirtual 642) 3 [1, 336, 1, 10196] = true by decide +kernel) rfl (Or.inl rfl) rfl (Nat.le_of_ble_eq_true rfl) (by decide +kernel) (by decide) (isX12_L ho0) ((t_M_isRefused (T := T) (xs := xs) ho0 Hb16).mono (jKle 1 hd)) rfl ?_
  refine jchk H (fun c17 H => ?_)
  exact jEv.retZ (show jfI 335 62 (.ireturn) 1 [] = true by decide +kernel) (by decide +kernel) c17 (by cases H; exact HY)
set_option maxRecDepth 20000 in
noncomputable def M_waits  (h : jH) (o0 : Nat) (v1 : Int) (v2 : Int) : Option (Int × jH) := (if (h o0 43) = 0 then M_waits_p57 h o0 else Option.bind (M_isIn v1 0 7) (fun b2 => (if b2 = 0 then M_waits_p57 h o0 else (if (0 : Int) ≤ (wr (184 + v1)) ∧ ((wr (184 + v1)) : Int).toNat < 2365 then (if (h (o0 + 33) ((wr (184 + v1)) : Int).toNat) = (-1) then (if (0 : Int) ≤ 2 ∧ (2 : Int).toNat < 2365 then (if (0 : Int) ≤ 1 ∧ (1 : Int).toNat < 2365 then Option.bind (M_isIn v2 (h (o0 + 33) (2 : Int).toNat) (wr ((h (o0 + 33) (1 : Int).toNat) - 1))) (fun b8 => (if b8 = 0 then M_waits_p57 h o0 else Option.bind (M_keeps h o0) (fun b10 => (if (0 : Int) ≤ (wr (184 + v1)) ∧ ((wr (184 + v1)) : Int).toNat < 2365 then (if (0 : Int) ≤ 12 ∧ (12 : Int).toNat < 2365 then (if (0 : Int) ≤ (wr (176 + ((jup b10 (o0 + 33) ((wr (184 + v1)) : Int).toNat v2) (o0 + 33) (12 : Int).toNat))) ∧ ((wr (176 + ((jup b10 (o0 + 33) ((wr (184 + v1)) : Int).toNat v2) (o0 + 33) (12 : Int).toNat))) : Int).toNat < 2365 then (if (0 : Int) ≤ 12 ∧ (12 : Int).toNat < 2365 then (if (0 : Int) ≤ 12 ∧ (12 : Int).toNat < 2365 then some (1, (jup (jup (jup b10 (o0 + 33) ((wr (184 + v1)) : Int).toNat v2) (o0 + 33) ((wr (176 + ((jup b10 (o0 + 33) ((wr (184 + v1)) : Int).toNat v2) (o0 + 33) (12 : Int).toNat))) : Int).toNat v1) (o0 + 33) (12 : Int).toNat (wr (((jup (jup b10 (o0 + 33) ((wr (184 + v1)) : Int).toNat v2) (o0 + 33) ((wr (176 + ((jup b10 (o0 + 33) ((wr (184 + v1)) : Int).toNat v2) (o0 + 33) (12 : Int).toNat))) : Int).toNat v1) (o0 + 33) (12 : Int).toNat) + 1)))) else none) else none) else none) else none) else none)))) else none) else none) else M_waits_p57 h o0) else none))))
set_option maxRecDepth 20000 in
theorem t_M_waits {T : jT} {xs : List Int} {h : jH}  {o0 : Nat} {v1 : Int} {v2 : Int} {out : (Int × jH)} (ho0 : isX12 T o0) (H : M_waits h o0 v1 v2 = some out) : jEm xs 2 335 [(2, Int.ofNat o0), (0, v1), (0, v2)] (T, h) ((0, out.1), (T, out.2)) := by
  have hd : 1 ≤ 1 := Nat.le_refl _
  obtain ⟨y, ey⟩ : ∃ y : jV × jS, y = ((0, out.1), (T, out.2)) := ⟨_, rfl⟩
  rw [← ey]
  have HY : ykI T y out := ey
  refine jEm.ent (n := 3) (by decide +kernel) (Nat.le_of_ble_eq_true rfl) ?_
  show jEv xs 1 (335, 0, [(2, Int.ofNat o0), (0, v1), (0, v2)], []) (T, h) y
  unfold M_waits at H
  refine jEv.blk [(.aload_n 0, 1, [])] (by decide +kernel) (pc' := 1) (ls' := [(2, Int.ofNat o0), (0, v1), (0, v2)]) (st' := [(2, Int.ofNat o0)]) rfl ?_
  refine jEv.gfI (show jfI 335 1 (.getfield 340) 3 [12, 43, 0, 1, 7079] = true by decide +kernel) (isX12_L ho0) (by decide) ?_
  refine jEv.if_eq (t := 57) (show jfI 335 4 (.ifCond .eq 53) 3 [] = true by decide +kernel) rfl H (fun c1 H => ?_) (fun c1 H => ?_)
  · exact jEv.weak (a := [(2, Int.ofNat o0), (3, 0), (3, 0)]) (jles.c1 (jles.c0 (jles.c0 jles.nl))) (t_M_waits_p57 (T := T) (xs := xs) (y := y) hd ho0 H HY)
  · refine jEv.blk [(.iload_n 1, 1, []), (.i2l, 1, []), (.lconst 0, 1, []), (.ldc2_w 585, 3, [1, 0, 7, 9197])] (by decide +kernel) (pc' := 13) (ls' := [(2, Int.ofNat o0), (0, v1), (0, v2)]) (st' := [(1, 7), (1, 0), (1, v1)]) rfl ?_
    refine jbind H (fun b2 Hb2 H => ?_)
    refine jEv.calS (st' := [(0, b2)]) (show jfI 335 13 (.invokestatic 275) 3 [3, 213, 3, 8176] = true by decide +kernel) rfl (Or.inl rfl) rfl (Nat.le_of_ble_eq_true rfl) ((t_M_isIn (T := T) (xs := xs)  Hb2).mono (jKle 1 hd)) rfl ?_
    refine jEv.if_eq (t := 57) (show jfI 335 16 (.ifCond .eq 41) 3 [] = true by decide +kernel) rfl H (fun c3 H => ?_) (fun c3 H => ?_)
    · exact jEv.weak (a := [(2, Int.ofNat o0), (3, 0), (3, 0)]) (jles.c1 (jles.c0 (jles.c0 jles.nl))) (t_M_waits_p57 (T := T) (xs := xs) (y := y) hd ho0 H HY)
    · refine jEv.blk [(.aload_n 0, 1, [])] (by decide +kernel) (pc' := 20) (ls' := [(2, Int.ofNat o0), (0, v1), (0, v2)]) (st' := [(2, Int.ofNat o0)]) rfl ?_
      refine jEv.gfR (o' := (o0 + 33)) (show jfI 335 20 (.getfield 111) 3 [12, 45, 5, 0, 7081] = true by decide +kernel) (isX12_L ho0) (by decide) (isX12_r45 ho0) ?_
      refine jEv.blk [(.sipush 184, 3, []), (.iload_n 1, 1, []), (.iadd, 1, [])] (by decide +kernel) (pc' := 28) (ls' := [(2, Int.ofNat o0), (0, v1), (0, v2)]) (st' := [(0, (wr (184 + v1))), (2, Int.ofNat (o0 + 33))]) rfl ?_
      refine jEv.ald (Or.inl ⟨rfl, rfl, rfl⟩) (show jfI 335 28 (.iaload) 1 [] = true by decide +kernel) (isX12_a45 ho0) H (fun c4 H => ?_)
      refine jEv.blk [(.iconst (-1), 1, [])] (by decide +kernel) (pc' := 30) (ls' := [(2, Int.ofNat o0), (0, v1), (0, v2)]) (st' := [(0, (-1)), (0, (h (o0 + 33) ((wr (184 + v1)) : Int).toNat))]) rfl ?_
      refine jEv.ic_ne (t := 57) (show jfI 335 30 (.if_icmp .ne 27) 3 [] = true by decide +kernel) rfl H (fun c5 H => ?_) (fun c5 H => ?_)
      · refine jEv.blk [(.iload_n 2, 1, []), (.i2l, 1, []), (.aload_n 0, 1, [])] (by decide +kernel) (pc' := 36) (ls' := [(2, Int.ofNat o0), (0, v1), (0, v2)]) (st' := [(2, Int.ofNat o0), (1, v2)]) rfl ?_
        refine jEv.gfR (o' := (o0 + 33)) (show jfI 335 36 (.getfield 111) 3 [12, 45, 5, 0, 7081] = true by decide +kernel) (isX12_L ho0) (by decide) (isX12_r45 ho0) ?_
        refine jEv.blk [(.iconst 2, 1, [])] (by decide +kernel) (pc' := 40) (ls' := [(2, Int.ofNat o0), (0, v1), (0, v2)]) (st' := [(0, 2), (2, Int.ofNat (o0 + 33)), (1, v2)]) rfl ?_
        refine jEv.ald (Or.inl ⟨rfl, rfl, rfl⟩) (show jfI 335 40 (.iaload) 1 [] = true by decide +kernel) (isX12_a45 ho0) H (fun c6 H => ?_)
        refine jEv.blk [(.i2l, 1, []), (.aload_n 0, 1, [])] (by decide +kernel) (pc' := 43) (ls' := [(2, Int.ofNat o0), (0, v1), (0, v2)]) (st' := [(2, Int.ofNat o0), (1, (h (o0 + 33) (2 : Int).toNat)), (1, v2)]) rfl ?_
        refine jEv.gfR (o' := (o0 + 33)) (show jfI 335 43 (.getfield 111) 3 [12, 45, 5, 0, 7081] = true by decide +kernel) (isX12_L ho0) (by decide) (isX12_r45 ho0) ?_
        refine jEv.blk [(.iconst 1, 1, [])] (by decide +kernel) (pc' := 47) (ls' := [(2, Int.ofNat o0), (0, v1), (0, v2)]) (st' := [(0, 1), (2, Int.ofNat (o0 + 33)), (1, (h (o0 + 33) (2 : Int).toNat)), (1, v2)]) rfl ?_
        refine jEv.ald (Or.inl ⟨rfl, rfl, rfl⟩) (show jfI 335 47 (.iaload) 1 [] = true by decide +kernel) (isX12_a45 ho0) H (fun c7 H => ?_)
        refine jEv.blk [(.iconst 1, 1, []), (.isub, 1, []), (.i2l, 1, [])] (by decide +kernel) (pc' := 51) (ls' := [(2, Int.ofNat o0), (0, v1), (0, v2)]) (st' := [(1, (wr ((h (o0 + 33) (1 : Int).toNat) - 1))), (1, (h (o0 + 33) (2 : Int).toNat)), (1, v2)]) rfl ?_
        refine jbind H (fun b8 Hb8 H => ?_)
        refine jEv.calS (st' := [(0, b8)]) (show jfI 335 51 (.invokestatic 275) 3 [3, 213, 3, 8176] = true by decide +kernel) rfl (Or.inl rfl) rfl (Nat.le_of_ble_eq_true rfl) ((t_M_isIn (T := T) (xs := xs)  Hb8).mono (jKle 1 hd)) rfl ?_
        refine jEv.if_ne (t := 63) (show jfI 335 54 (.ifCond .ne 9) 3 [] = true by decide +kernel) rfl H (fun c9 H => ?_) (fun c9 H => ?_)
        · exact jEv.weak (a := [(2, Int.ofNat o0), (3, 0), (3, 0)]) (jles.c1 (jles.c0 (jles.c0 jles.nl))) (t_M_waits_p57 (T := T) (xs := xs) (y := y) hd ho0 H HY)
        · refine jEv.blk [(.aload_n 0, 1, [])] (by decide +kernel) (pc' := 64) (ls' := [(2, Int.ofNat o0), (0, v1), (0, v2)]) (st' := [(2, Int.ofNat o0)]) rfl ?_
          refine jbind H (fun b10 Hb10 H => ?_)
          refine jEv.calV (st' := []) (show jfI 335 64 (.invokevirtual 639) 3 [1, 334, 0, 10188] = true by decide +kernel) rfl (Or.inl rfl) rfl (Nat.le_of_ble_eq_true rfl) (by decide +kernel) (by decide) (isX12_L ho0) ((t_M_keeps (T := T) (xs := xs) ho0 Hb10).mono (jKle 1 hd)) rfl ?_
          refine jEv.blk [(.aload_n 0, 1, [])] (by decide +kernel) (pc' := 68) (ls' := [(2, Int.ofNat o0), (0, v1), (0, v2)]) (st' := [(2, Int.ofNat o0)]) rfl ?_
          refine jEv.gfR (o' := (o0 + 33)) (show jfI 335 68 (.getfield 111) 3 [12, 45, 5, 0, 7081] = true by decide +kernel) (isX12_L ho0) (by decide) (isX12_r45 ho0) ?_
          refine jEv.blk [(.sipush 184, 3, []), (.iload_n 1, 1, []), (.iadd, 1, []), (.iload_n 2, 1, [])] (by decide +kernel) (pc' := 77) (ls' := [(2, Int.ofNat o0), (0, v1), (0, v2)]) (st' := [(0, v2), (0, (wr (184 + v1))), (2, Int.ofNat (o0 + 33))]) rfl ?_
          refine jEv.ast (Or.inl ⟨rfl, rfl, rfl⟩) (show jfI 335 77 (.iastore) 1 [] = true by decide +kernel) (isX12_a45 ho0) rfl H (fun c11 H => ?_)
          refine jEv.blk [(.aload_n 0, 1, [])] (by decide +kernel) (pc' := 79) (ls' := [(2, Int.ofNat o0), (0, v1), (0, v2)]) (st' := [(2, Int.ofNat o0)]) rfl ?_
          refine jEv.gfR (o' := (o0 + 33)) (show jfI 335 79 (.getfield 111) 3 [12, 45, 5, 0, 7081] = true by decide +kernel) (isX12_L ho0) (by decide) (isX12_r45 ho0) ?_
          refine jEv.blk [(.sipush 176, 3, []), (.aload_n 0, 1, [])] (by decide +kernel) (pc' := 86) (ls' := [(2, Int.ofNat o0), (0, v1), (0, v2)]) (st' := [(2, Int.ofNat o0), (0, 176), (2, Int.ofNat (o0 + 33))]) rfl ?_
          refine jEv.gfR (o' := (o0 + 33)) (show jfI 335 86 (.getfield 111) 3 [12, 45, 5, 0, 7081] = true by decide +kernel) (isX12_L ho0) (by decide) (isX12_r45 ho0) ?_
          refine jEv.blk [(.bipush 12, 2, [])] (by decide +kernel) (pc' := 91) (ls' := [(2, Int.ofNat o0), (0, v1), (0, v2)]) (st' := [(0, 12), (2, Int.ofNat (o0 + 33)), (0, 176), (2, Int.ofNat (o0 + 33))]) rfl ?_
          refine jEv.ald (Or.inl ⟨rfl, rfl, rfl⟩) (show jfI 335 91 (.iaload) 1 [] = true by decide +kernel) (isX12_a45 ho0) H (fun c12 H => ?_)
          refine jEv.blk [(.iadd, 1, []), (.iload_n 1, 1, [])] (by decide +kernel) (pc' := 94) (ls' := [(2, Int.ofNat o0), (0, v1), (0, v2)]) (st' := [(0, v1), (0, (wr (176 + ((jup b10 (o0 + 33) ((wr (184 + v1)) : Int).toNat v2) (o0 + 33) (12 : Int).toNat)))), (2, Int.ofNat (o0 + 33))]) rfl ?_
          refine jEv.ast (Or.inl ⟨rfl, rfl, rfl⟩) (show jfI 335 94 (.iastore) 1 [] = true by decide +kernel) (isX12_a45 ho0) rfl H (fun c13 H => ?_)
          refine jEv.blk [(.aload_n 0, 1, [])] (by decide +kernel) (pc' := 96) (ls' := [(2, Int.ofNat o0), (0, v1), (0, v2)]) (st' := [(2, Int.ofNat o0)]) rfl ?_
          refine jEv.gfR (o' := (o0 + 33)) (show jfI 335 96 (.getfield 111) 3 [12, 45, 5, 0, 7081] = true by decide +kernel) (isX12_L ho0) (by decide) (isX12_r45 ho0) ?_
          refine jEv.blk [(.bipush 12, 2, []), (.dup2, 1, [])] (by decide +kernel) (pc' := 102) (ls' := [(2, Int.ofNat o0), (0, v1), (0, v2)]) (st' := [(0, 12), (2, Int.ofNat (o0 + 33)), (0, 12), (2, Int.ofNat (o0 + 33))]) rfl ?_
          refine jEv.ald (Or.inl ⟨rfl, rfl, rfl⟩) (show jfI 335 102 (.iaload) 1 [] = true by decide +kernel) (isX12_a45 ho0) H (fun c14 H => ?_)
          refine jEv.blk [(.iconst 1, 1, []), (.iadd, 1, [])] (by decide +kernel) (pc' := 105) (ls' := [(2, Int.ofNat o0), (0, v1), (0, v2)]) (st' := [(0, (wr (((jup (jup b10 (o0 + 33) ((wr (184 + v1)) : Int).toNat v2) (o0 + 33) ((wr (176 + ((jup b10 (o0 + 33) ((wr (184 + v1)) : Int).toNat v2) (o0 + 33) (12 : Int).toNat))) : Int).toNat v1) (o0 + 33) (12 : Int).toNat) + 1))), (0, 12), (2, Int.ofNat (o0 + 33))]) rfl ?_
          refine jEv.ast (Or.inl ⟨rfl, rfl, rfl⟩) (show jfI 335 105 (.iastore) 1 [] = true by decide +kernel) (isX12_a45 ho0) rfl H (fun c15 H => ?_)
          refine jEv.blk [(.iconst 1, 1, [])] (by decide +kernel) (pc' := 107) (ls' := [(2, Int.ofNat o0), (0, v1), (0, v2)]) (st' := [(0, 1)]) rfl ?_
          exact jEv.retZ (show jfI 335 107 (.ireturn) 1 [] = true by decide +kernel) (by decide +kernel) (by decide) (by cases H; exact HY)
      · exact jEv.weak (a := [(2, Int.ofNat o0), (3, 0), (3, 0)]) (jles.c1 (jles.c0 (jles.c0 jles.nl))) (t_M_waits_p57 (T := T) (xs := xs) (y := y) hd ho0 H HY)
set_option maxRecDepth 20000 in
noncomputable def M_ticks  (h : jH) (o0 : Nat) (v1 : Int) : Option (Int × jH) := Option.bind (M_isAhead h o0 v1 1 100) (fun b1 => (if b1 = 0 then Option.bind (M_refuses h o0 3) (fun b3 => some (b3.1, b3.2)) else Option.bind (M_keeps h o0) (fun b4 => Option.bind (M_ticksGo b4 o0 v1) (fun b5 => some ((b5 o0 53), b5)))))
set_option maxRecDepth 20000 in
theorem t_M_ticks {T : jT} {xs : List Int} {h : jH}  {o0 : Nat} {v1 : Int} {out : (Int × jH)} (ho0 : isX12 T o0) (H : M_ticks h o0 v1 = some out) : jEm xs 12 337 [(2, Int.ofNat o0), (0, v1)] (T, h) ((0, out.1), (T, out.2)) := by
  have hd : 11 ≤ 11 := Nat.le_refl _
  obtain ⟨y, ey⟩ : ∃ y : jV × jS, y = ((0, out.1), (T, out.2)) := ⟨_, rfl⟩
  rw [← ey]
  have HY : ykI T y out := ey
  refine jEm.ent (n := 2) (by decide +kernel) (Nat.le_of_ble_eq_true rfl) ?_
  show jEv xs 11 (337, 0, [(2, Int.ofNat o0), (0, v1)], []) (T, h) y
  unfold M_ticks at H
  refine jEv.blk [(.aload_n 0, 1, []), (.iload_n 1, 1, []), (.iconst 1, 1, []), (.bipush 100, 2, [])] (by decide +kernel) (pc' := 5) (ls' := [(2, Int.ofNat o0), (0, v1)]) (st' := [(0, 100), (0, 1), (0, v1), (2, Int.ofNat o0)]) rfl ?_
  refine jbind H (fun b1 Hb1 H => ?_)
  refine jEv.calV (st' := [(0, b1)]) (show jfI 337 5 (.invokevirtual 587) 3 [1, 280, 3, 9206] = true by decide +kernel) rfl (Or.inl rfl) rfl (Nat.le_of_ble_eq_true rfl) (by decide +kernel) (by decide) (isX12_L ho0) ((t_M_isAhead (T := T) (xs := xs) ho0 Hb1).mono (jKle 2 hd)) rfl ?_
  refine jEv.if_ne (t := 17) (show jfI 337 8 (.ifCond .ne 9) 3 [] = true by decide +kernel) rfl H (fun c2 H => ?_) (fun c2 H => ?_)
  · refine jEv.blk [(.aload_n 0, 1, []), (.iconst 3, 1, [])] (by decide +kernel) (pc' := 13) (ls' := [(2, Int.ofNat o0), (0, v1)]) (st' := [(0, 3), (2, Int.ofNat o0)]) rfl ?_
    refine jbind H (fun b3 Hb3 H => ?_)
    refine jEv.calV (st' := [(0, b3.1)]) (show jfI 337 13 (.invokevirtual 333) 3 [1, 239, 1, 9038] = true by decide +kernel) rfl (Or.inl rfl) rfl (Nat.le_of_ble_eq_true rfl) (by decide +kernel) (by decide) (isX12_L ho0) ((t_M_refuses (T := T) (xs := xs) ho0 Hb3).mono (jKle 1 hd)) rfl ?_
    exact jEv.retI (show jfI 337 16 (.ireturn) 1 [] = true by decide +kernel) (by decide +kernel) (by cases H; exact HY)
  · refine jEv.blk [(.aload_n 0, 1, [])] (by decide +kernel) (pc' := 18) (ls' := [(2, Int.ofNat o0), (0, v1)]) (st' := [(2, Int.ofNat o0)]) rfl ?_
    refine jbind H (fun b4 Hb4 H => ?_)
    refine jEv.calV (st' := []) (show jfI 337 18 (.invokevirtual 639) 3 [1, 334, 0, 10188] = true by decide +kernel) rfl (Or.inl rfl) rfl (Nat.le_of_ble_eq_true rfl) (by decide +kernel) (by decide) (isX12_L ho0) ((t_M_keeps (T := T) (xs := xs) ho0 Hb4).mono (jKle 1 hd)) rfl ?_
    refine jEv.blk [(.aload_n 0, 1, []), (.iload_n 1, 1, [])] (by decide +kernel) (pc' := 23) (ls' := [(2, Int.ofNat o0), (0, v1)]) (st' := [(0, v1), (2, Int.ofNat o0)]) rfl ?_
    refine jbind H (fun b5 Hb5 H => ?_)
    refine jEv.calV (st' := []) (show jfI 337 23 (.invokevirtual 594) 3 [1, 282, 1, 9214] = true by decide +kernel) rfl (Or.inl rfl) rfl (Nat.le_of_ble_eq_true rfl) (by decide +kernel) (by decide) (isX12_L ho0) ((t_M_ticksGo (T := T) (xs := xs) ho0 Hb5).mono (jKle 11 hd)) rfl ?_
    refine jEv.blk [(.aload_n 0, 1, [])] (by decide +kernel) (pc' := 27) (ls' := [(2, Int.ofNat o0), (0, v1)]) (st' := [(2, Int.ofNat o0)]) rfl ?_
    refine jEv.gfI (show jfI 337 27 (.getfield 464) 3 [12, 53, 0, 0, 7089] = true by decide +kernel) (isX12_L ho0) (by decide) ?_
    exact jEv.retI (show jfI 337 30 (.ireturn) 1 [] = true by decide +kernel) (by decide +kernel) (by cases H; exact HY)
set_option maxRecDepth 20000 in
noncomputable def M_seed  (h : jH) (o0 : Nat) (v1 : Int) : Option (Int × jH) := (if v1 < 0 then Option.bind (M_isRefused h o0 6) (fun b2 => (if b2.1 = 0 ∨ b2.1 = 1 then some (b2.1, b2.2) else none)) else some (1, (jup h o0 75 v1)))
set_option maxRecDepth 20000 in
theorem t_M_seed {T : jT} {xs : List Int} {h : jH}  {o0 : Nat} {v1 : Int} {out : (Int × jH)} (ho0 : isX12 T o0) (H : M_seed h o0 v1 = some out) : jEm xs 2 338 [(2, Int.ofNat o0), (0, v1)] (T, h) ((0, out.1), (T, out.2)) := by
  have hd : 1 ≤ 1 := Nat.le_refl _
  obtain ⟨y, ey⟩ : ∃ y : jV × jS, y = ((0, out.1), (T, out.2)) := ⟨_, rfl⟩
  rw [← ey]
  have HY : ykI T y out := ey
  refine jEm.ent (n := 2) (by decide +kernel) (Nat.le_of_ble_eq_true rfl) ?_
  show jEv xs 1 (338, 0, [(2, Int.ofNat o0), (0, v1)], []) (T, h) y
  unfold M_seed at H
  refine jEv.blk [(.iload_n 1, 1, [])] (by decide +kernel) (pc' := 1) (ls' := [(2, Int.ofNat o0), (0, v1)]) (st' := [(0, v1)]) rfl ?_
  refine jEv.if_ge (t := 11) (show jfI 338 1 (.ifCond .ge 10) 3 [] = true by decide +kernel) rfl H (fun c1 H => ?_) (fun c1 H => ?_)
  · refine jEv.blk [(.aload_n 0, 1, []), (.bipush 6, 2, [])] (by decide +kernel) (pc' := 7) (ls' := [(2, Int.ofNat o0), (0, v1)]) (st' := [(0, 6), (2, Int.ofNat o0)]) rfl ?_
    refine jbind H (fun b2 Hb2 H => ?_)
    refine jEv.calV (st' := [(0, b2.1)]) (show jfI 338 7 (.invokevirtual 642) 3 [1, 336, 1, 10196] = true by decide +kernel) rfl (Or.inl rfl) rfl (Nat.le_of_ble_eq_true rfl) (by decide +kernel) (by decide) (isX12_L ho0) ((t_M_isRefused (T := T) (xs := xs) ho0 Hb2).mono (jKle 1 hd)) rfl ?_
    refine jchk H (fun c3 H => ?_)
    exact jEv.retZ (show jfI 338 10 (.ireturn) 1 [] = true by decide +kernel) (by decide +kernel) c3 (by cases H; exact HY)
  · refine jEv.blk [(.aload_n 0, 1, []), (.iload_n 1, 1, []), (.i2l, 1, [])] (by decide +kernel) (pc' := 14) (ls' := [(2, Int.ofNat o0), (0, v1)]) (st' := [(1, v1), (2, Int.ofNat o0)]) rfl ?_
    refine jEv.pfJ (show jfI 338 14 (.putfield 146) 3 [12, 75, 1, 0, 7111] = true by decide +kernel) (isX12_L ho0) (by decide) ?_
    refine jEv.blk [(.iconst 1, 1, [])] (by decide +kernel) (pc' := 18) (ls' := [(2, Int.ofNat o0), (0, v1)]) (st' := [(0, 1)]) rfl ?_
    exact jEv.retZ (show jfI 338 18 (.ireturn) 1 [] = true by decide +kernel) (by decide +kernel) (by decide) (by cases H; exact HY)
set_option maxRecDepth 20000 in
noncomputable def M_drawOf  (h : jH) (o0 : Nat) (v1 : Int) : Option (Int × jH) := (if v1 ≠ 0 then some ((wr (Int.tmod (wl (Int.tdiv ((jup h o0 75 (Int.tmod (wl ((wl (1103515245 * (h o0 75))) + 12345)) 2147483648)) o0 75) 64)) v1)), (jup h o0 75 (Int.tmod (wl ((wl (1103515245 * (h o0 75))) + 12345)) 2147483648))) else none)
set_option maxRecDepth 20000 in
theorem t_M_drawOf {T : jT} {xs : List Int} {h : jH}  {o0 : Nat} {v1 : Int} {out : (Int × jH)} (ho0 : isX12 T o0) (H : M_drawOf h o0 v1 = some out) : jEm xs 1 340 [(2, Int.ofNat o0), (0, v1)] (T, h) ((0, out.1), (T, out.2)) := by
  have hd : 0 ≤ 0 := Nat.le_refl _
  obtain ⟨y, ey⟩ : ∃ y : jV × jS, y = ((0, out.1), (T, out.2)) := ⟨_, rfl⟩
  rw [← ey]
  have HY : ykI T y out := ey
  refine jEm.ent (n := 2) (by decide +kernel) (Nat.le_of_ble_eq_true rfl) ?_
  show jEv xs 0 (340, 0, [(2, Int.ofNat o0), (0, v1)], []) (T, h) y
  unfold M_drawOf at H
  refine jEv.blk [(.aload_n 0, 1, []), (.ldc2_w 645, 3, [1, 0, 1103515245, 10216]), (.aload_n 0, 1, [])] (by decide +kernel) (pc' := 5) (ls' := [(2, Int.ofNat o0), (0, v1)]) (st' := [(2, Int.ofNat o0), (1, 1103515245), (2, Int.ofNat o0)]) rfl ?_
  refine jEv.gfJ (show jfI 340 5 (.getfield 146) 3 [12, 75, 1, 0, 7111] = true by decide +kernel) (isX12_L ho0) (by decide) ?_
  refine jEv.blk [(.lmul, 1, []), (.ldc2_w 647, 3, [1, 0, 12345, 10217]), (.ladd, 1, []), (.ldc2_w 649, 3, [1, 0, 2147483648, 10218])] (by decide +kernel) (pc' := 16) (ls' := [(2, Int.ofNat o0), (0, v1)]) (st' := [(1, 2147483648), (1, (wl ((wl (1103515245 * (h o0 75))) + 12345))), (2, Int.ofNat o0)]) rfl ?_
  refine jEv.lrem (show jfI 340 16 (.lrem) 1 [] = true by decide +kernel) (by decide) ?_
  refine jEv.pfJ (show jfI 340 17 (.putfield 146) 3 [12, 75, 1, 0, 7111] = true by decide +kernel) (isX12_L ho0) (by decide) ?_
  refine jEv.blk [(.aload_n 0, 1, [])] (by decide +kernel) (pc' := 21) (ls' := [(2, Int.ofNat o0), (0, v1)]) (st' := [(2, Int.ofNat o0)]) rfl ?_
  refine jEv.gfJ (show jfI 340 21 (.getfield 146) 3 [12, 75, 1, 0, 7111] = true by decide +kernel) (isX12_L ho0) (by decide) ?_
  refine jEv.blk [(.ldc2_w 651, 3, [1, 0, 64, 10219])] (by decide +kernel) (pc' := 27) (ls' := [(2, Int.ofNat o0), (0, v1)]) (st' := [(1, 64), (1, ((jup h o0 75 (Int.tmod (wl ((wl (1103515245 * (h o0 75))) + 12345)) 2147483648)) o0 75))]) rfl ?_
  refine jEv.ldiv (show jfI 340 27 (.ldiv) 1 [] = true by decide +kernel) (by decide) ?_
  refine jEv.blk [(.iload_n 1, 1, []), (.i2l, 1, [])] (by decide +kernel) (pc' := 30) (ls' := [(2, Int.ofNat o0), (0, v1)]) (st' := [(1, v1), (1, (wl (Int.tdiv ((jup h o0 75 (Int.tmod (wl ((wl (1103515245 * (h o0 75))) + 12345)) 2147483648)) o0 75) 64)))]) rfl ?_
  refine jchk H (fun c1 H => ?_)
  refine jEv.lrem (show jfI 340 30 (.lrem) 1 [] = true by decide +kernel) c1 ?_
  refine jEv.blk [(.l2i, 1, [])] (by decide +kernel) (pc' := 32) (ls' := [(2, Int.ofNat o0), (0, v1)]) (st' := [(0, (wr (Int.tmod (wl (Int.tdiv ((jup h o0 75 (Int.tmod (wl ((wl (1103515245 * (h o0 75))) + 12345)) 2147483648)) o0 75) 64)) v1)))]) rfl ?_
  exact jEv.retI (show jfI 340 32 (.ireturn) 1 [] = true by decide +kernel) (by decide +kernel) (by cases H; exact HY)
def yk_M_chance_L25 (T : jT) (xs : List Int) (d : Nat) (y : jV × jS)  (o0 : Nat) (v1 : Int) : ((Int × Int × jH) ⊕ (Int × jH)) → Prop
  | .inl (v2, v3, h) => jEv xs d (339, 25, [(2, Int.ofNat o0), (0, v1), (0, v2), (0, v3), (3, 0)], []) (T, h) y
  | .inr o => ykI T y o
set_option maxRecDepth 20000 in
noncomputable def M_chance_p78  (h : jH) (o0 : Nat) (v1 : Int) (v2 : Int) (v3 : Int) : Option ((Int × Int × jH) ⊕ (Int × jH)) := Option.bind (M_tickGoes h o0) (fun b14 => some (.inl (v2, (wr (v3 + 1)), b14)))
set_option maxRecDepth 20000 in
theorem t_M_chance_p78 {T : jT} {xs : List Int} {d : Nat} {y : jV × jS} (hd : 10 ≤ d) {h : jH}  {o0 : Nat} {v1 : Int} {v2 : Int} {v3 : Int} {out : ((Int × Int × jH) ⊕ (Int × jH))} (ho0 : isX12 T o0) (H : M_chance_p78 h o0 v1 v2 v3 = some out) (HY : yk_M_chance_L25 T xs d y o0 v1 out) : jEv xs d (339, 78, [(2, Int.ofNat o0), (0, v1), (0, v2), (0, v3), (3, 0)], []) (T, h) y := by
  unfold M_chance_p78 at H
  refine jEv.blk [(.aload_n 0, 1, [])] (by decide +kernel) (pc' := 79) (ls' := [(2, Int.ofNat o0), (0, v1), (0, v2), (0, v3), (3, 0)]) (st' := [(2, Int.ofNat o0)]) rfl ?_
  refine jbind H (fun b14 Hb14 H => ?_)
  refine jEv.calV (st' := []) (show jfI 339 79 (.invokevirtual 488) 3 [1, 283, 0, 9218] = true by decide +kernel) rfl (Or.inl rfl) rfl (Nat.le_of_ble_eq_true rfl) (by decide +kernel) (by decide) (isX12_L ho0) ((t_M_tickGoes (T := T) (xs := xs) ho0 Hb14).mono (jKle 10 hd)) rfl ?_
  refine jEv.blk [(.iinc 3 1, 3, [])] (by decide +kernel) (pc' := 85) (ls' := [(2, Int.ofNat o0), (0, v1), (0, v2), (0, (wr (v3 + 1))), (3, 0)]) (st' := []) rfl ?_
  refine jEv.goto (t := 25) (show jfI 339 85 (.goto (-60)) 3 [] = true by decide +kernel) rfl ?_
  exact (by cases H; exact HY)
set_option maxRecDepth 20000 in
noncomputable def M_chance_B25  (h : jH) (o0 : Nat) (v1 : Int) (v2 : Int) (v3 : Int) : Option ((Int × Int × jH) ⊕ (Int × jH)) := (if v3 < v1 then Option.bind (M_drawOf h o0 100) (fun b6 => (if (0 : Int) ≤ 9 ∧ (9 : Int).toNat < 10 then (if b6.1 < (b6.2 (o0 + 28) (9 : Int).toNat) then Option.bind (M_segmentMany b6.2 o0) (fun b9 => Option.bind (M_drawOf b6.2 o0 b9) (fun b10 => Option.bind (M_length b10.2 o0) (fun b11 => Option.bind (M_drawOf b10.2 o0 b11) (fun b12 => Option.bind (M_turns b12.2 o0 (wr ((wr (128 * b10.1)) + b12.1))) (fun b13 => M_chance_p78 b13 o0 v1 (wr (v2 + 1)) v3))))) else M_chance_p78 b6.2 o0 v1 v2 v3) else none)) else Option.map Sum.inr (some (v2, h)))
noncomputable def M_chance_L25  (h : jH) (o0 : Nat) (v1 : Int) (v2 : Int) (v3 : Int) : Option (Int × jH) := jloop (fun s : (Int × Int × jH) => M_chance_B25 s.2.2 o0 v1 s.1 s.2.1) (v2, v3, h)
set_option maxRecDepth 20000 in
theorem t_M_chance_B25 {T : jT} {xs : List Int} {d : Nat} {y : jV × jS} (hd : 10 ≤ d) {h : jH}  {o0 : Nat} {v1 : Int} {v2 : Int} {v3 : Int} {out : ((Int × Int × jH) ⊕ (Int × jH))} (ho0 : isX12 T o0) (H : M_chance_B25 h o0 v1 v2 v3 = some out) (HY : yk_M_chance_L25 T xs d y o0 v1 out) : jEv xs d (339, 25, [(2, Int.ofNat o0), (0, v1), (0, v2), (0, v3), (3, 0)], []) (T, h) y := by
  unfold M_chance_B25 at H
  refine jEv.blk [(.iload_n 3, 1, []), (.iload_n 1, 1, [])] (by decide +kernel) (pc' := 27) (ls' := [(2, Int.ofNat o0), (0, v1), (0, v2), (0, v3), (3, 0)]) (st' := [(0, v1), (0, v3)]) rfl ?_
  refine jEv.ic_ge (t := 88) (show jfI 339 27 (.if_icmp .ge 61) 3 [] = true by decide +kernel) rfl H (fun c5 H => ?_) (fun c5 H => ?_)
  · refine jEv.blk [(.aload_n 0, 1, []), (.bipush 100, 2, [])] (by decide +kernel) (pc' := 33) (ls' := [(2, Int.ofNat o0), (0, v1), (0, v2), (0, v3), (3, 0)]) (st' := [(0, 100), (2, Int.ofNat o0)]) rfl ?_
    refine jbind H (fun b6 Hb6 H => ?_)
    refine jEv.calV (st' := [(0, b6.1)]) (show jfI 339 33 (.invokevirtual 653) 3 [1, 340, 1, 10212] = true by decide +kernel) rfl (Or.inl rfl) rfl (Nat.le_of_ble_eq_true rfl) (by decide +kernel) (by decide) (isX12_L ho0) ((t_M_drawOf (T := T) (xs := xs) ho0 Hb6).mono (jKle 1 hd)) rfl ?_
    refine jEv.blk [(.aload_n 0, 1, [])] (by decide +kernel) (pc' := 37) (ls' := [(2, Int.ofNat o0), (0, v1), (0, v2), (0, v3), (3, 0)]) (st' := [(2, Int.ofNat o0), (0, b6.1)]) rfl ?_
    refine jEv.gfR (o' := (o0 + 28)) (show jfI 339 37 (.getfield 96) 3 [12, 36, 5, 0, 7072] = true by decide +kernel) (isX12_L ho0) (by decide) (isX12_r36 ho0) ?_
    refine jEv.blk [(.bipush 9, 2, [])] (by decide +kernel) (pc' := 42) (ls' := [(2, Int.ofNat o0), (0, v1), (0, v2), (0, v3), (3, 0)]) (st' := [(0, 9), (2, Int.ofNat (o0 + 28)), (0, b6.1)]) rfl ?_
    refine jEv.ald (Or.inl ⟨rfl, rfl, rfl⟩) (show jfI 339 42 (.iaload) 1 [] = true by decide +kernel) (isX12_a36 ho0) H (fun c7 H => ?_)
    refine jEv.ic_ge (t := 78) (show jfI 339 43 (.if_icmp .ge 35) 3 [] = true by decide +kernel) rfl H (fun c8 H => ?_) (fun c8 H => ?_)
    · refine jEv.blk [(.aload_n 0, 1, []), (.aload_n 0, 1, [])] (by decide +kernel) (pc' := 48) (ls' := [(2, Int.ofNat o0), (0, v1), (0, v2), (0, v3), (3, 0)]) (st' := [(2, Int.ofNat o0), (2, Int.ofNat o0)]) rfl ?_
      refine jbind H (fun b9 Hb9 H => ?_)
      refine jEv.calV (st' := [(0, b9), (2, Int.ofNat o0)]) (show jfI 339 48 (.invokevirtual 360) 3 [1, 254, 0, 9096] = true by decide +kernel) rfl (Or.inl rfl) rfl (Nat.le_of_ble_eq_true rfl) (by decide +kernel) (by decide) (isX12_L ho0) ((t_M_segmentMany (T := T) (xs := xs) ho0 Hb9).mono (jKle 1 hd)) rfl ?_
      refine jbind H (fun b10 Hb10 H => ?_)
      refine jEv.calV (st' := [(0, b10.1)]) (show jfI 339 51 (.invokevirtual 653) 3 [1, 340, 1, 10212] = true by decide +kernel) rfl (Or.inl rfl) rfl (Nat.le_of_ble_eq_true rfl) (by decide +kernel) (by decide) (isX12_L ho0) ((t_M_drawOf (T := T) (xs := xs) ho0 Hb10).mono (jKle 1 hd)) rfl ?_
      refine jEv.blk [(.istore 4, 2, []), (.aload_n 0, 1, []), (.sipush 128, 3, []), (.iload 4, 2, []), (.imul, 1, []), (.aload_n 0, 1, []), (.aload_n 0, 1, [])] (by decide +kernel) (pc' := 65) (ls' := [(2, Int.ofNat o0), (0, v1), (0, v2), (0, v3), (0, b10.1)]) (st' := [(2, Int.ofNat o0), (2, Int.ofNat o0), (0, (wr (128 * b10.1))), (2, Int.ofNat o0)]) rfl ?_
      refine jbind H (fun b11 Hb11 H => ?_)
      refine jEv.calV (st' := [(0, b11), (2, Int.ofNat o0), (0, (wr (128 * b10.1))), (2, Int.ofNat o0)]) (show jfI 339 65 (.invokevirtual 402) 3 [1, 249, 0, 9076] = true by decide +kernel) rfl (Or.inl rfl) rfl (Nat.le_of_ble_eq_true rfl) (by decide +kernel) (by decide) (isX12_L ho0) ((t_M_length (T := T) (xs := xs) ho0 Hb11).mono (jKle 1 hd)) rfl ?_
      refine jbind H (fun b12 Hb12 H => ?_)
      refine jEv.calV (st' := [(0, b12.1), (0, (wr (128 * b10.1))), (2, Int.ofNat o0)]) (show jfI 339 68 (.invokevirtual 653) 3 [1, 340, 1, 10212] = true by decide +kernel) rfl (Or.inl rfl) rfl (Nat.le_of_ble_eq_true rfl) (by decide +kernel) (by decide) (isX12_L ho0) ((t_M_drawOf (T := T) (xs := xs) ho0 Hb12).mono (jKle 1 hd)) rfl ?_
      refine jEv.blk [(.iadd, 1, [])] (by decide +kernel) (pc' := 72) (ls' := [(2, Int.ofNat o0), (0, v1), (0, v2), (0, v3), (0, b10.1)]) (st' := [(0, (wr ((wr (128 * b10.1)) + b12.1))), (2, Int.ofNat o0)]) rfl ?_
      refine jbind H (fun b13 Hb13 H => ?_)
      refine jEv.calV (st' := []) (show jfI 339 72 (.invokevirtual 619) 3 [1, 325, 1, 10151] = true by decide +kernel) rfl (Or.inl rfl) rfl (Nat.le_of_ble_eq_true rfl) (by decide +kernel) (by decide) (isX12_L ho0) ((t_M_turns (T := T) (xs := xs) ho0 Hb13).mono (jKle 1 hd)) rfl ?_
      refine jEv.blk [(.iinc 2 1, 3, [])] (by decide +kernel) (pc' := 78) (ls' := [(2, Int.ofNat o0), (0, v1), (0, (wr (v2 + 1))), (0, v3), (0, b10.1)]) (st' := []) rfl ?_
      exact jEv.weak (a := [(2, Int.ofNat o0), (0, v1), (0, (wr (v2 + 1))), (0, v3), (3, 0)]) (jles.c1 (jles.c1 (jles.c1 (jles.c1 (jles.c0 jles.nl))))) (t_M_chance_p78 (T := T) (xs := xs) (y := y) hd ho0 H HY)
    · exact t_M_chance_p78 (T := T) (xs := xs) (y := y) hd ho0 H HY
  · refine jmapr H HY (fun out H (HY : ykI T y out) => ?_)
    refine jEv.blk [(.iload_n 2, 1, [])] (by decide +kernel) (pc' := 89) (ls' := [(2, Int.ofNat o0), (0, v1), (0, v2), (0, v3), (3, 0)]) (st' := [(0, v2)]) rfl ?_
    exact jEv.retI (show jfI 339 89 (.ireturn) 1 [] = true by decide +kernel) (by decide +kernel) (by cases H; exact HY)
theorem t_M_chance_L25 {T : jT} {xs : List Int} {d : Nat} {y : jV × jS} (hd : 10 ≤ d) {h : jH}  {o0 : Nat} {v1 : Int} {v2 : Int} {v3 : Int} {out : (Int × jH)} (ho0 : isX12 T o0) (H : M_chance_L25 h o0 v1 v2 v3 = some out) (HY : ykI T y out) : jEv xs d (339, 25, [(2, Int.ofNat o0), (0, v1), (0, v2), (0, v3), (3, 0)], []) (T, h) y :=
  jloop_sound (G := fun s : (Int × Int × jH) => jEv xs d (339, 25, [(2, Int.ofNat o0), (0, v1), (0, s.1), (0, s.2.1), (3, 0)], []) (T, s.2.2) y) (K := yk_M_chance_L25 T xs d y o0 v1) (fun s out H HY => t_M_chance_B25 hd ho0 H HY) (fun s' hg => hg) (s := (v2, v3, h)) H HY
set_option maxRecDepth 20000 in
noncomputable def M_chance  (h : jH) (o0 : Nat) (v1 : Int) : Option (Int × jH) := Option.bind (M_isAhead h o0 v1 1 100) (fun b1 => (if b1 = 0 then Option.bind (M_refuses h o0 3) (fun b3 => some (b3.1, b3.2)) else Option.bind (M_keeps h o0) (fun b4 => M_chance_L25 b4 o0 v1 0 0)))
set_option maxRecDepth 20000 in
theorem t_M_chance {T : jT} {xs : List Int} {h : jH}  {o0 : Nat} {v1 : Int} {out : (Int × jH)} (ho0 : isX12 T o0) (H : M_chance h o0 v1 = some out) : jEm xs 11 339 [(2, Int.ofNat o0), (0, v1)] (T, h) ((0, out.1), (T, out.2)) := by
  have hd : 10 ≤ 10 := Nat.le_refl _
  obtain ⟨y, ey⟩ : ∃ y : jV × jS, y = ((0, out.1), (T, out.2)) := ⟨_, rfl⟩
  rw [← ey]
  have HY : ykI T y out := ey
  refine jEm.ent (n := 5) (by decide +kernel) (Nat.le_of_ble_eq_true rfl) ?_
  show jEv xs 10 (339, 0, [(2, Int.ofNat o0), (0, v1), (3, 0), (3, 0), (3, 0)], []) (T, h) y
  unfold M_chance at H
  refine jEv.blk [(.aload_n 0, 1, []), (.iload_n 1, 1, []), (.iconst 1, 1, []), (.bipush 100, 2, [])] (by decide +kernel) (pc' := 5) (ls' := [(2, Int.ofNat o0), (0, v1), (3, 0), (3, 0), (3, 0)]) (st' := [(0, 100), (0, 1), (0, v1), (2, Int.ofNat o0)]) rfl ?_
  refine jbind H (fun b1 Hb1 H => ?_)
  refine jEv.calV (st' := [(0, b1)]) (show jfI 339 5 (.invokevirtual 587) 3 [1, 280, 3, 9206] = true by decide +kernel) rfl (Or.inl rfl) rfl (Nat.le_of_ble_eq_true rfl) (by decide +kernel) (by decide) (isX12_L ho0) ((t_M_isAhead (T := T) (xs := xs) ho0 Hb1).mono (jKle 2 hd)) rfl ?_
  refine jEv.if_ne (t := 17) (show jfI 339 8 (.ifCond .ne 9) 3 [] = true by decide +kernel) rfl H (fun c2 H => ?_) (fun c2 H => ?_)
  · refine jEv.blk [(.aload_n 0, 1, []), (.iconst 3, 1, [])] (by decide +kernel) (pc' := 13) (ls' := [(2, Int.ofNat o0), (0, v1), (3, 0), (3, 0), (3, 0)]) (st' := [(0, 3), (2, Int.ofNat o0)]) rfl ?_
    refine jbind H (fun b3 Hb3 H => ?_)
    refine jEv.calV (st' := [(0, b3.1)]) (show jfI 339 13 (.invokevirtual 333) 3 [1, 239, 1, 9038] = true by decide +kernel) rfl (Or.inl rfl) rfl (Nat.le_of_ble_eq_true rfl) (by decide +kernel) (by decide) (isX12_L ho0) ((t_M_refuses (T := T) (xs := xs) ho0 Hb3).mono (jKle 1 hd)) rfl ?_
    exact jEv.retI (show jfI 339 16 (.ireturn) 1 [] = true by decide +kernel) (by decide +kernel) (by cases H; exact HY)
  · refine jEv.blk [(.aload_n 0, 1, [])] (by decide +kernel) (pc' := 18) (ls' := [(2, Int.ofNat o0), (0, v1), (3, 0), (3, 0), (3, 0)]) (st' := [(2, Int.ofNat o0)]) rfl ?_
    refine jbind H (fun b4 Hb4 H => ?_)
    refine jEv.calV (st' := []) (show jfI 339 18 (.invokevirtual 639) 3 [1, 334, 0, 10188] = true by decide +kernel) rfl (Or.inl rfl) rfl (Nat.le_of_ble_eq_true rfl) (by decide +kernel) (by decide) (isX12_L ho0) ((t_M_keeps (T := T) (xs := xs) ho0 Hb4).mono (jKle 1 hd)) rfl ?_
    refine jEv.blk [(.iconst 0, 1, []), (.istore_n 2, 1, []), (.iconst 0, 1, []), (.istore_n 3, 1, [])] (by decide +kernel) (pc' := 25) (ls' := [(2, Int.ofNat o0), (0, v1), (0, 0), (0, 0), (3, 0)]) (st' := []) rfl ?_
    exact t_M_chance_L25 (T := T) (xs := xs) (y := y) hd ho0 H HY
