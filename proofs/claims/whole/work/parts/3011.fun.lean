/-! methods as functions -/
def yk_M_snap_L59 (T : jT) (xs : List Int) (d : Nat) (y : jV × jS)  (o0 : Nat) : ((Int × jH) ⊕ (Int × jH)) → Prop
  | .inl (v1, h) => jEv xs d (341, 59, [(2, Int.ofNat o0), (0, v1)], []) (T, h) y
  | .inr o => ykI T y o
set_option maxRecDepth 20000 in
noncomputable def M_snap_p34  (h : jH) (o0 : Nat) : Option (Int × jH) := Option.bind (M_refuses h o0 4) (fun b10 => some (b10.1, b10.2))
set_option maxRecDepth 20000 in
theorem t_M_snap_p34 {T : jT} {xs : List Int} {d : Nat} {y : jV × jS} (hd : 1 ≤ d) {h : jH}  {o0 : Nat} {out : (Int × jH)} (ho0 : isX12 T o0) (H : M_snap_p34 h o0 = some out) (HY : ykI T y out) : jEv xs d (341, 34, [(2, Int.ofNat o0), (3, 0)], []) (T, h) y := by
  unfold M_snap_p34 at H
  refine jEv.blk [(.aload_n 0, 1, []), (.iconst 4, 1, [])] (by decide +kernel) (pc' := 36) (ls' := [(2, Int.ofNat o0), (3, 0)]) (st' := [(0, 4), (2, Int.ofNat o0)]) rfl ?_
  refine jbind H (fun b10 Hb10 H => ?_)
  refine jEv.calV (st' := [(0, b10.1)]) (show jfI 341 36 (.invokevirtual 333) 3 [1, 239, 1, 9038] = true by decide +kernel) rfl (Or.inl rfl) rfl (Nat.le_of_ble_eq_true rfl) (by decide +kernel) (by decide) (isX12_L ho0) ((t_M_refuses (T := T) (xs := xs) ho0 Hb10).mono (jKle 1 hd)) rfl ?_
  exact jEv.retI (show jfI 341 39 (.ireturn) 1 [] = true by decide +kernel) (by decide +kernel) (by cases H; exact HY)
set_option maxRecDepth 20000 in
noncomputable def M_snap_B59  (h : jH) (o0 : Nat) (v1 : Int) : Option ((Int × jH) ⊕ (Int × jH)) := (if v1 < 16 then (if (0 : Int) ≤ (wr (144 + v1)) ∧ ((wr (144 + v1)) : Int).toNat < 2365 then (if (0 : Int) ≤ (wr (160 + v1)) ∧ ((wr (160 + v1)) : Int).toNat < 2365 then some (.inl ((wr (v1 + 1)), (jup h (o0 + 33) ((wr (160 + v1)) : Int).toNat (h (o0 + 33) ((wr (144 + v1)) : Int).toNat)))) else none) else none) else Option.map Sum.inr ((if (0 : Int) ≤ 9 ∧ (9 : Int).toNat < 2365 then some ((h (o0 + 33) (9 : Int).toNat), h) else none)))
noncomputable def M_snap_L59  (h : jH) (o0 : Nat) (v1 : Int) : Option (Int × jH) := jloop (fun s : (Int × jH) => M_snap_B59 s.2 o0 s.1) (v1, h)
set_option maxRecDepth 20000 in
theorem t_M_snap_B59 {T : jT} {xs : List Int} {d : Nat} {y : jV × jS} (hd : 1 ≤ d) {h : jH}  {o0 : Nat} {v1 : Int} {out : ((Int × jH) ⊕ (Int × jH))} (ho0 : isX12 T o0) (H : M_snap_B59 h o0 v1 = some out) (HY : yk_M_snap_L59 T xs d y o0 out) : jEv xs d (341, 59, [(2, Int.ofNat o0), (0, v1)], []) (T, h) y := by
  unfold M_snap_B59 at H
  refine jEv.blk [(.iload_n 1, 1, []), (.bipush 16, 2, [])] (by decide +kernel) (pc' := 62) (ls' := [(2, Int.ofNat o0), (0, v1)]) (st' := [(0, 16), (0, v1)]) rfl ?_
  refine jEv.ic_ge (t := 91) (show jfI 341 62 (.if_icmp .ge 29) 3 [] = true by decide +kernel) rfl H (fun c11 H => ?_) (fun c11 H => ?_)
  · refine jEv.blk [(.aload_n 0, 1, [])] (by decide +kernel) (pc' := 66) (ls' := [(2, Int.ofNat o0), (0, v1)]) (st' := [(2, Int.ofNat o0)]) rfl ?_
    refine jEv.gfR (o' := (o0 + 33)) (show jfI 341 66 (.getfield 111) 3 [12, 45, 5, 0, 7081] = true by decide +kernel) (isX12_L ho0) (by decide) (isX12_r45 ho0) ?_
    refine jEv.blk [(.sipush 160, 3, []), (.iload_n 1, 1, []), (.iadd, 1, []), (.aload_n 0, 1, [])] (by decide +kernel) (pc' := 75) (ls' := [(2, Int.ofNat o0), (0, v1)]) (st' := [(2, Int.ofNat o0), (0, (wr (160 + v1))), (2, Int.ofNat (o0 + 33))]) rfl ?_
    refine jEv.gfR (o' := (o0 + 33)) (show jfI 341 75 (.getfield 111) 3 [12, 45, 5, 0, 7081] = true by decide +kernel) (isX12_L ho0) (by decide) (isX12_r45 ho0) ?_
    refine jEv.blk [(.sipush 144, 3, []), (.iload_n 1, 1, []), (.iadd, 1, [])] (by decide +kernel) (pc' := 83) (ls' := [(2, Int.ofNat o0), (0, v1)]) (st' := [(0, (wr (144 + v1))), (2, Int.ofNat (o0 + 33)), (0, (wr (160 + v1))), (2, Int.ofNat (o0 + 33))]) rfl ?_
    refine jEv.ald (Or.inl ⟨rfl, rfl, rfl⟩) (show jfI 341 83 (.iaload) 1 [] = true by decide +kernel) (isX12_a45 ho0) H (fun c12 H => ?_)
    refine jEv.ast (Or.inl ⟨rfl, rfl, rfl⟩) (show jfI 341 84 (.iastore) 1 [] = true by decide +kernel) (isX12_a45 ho0) rfl H (fun c13 H => ?_)
    refine jEv.blk [(.iinc 1 1, 3, [])] (by decide +kernel) (pc' := 88) (ls' := [(2, Int.ofNat o0), (0, (wr (v1 + 1)))]) (st' := []) rfl ?_
    refine jEv.goto (t := 59) (show jfI 341 88 (.goto (-29)) 3 [] = true by decide +kernel) rfl ?_
    exact (by cases H; exact HY)
  · refine jmapr H HY (fun out H (HY : ykI T y out) => ?_)
    refine jEv.blk [(.aload_n 0, 1, [])] (by decide +kernel) (pc' := 92) (ls' := [(2, Int.ofNat o0), (0, v1)]) (st' := [(2, Int.ofNat o0)]) rfl ?_
    refine jEv.gfR (o' := (o0 + 33)) (show jfI 341 92 (.getfield 111) 3 [12, 45, 5, 0, 7081] = true by decide +kernel) (isX12_L ho0) (by decide) (isX12_r45 ho0) ?_
    refine jEv.blk [(.bipush 9, 2, [])] (by decide +kernel) (pc' := 97) (ls' := [(2, Int.ofNat o0), (0, v1)]) (st' := [(0, 9), (2, Int.ofNat (o0 + 33))]) rfl ?_
    refine jEv.ald (Or.inl ⟨rfl, rfl, rfl⟩) (show jfI 341 97 (.iaload) 1 [] = true by decide +kernel) (isX12_a45 ho0) H (fun c14 H => ?_)
    exact jEv.retI (show jfI 341 98 (.ireturn) 1 [] = true by decide +kernel) (by decide +kernel) (by cases H; exact HY)
theorem t_M_snap_L59 {T : jT} {xs : List Int} {d : Nat} {y : jV × jS} (hd : 1 ≤ d) {h : jH}  {o0 : Nat} {v1 : Int} {out : (Int × jH)} (ho0 : isX12 T o0) (H : M_snap_L59 h o0 v1 = some out) (HY : ykI T y out) : jEv xs d (341, 59, [(2, Int.ofNat o0), (0, v1)], []) (T, h) y :=
  jloop_sound (G := fun s : (Int × jH) => jEv xs d (341, 59, [(2, Int.ofNat o0), (0, s.1)], []) (T, s.2) y) (K := yk_M_snap_L59 T xs d y o0) (fun s out H HY => t_M_snap_B59 hd ho0 H HY) (fun s' hg => hg) (s := (v1, h)) H HY
set_option maxRecDepth 20000 in
noncomputable def M_snap  (h : jH) (o0 : Nat) : Option (Int × jH) := (if (h o0 43) = 0 then M_snap_p34 h o0 else (if (0 : Int) ≤ 10 ∧ (10 : Int).toNat < 2365 then (if (h (o0 + 33) (10 : Int).toNat) = 1 then M_snap_p34 h o0 else (if (0 : Int) ≤ 9 ∧ (9 : Int).toNat < 2365 then (if (0 : Int) ≤ 2 ∧ (2 : Int).toNat < 2365 then (if (h (o0 + 33) (9 : Int).toNat) = (h (o0 + 33) (2 : Int).toNat) then M_snap_p34 h o0 else Option.bind (M_keeps h o0) (fun b7 => (if (0 : Int) ≤ 2 ∧ (2 : Int).toNat < 2365 then (if (0 : Int) ≤ 9 ∧ (9 : Int).toNat < 2365 then M_snap_L59 (jup b7 (o0 + 33) (9 : Int).toNat (b7 (o0 + 33) (2 : Int).toNat)) o0 0 else none) else none))) else none) else none)) else none))
set_option maxRecDepth 20000 in
theorem t_M_snap {T : jT} {xs : List Int} {h : jH}  {o0 : Nat} {out : (Int × jH)} (ho0 : isX12 T o0) (H : M_snap h o0 = some out) : jEm xs 2 341 [(2, Int.ofNat o0)] (T, h) ((0, out.1), (T, out.2)) := by
  have hd : 1 ≤ 1 := Nat.le_refl _
  obtain ⟨y, ey⟩ : ∃ y : jV × jS, y = ((0, out.1), (T, out.2)) := ⟨_, rfl⟩
  rw [← ey]
  have HY : ykI T y out := ey
  refine jEm.ent (n := 2) (by decide +kernel) (Nat.le_of_ble_eq_true rfl) ?_
  show jEv xs 1 (341, 0, [(2, Int.ofNat o0), (3, 0)], []) (T, h) y
  unfold M_snap at H
  refine jEv.blk [(.aload_n 0, 1, [])] (by decide +kernel) (pc' := 1) (ls' := [(2, Int.ofNat o0), (3, 0)]) (st' := [(2, Int.ofNat o0)]) rfl ?_
  refine jEv.gfI (show jfI 341 1 (.getfield 340) 3 [12, 43, 0, 1, 7079] = true by decide +kernel) (isX12_L ho0) (by decide) ?_
  refine jEv.if_eq (t := 34) (show jfI 341 4 (.ifCond .eq 30) 3 [] = true by decide +kernel) rfl H (fun c1 H => ?_) (fun c1 H => ?_)
  · exact t_M_snap_p34 (T := T) (xs := xs) (y := y) hd ho0 H HY
  · refine jEv.blk [(.aload_n 0, 1, [])] (by decide +kernel) (pc' := 8) (ls' := [(2, Int.ofNat o0), (3, 0)]) (st' := [(2, Int.ofNat o0)]) rfl ?_
    refine jEv.gfR (o' := (o0 + 33)) (show jfI 341 8 (.getfield 111) 3 [12, 45, 5, 0, 7081] = true by decide +kernel) (isX12_L ho0) (by decide) (isX12_r45 ho0) ?_
    refine jEv.blk [(.bipush 10, 2, [])] (by decide +kernel) (pc' := 13) (ls' := [(2, Int.ofNat o0), (3, 0)]) (st' := [(0, 10), (2, Int.ofNat (o0 + 33))]) rfl ?_
    refine jEv.ald (Or.inl ⟨rfl, rfl, rfl⟩) (show jfI 341 13 (.iaload) 1 [] = true by decide +kernel) (isX12_a45 ho0) H (fun c2 H => ?_)
    refine jEv.blk [(.iconst 1, 1, [])] (by decide +kernel) (pc' := 15) (ls' := [(2, Int.ofNat o0), (3, 0)]) (st' := [(0, 1), (0, (h (o0 + 33) (10 : Int).toNat))]) rfl ?_
    refine jEv.ic_eq (t := 34) (show jfI 341 15 (.if_icmp .eq 19) 3 [] = true by decide +kernel) rfl H (fun c3 H => ?_) (fun c3 H => ?_)
    · exact t_M_snap_p34 (T := T) (xs := xs) (y := y) hd ho0 H HY
    · refine jEv.blk [(.aload_n 0, 1, [])] (by decide +kernel) (pc' := 19) (ls' := [(2, Int.ofNat o0), (3, 0)]) (st' := [(2, Int.ofNat o0)]) rfl ?_
      refine jEv.gfR (o' := (o0 + 33)) (show jfI 341 19 (.getfield 111) 3 [12, 45, 5, 0, 7081] = true by decide +kernel) (isX12_L ho0) (by decide) (isX12_r45 ho0) ?_
      refine jEv.blk [(.bipush 9, 2, [])] (by decide +kernel) (pc' := 24) (ls' := [(2, Int.ofNat o0), (3, 0)]) (st' := [(0, 9), (2, Int.ofNat (o0 + 33))]) rfl ?_
      refine jEv.ald (Or.inl ⟨rfl, rfl, rfl⟩) (show jfI 341 24 (.iaload) 1 [] = true by decide +kernel) (isX12_a45 ho0) H (fun c4 H => ?_)
      refine jEv.blk [(.aload_n 0, 1, [])] (by decide +kernel) (pc' := 26) (ls' := [(2, Int.ofNat o0), (3, 0)]) (st' := [(2, Int.ofNat o0), (0, (h (o0 + 33) (9 : Int).toNat))]) rfl ?_
      refine jEv.gfR (o' := (o0 + 33)) (show jfI 341 26 (.getfield 111) 3 [12, 45, 5, 0, 7081] = true by decide +kernel) (isX12_L ho0) (by decide) (isX12_r45 ho0) ?_
      refine jEv.blk [(.iconst 2, 1, [])] (by decide +kernel) (pc' := 30) (ls' := [(2, Int.ofNat o0), (3, 0)]) (st' := [(0, 2), (2, Int.ofNat (o0 + 33)), (0, (h (o0 + 33) (9 : Int).toNat))]) rfl ?_
      refine jEv.ald (Or.inl ⟨rfl, rfl, rfl⟩) (show jfI 341 30 (.iaload) 1 [] = true by decide +kernel) (isX12_a45 ho0) H (fun c5 H => ?_)
      refine jEv.ic_ne (t := 40) (show jfI 341 31 (.if_icmp .ne 9) 3 [] = true by decide +kernel) rfl H (fun c6 H => ?_) (fun c6 H => ?_)
      · exact t_M_snap_p34 (T := T) (xs := xs) (y := y) hd ho0 H HY
      · refine jEv.blk [(.aload_n 0, 1, [])] (by decide +kernel) (pc' := 41) (ls' := [(2, Int.ofNat o0), (3, 0)]) (st' := [(2, Int.ofNat o0)]) rfl ?_
        refine jbind H (fun b7 Hb7 H => ?_)
        refine jEv.calV (st' := []) (show jfI 341 41 (.invokevirtual 639) 3 [1, 334, 0, 10188] = true by decide +kernel) rfl (Or.inl rfl) rfl (Nat.le_of_ble_eq_true rfl) (by decide +kernel) (by decide) (isX12_L ho0) ((t_M_keeps (T := T) (xs := xs) ho0 Hb7).mono (jKle 1 hd)) rfl ?_
        refine jEv.blk [(.aload_n 0, 1, [])] (by decide +kernel) (pc' := 45) (ls' := [(2, Int.ofNat o0), (3, 0)]) (st' := [(2, Int.ofNat o0)]) rfl ?_
        refine jEv.gfR (o' := (o0 + 33)) (show jfI 341 45 (.getfield 111) 3 [12, 45, 5, 0, 7081] = true by decide +kernel) (isX12_L ho0) (by decide) (isX12_r45 ho0) ?_
        refine jEv.blk [(.bipush 9, 2, []), (.aload_n 0, 1, [])] (by decide +kernel) (pc' := 51) (ls' := [(2, Int.ofNat o0), (3, 0)]) (st' := [(2, Int.ofNat o0), (0, 9), (2, Int.ofNat (o0 + 33))]) rfl ?_
        refine jEv.gfR (o' := (o0 + 33)) (show jfI 341 51 (.getfield 111) 3 [12, 45, 5, 0, 7081] = true by decide +kernel) (isX12_L ho0) (by decide) (isX12_r45 ho0) ?_
        refine jEv.blk [(.iconst 2, 1, [])] (by decide +kernel) (pc' := 55) (ls' := [(2, Int.ofNat o0), (3, 0)]) (st' := [(0, 2), (2, Int.ofNat (o0 + 33)), (0, 9), (2, Int.ofNat (o0 + 33))]) rfl ?_
        refine jEv.ald (Or.inl ⟨rfl, rfl, rfl⟩) (show jfI 341 55 (.iaload) 1 [] = true by decide +kernel) (isX12_a45 ho0) H (fun c8 H => ?_)
        refine jEv.ast (Or.inl ⟨rfl, rfl, rfl⟩) (show jfI 341 56 (.iastore) 1 [] = true by decide +kernel) (isX12_a45 ho0) rfl H (fun c9 H => ?_)
        refine jEv.blk [(.iconst 0, 1, []), (.istore_n 1, 1, [])] (by decide +kernel) (pc' := 59) (ls' := [(2, Int.ofNat o0), (0, 0)]) (st' := []) rfl ?_
        exact t_M_snap_L59 (T := T) (xs := xs) (y := y) hd ho0 H HY
set_option maxRecDepth 20000 in
noncomputable def M_crash_p23  (h : jH) (o0 : Nat) : Option (Int × jH) := Option.bind (M_refuses h o0 4) (fun b8 => some (b8.1, b8.2))
set_option maxRecDepth 20000 in
theorem t_M_crash_p23 {T : jT} {xs : List Int} {d : Nat} {y : jV × jS} (hd : 7 ≤ d) {h : jH}  {o0 : Nat} {out : (Int × jH)} (ho0 : isX12 T o0) (H : M_crash_p23 h o0 = some out) (HY : ykI T y out) : jEv xs d (342, 23, [(2, Int.ofNat o0), (3, 0)], []) (T, h) y := by
  unfold M_crash_p23 at H
  refine jEv.blk [(.aload_n 0, 1, []), (.iconst 4, 1, [])] (by decide +kernel) (pc' := 25) (ls' := [(2, Int.ofNat o0), (3, 0)]) (st' := [(0, 4), (2, Int.ofNat o0)]) rfl ?_
  refine jbind H (fun b8 Hb8 H => ?_)
  refine jEv.calV (st' := [(0, b8.1)]) (show jfI 342 25 (.invokevirtual 333) 3 [1, 239, 1, 9038] = true by decide +kernel) rfl (Or.inl rfl) rfl (Nat.le_of_ble_eq_true rfl) (by decide +kernel) (by decide) (isX12_L ho0) ((t_M_refuses (T := T) (xs := xs) ho0 Hb8).mono (jKle 1 hd)) rfl ?_
  exact jEv.retI (show jfI 342 28 (.ireturn) 1 [] = true by decide +kernel) (by decide +kernel) (by cases H; exact HY)
set_option maxRecDepth 20000 in
noncomputable def M_crash  (h : jH) (o0 : Nat) (v1 : Int) : Option (Int × jH) := (if (h o0 43) = 0 then M_crash_p23 h o0 else (if (0 : Int) ≤ 4 ∧ (4 : Int).toNat < 2365 then Option.bind (M_isIn v1 0 (h (o0 + 33) (4 : Int).toNat)) (fun b3 => (if b3 = 0 then M_crash_p23 h o0 else Option.bind (M_keeps h o0) (fun b5 => Option.bind (M_crashes b5 o0 v1) (fun b6 => (if (0 : Int) ≤ 1 ∧ (1 : Int).toNat < 2365 then some ((b6 (o0 + 33) (1 : Int).toNat), b6) else none))))) else none))
set_option maxRecDepth 20000 in
theorem t_M_crash {T : jT} {xs : List Int} {h : jH}  {o0 : Nat} {v1 : Int} {out : (Int × jH)} (ho0 : isX12 T o0) (H : M_crash h o0 v1 = some out) : jEm xs 8 342 [(2, Int.ofNat o0), (0, v1)] (T, h) ((0, out.1), (T, out.2)) := by
  have hd : 7 ≤ 7 := Nat.le_refl _
  obtain ⟨y, ey⟩ : ∃ y : jV × jS, y = ((0, out.1), (T, out.2)) := ⟨_, rfl⟩
  rw [← ey]
  have HY : ykI T y out := ey
  refine jEm.ent (n := 2) (by decide +kernel) (Nat.le_of_ble_eq_true rfl) ?_
  show jEv xs 7 (342, 0, [(2, Int.ofNat o0), (0, v1)], []) (T, h) y
  unfold M_crash at H
  refine jEv.blk [(.aload_n 0, 1, [])] (by decide +kernel) (pc' := 1) (ls' := [(2, Int.ofNat o0), (0, v1)]) (st' := [(2, Int.ofNat o0)]) rfl ?_
  refine jEv.gfI (show jfI 342 1 (.getfield 340) 3 [12, 43, 0, 1, 7079] = true by decide +kernel) (isX12_L ho0) (by decide) ?_
  refine jEv.if_eq (t := 23) (show jfI 342 4 (.ifCond .eq 19) 3 [] = true by decide +kernel) rfl H (fun c1 H => ?_) (fun c1 H => ?_)
  · exact jEv.weak (a := [(2, Int.ofNat o0), (3, 0)]) (jles.c1 (jles.c0 jles.nl)) (t_M_crash_p23 (T := T) (xs := xs) (y := y) hd ho0 H HY)
  · refine jEv.blk [(.iload_n 1, 1, []), (.i2l, 1, []), (.lconst 0, 1, []), (.aload_n 0, 1, [])] (by decide +kernel) (pc' := 11) (ls' := [(2, Int.ofNat o0), (0, v1)]) (st' := [(2, Int.ofNat o0), (1, 0), (1, v1)]) rfl ?_
    refine jEv.gfR (o' := (o0 + 33)) (show jfI 342 11 (.getfield 111) 3 [12, 45, 5, 0, 7081] = true by decide +kernel) (isX12_L ho0) (by decide) (isX12_r45 ho0) ?_
    refine jEv.blk [(.iconst 4, 1, [])] (by decide +kernel) (pc' := 15) (ls' := [(2, Int.ofNat o0), (0, v1)]) (st' := [(0, 4), (2, Int.ofNat (o0 + 33)), (1, 0), (1, v1)]) rfl ?_
    refine jEv.ald (Or.inl ⟨rfl, rfl, rfl⟩) (show jfI 342 15 (.iaload) 1 [] = true by decide +kernel) (isX12_a45 ho0) H (fun c2 H => ?_)
    refine jEv.blk [(.i2l, 1, [])] (by decide +kernel) (pc' := 17) (ls' := [(2, Int.ofNat o0), (0, v1)]) (st' := [(1, (h (o0 + 33) (4 : Int).toNat)), (1, 0), (1, v1)]) rfl ?_
    refine jbind H (fun b3 Hb3 H => ?_)
    refine jEv.calS (st' := [(0, b3)]) (show jfI 342 17 (.invokestatic 275) 3 [3, 213, 3, 8176] = true by decide +kernel) rfl (Or.inl rfl) rfl (Nat.le_of_ble_eq_true rfl) ((t_M_isIn (T := T) (xs := xs)  Hb3).mono (jKle 1 hd)) rfl ?_
    refine jEv.if_ne (t := 29) (show jfI 342 20 (.ifCond .ne 9) 3 [] = true by decide +kernel) rfl H (fun c4 H => ?_) (fun c4 H => ?_)
    · exact jEv.weak (a := [(2, Int.ofNat o0), (3, 0)]) (jles.c1 (jles.c0 jles.nl)) (t_M_crash_p23 (T := T) (xs := xs) (y := y) hd ho0 H HY)
    · refine jEv.blk [(.aload_n 0, 1, [])] (by decide +kernel) (pc' := 30) (ls' := [(2, Int.ofNat o0), (0, v1)]) (st' := [(2, Int.ofNat o0)]) rfl ?_
      refine jbind H (fun b5 Hb5 H => ?_)
      refine jEv.calV (st' := []) (show jfI 342 30 (.invokevirtual 639) 3 [1, 334, 0, 10188] = true by decide +kernel) rfl (Or.inl rfl) rfl (Nat.le_of_ble_eq_true rfl) (by decide +kernel) (by decide) (isX12_L ho0) ((t_M_keeps (T := T) (xs := xs) ho0 Hb5).mono (jKle 1 hd)) rfl ?_
      refine jEv.blk [(.aload_n 0, 1, []), (.iload_n 1, 1, [])] (by decide +kernel) (pc' := 35) (ls' := [(2, Int.ofNat o0), (0, v1)]) (st' := [(0, v1), (2, Int.ofNat o0)]) rfl ?_
      refine jbind H (fun b6 Hb6 H => ?_)
      refine jEv.calV (st' := []) (show jfI 342 35 (.invokevirtual 613) 3 [1, 315, 1, 10111] = true by decide +kernel) rfl (Or.inl rfl) rfl (Nat.le_of_ble_eq_true rfl) (by decide +kernel) (by decide) (isX12_L ho0) ((t_M_crashes (T := T) (xs := xs) ho0 Hb6).mono (jKle 7 hd)) rfl ?_
      refine jEv.blk [(.aload_n 0, 1, [])] (by decide +kernel) (pc' := 39) (ls' := [(2, Int.ofNat o0), (0, v1)]) (st' := [(2, Int.ofNat o0)]) rfl ?_
      refine jEv.gfR (o' := (o0 + 33)) (show jfI 342 39 (.getfield 111) 3 [12, 45, 5, 0, 7081] = true by decide +kernel) (isX12_L ho0) (by decide) (isX12_r45 ho0) ?_
      refine jEv.blk [(.iconst 1, 1, [])] (by decide +kernel) (pc' := 43) (ls' := [(2, Int.ofNat o0), (0, v1)]) (st' := [(0, 1), (2, Int.ofNat (o0 + 33))]) rfl ?_
      refine jEv.ald (Or.inl ⟨rfl, rfl, rfl⟩) (show jfI 342 43 (.iaload) 1 [] = true by decide +kernel) (isX12_a45 ho0) H (fun c7 H => ?_)
      exact jEv.retI (show jfI 342 44 (.ireturn) 1 [] = true by decide +kernel) (by decide +kernel) (by cases H; exact HY)
def yk_M_giveUp_L40 (T : jT) (xs : List Int) (d : Nat) (y : jV × jS)  (o0 : Nat) (v2 : Int) : ((Int × Int × jH) ⊕ (Int × jH)) → Prop
  | .inl (v1, v3, h) => jEv xs d (343, 40, [(2, Int.ofNat o0), (0, v1), (0, v2), (0, v3)], []) (T, h) y
  | .inr o => ykI T y o
set_option maxRecDepth 20000 in
noncomputable def M_giveUp_B40  (h : jH) (o0 : Nat) (v1 : Int) (v2 : Int) (v3 : Int) : Option ((Int × Int × jH) ⊕ (Int × jH)) := Option.bind (M_segmentMany h o0) (fun b7 => (if v3 < b7 then (if v2 = 0 then (if (0 : Int) ≤ 5 ∧ (5 : Int).toNat < 2365 then (if v3 = (h (o0 + 33) (5 : Int).toNat) then (if (0 : Int) ≤ 6 ∧ (6 : Int).toNat < 2365 then Option.bind (M_zeroes h o0 v3 (h (o0 + 33) (6 : Int).toNat)) (fun b13 => some (.inl ((wr (v1 + b13.1)), (wr (v3 + 1)), b13.2))) else none) else Option.bind (M_isHead h o0 v3) (fun b14 => (if b14 = 0 then some (.inl (v1, (wr (v3 + 1)), h)) else Option.bind (M_serialOf h o0 v3) (fun b16 => (if (0 : Int) ≤ 7 ∧ (7 : Int).toNat < 2365 then (if (h (o0 + 33) (7 : Int).toNat) < b16 then Option.bind (M_zeroes h o0 v3 0) (fun b19 => some (.inl ((wr (v1 + b19.1)), (wr (v3 + 1)), b19.2))) else some (.inl (v1, (wr (v3 + 1)), h))) else none))))) else none) else Option.bind (M_zeroes h o0 v3 0) (fun b20 => some (.inl ((wr (v1 + b20.1)), (wr (v3 + 1)), b20.2)))) else Option.map Sum.inr ((if (0 : Int) ≤ 10 ∧ (10 : Int).toNat < 2365 then (if v2 = 0 then some (v1, (jup h (o0 + 33) (10 : Int).toNat 0)) else (if (0 : Int) ≤ 1 ∧ (1 : Int).toNat < 2365 then Option.bind (M_opensOnDisk (jup h (o0 + 33) (10 : Int).toNat 0) o0 0 ((jup h (o0 + 33) (10 : Int).toNat 0) (o0 + 33) (1 : Int).toNat)) (fun b24 => some (v1, b24)) else none)) else none))))
noncomputable def M_giveUp_L40  (h : jH) (o0 : Nat) (v1 : Int) (v2 : Int) (v3 : Int) : Option (Int × jH) := jloop (fun s : (Int × Int × jH) => M_giveUp_B40 s.2.2 o0 s.1 v2 s.2.1) (v1, v3, h)
set_option maxRecDepth 20000 in
theorem t_M_giveUp_B40 {T : jT} {xs : List Int} {d : Nat} {y : jV × jS} (hd : 3 ≤ d) {h : jH}  {o0 : Nat} {v1 : Int} {v2 : Int} {v3 : Int} {out : ((Int × Int × jH) ⊕ (Int × jH))} (ho0 : isX12 T o0) (H : M_giveUp_B40 h o0 v1 v2 v3 = some out) (HY : yk_M_giveUp_L40 T xs d y o0 v2 out) : jEv xs d (343, 40, [(2, Int.ofNat o0), (0, v1), (0, v2), (0, v3)], []) (T, h) y := by
  unfold M_giveUp_B40 at H
  refine jEv.blk [(.iload_n 3, 1, []), (.aload_n 0, 1, [])] (by decide +kernel) (pc' := 42) (ls' := [(2, Int.ofNat o0), (0, v1), (0, v2), (0, v3)]) (st' := [(2, Int.ofNat o0), (0, v3)]) rfl ?_
  refine jbind H (fun b7 Hb7 H => ?_)
  refine jEv.calV (st' := [(0, b7), (0, v3)]) (show jfI 343 42 (.invokevirtual 360) 3 [1, 254, 0, 9096] = true by decide +kernel) rfl (Or.inl rfl) rfl (Nat.le_of_ble_eq_true rfl) (by decide +kernel) (by decide) (isX12_L ho0) ((t_M_segmentMany (T := T) (xs := xs) ho0 Hb7).mono (jKle 1 hd)) rfl ?_
  refine jEv.ic_ge (t := 130) (show jfI 343 45 (.if_icmp .ge 85) 3 [] = true by decide +kernel) rfl H (fun c8 H => ?_) (fun c8 H => ?_)
  · refine jEv.blk [(.iload_n 2, 1, [])] (by decide +kernel) (pc' := 49) (ls' := [(2, Int.ofNat o0), (0, v1), (0, v2), (0, v3)]) (st' := [(0, v2)]) rfl ?_
    refine jEv.if_eq (t := 64) (show jfI 343 49 (.ifCond .eq 15) 3 [] = true by decide +kernel) rfl H (fun c9 H => ?_) (fun c9 H => ?_)
    · refine jEv.blk [(.iload_n 3, 1, []), (.aload_n 0, 1, [])] (by decide +kernel) (pc' := 66) (ls' := [(2, Int.ofNat o0), (0, v1), (0, v2), (0, v3)]) (st' := [(2, Int.ofNat o0), (0, v3)]) rfl ?_
      refine jEv.gfR (o' := (o0 + 33)) (show jfI 343 66 (.getfield 111) 3 [12, 45, 5, 0, 7081] = true by decide +kernel) (isX12_L ho0) (by decide) (isX12_r45 ho0) ?_
      refine jEv.blk [(.iconst 5, 1, [])] (by decide +kernel) (pc' := 70) (ls' := [(2, Int.ofNat o0), (0, v1), (0, v2), (0, v3)]) (st' := [(0, 5), (2, Int.ofNat (o0 + 33)), (0, v3)]) rfl ?_
      refine jEv.ald (Or.inl ⟨rfl, rfl, rfl⟩) (show jfI 343 70 (.iaload) 1 [] = true by decide +kernel) (isX12_a45 ho0) H (fun c10 H => ?_)
      refine jEv.ic_ne (t := 92) (show jfI 343 71 (.if_icmp .ne 21) 3 [] = true by decide +kernel) rfl H (fun c11 H => ?_) (fun c11 H => ?_)
      · refine jEv.blk [(.iload_n 1, 1, []), (.aload_n 0, 1, []), (.iload_n 3, 1, []), (.aload_n 0, 1, [])] (by decide +kernel) (pc' := 78) (ls' := [(2, Int.ofNat o0), (0, v1), (0, v2), (0, v3)]) (st' := [(2, Int.ofNat o0), (0, v3), (2, Int.ofNat o0), (0, v1)]) rfl ?_
        refine jEv.gfR (o' := (o0 + 33)) (show jfI 343 78 (.getfield 111) 3 [12, 45, 5, 0, 7081] = true by decide +kernel) (isX12_L ho0) (by decide) (isX12_r45 ho0) ?_
        refine jEv.blk [(.bipush 6, 2, [])] (by decide +kernel) (pc' := 83) (ls' := [(2, Int.ofNat o0), (0, v1), (0, v2), (0, v3)]) (st' := [(0, 6), (2, Int.ofNat (o0 + 33)), (0, v3), (2, Int.ofNat o0), (0, v1)]) rfl ?_
        refine jEv.ald (Or.inl ⟨rfl, rfl, rfl⟩) (show jfI 343 83 (.iaload) 1 [] = true by decide +kernel) (isX12_a45 ho0) H (fun c12 H => ?_)
        refine jbind H (fun b13 Hb13 H => ?_)
        refine jEv.calV (st' := [(0, b13.1), (0, v1)]) (show jfI 343 84 (.invokevirtual 561) 3 [1, 322, 2, 10139] = true by decide +kernel) rfl (Or.inl rfl) rfl (Nat.le_of_ble_eq_true rfl) (by decide +kernel) (by decide) (isX12_L ho0) ((t_M_zeroes (T := T) (xs := xs) ho0 Hb13).mono (jKle 2 hd)) rfl ?_
        refine jEv.blk [(.iadd, 1, []), (.istore_n 1, 1, [])] (by decide +kernel) (pc' := 89) (ls' := [(2, Int.ofNat o0), (0, (wr (v1 + b13.1))), (0, v2), (0, v3)]) (st' := []) rfl ?_
        refine jEv.goto (t := 124) (show jfI 343 89 (.goto 35) 3 [] = true by decide +kernel) rfl ?_
        refine jEv.blk [(.iinc 3 1, 3, [])] (by decide +kernel) (pc' := 127) (ls' := [(2, Int.ofNat o0), (0, (wr (v1 + b13.1))), (0, v2), (0, (wr (v3 + 1)))]) (st' := []) rfl ?_
        refine jEv.goto (t := 40) (show jfI 343 127 (.goto (-87)) 3 [] = true by decide +kernel) rfl ?_
        exact (by cases H; exact HY)
      · refine jEv.blk [(.aload_n 0, 1, []), (.iload_n 3, 1, [])] (by decide +kernel) (pc' := 94) (ls' := [(2, Int.ofNat o0), (0, v1), (0, v2), (0, v3)]) (st' := [(0, v3), (2, Int.ofNat o0)]) rfl ?_
        refine jbind H (fun b14 Hb14 H => ?_)
        refine jEv.calV (st' := [(0, b14)]) (show jfI 343 94 (.invokevirtual 535) 3 [1, 258, 1, 9112] = true by decide +kernel) rfl (Or.inl rfl) rfl (Nat.le_of_ble_eq_true rfl) (by decide +kernel) (by decide) (isX12_L ho0) ((t_M_isHead (T := T) (xs := xs) ho0 Hb14).mono (jKle 3 hd)) rfl ?_
        refine jEv.if_eq (t := 124) (show jfI 343 97 (.ifCond .eq 27) 3 [] = true by decide +kernel) rfl H (fun c15 H => ?_) (fun c15 H => ?_)
        · refine jEv.blk [(.iinc 3 1, 3, [])] (by decide +kernel) (pc' := 127) (ls' := [(2, Int.ofNat o0), (0, v1), (0, v2), (0, (wr (v3 + 1)))]) (st' := []) rfl ?_
          refine jEv.goto (t := 40) (show jfI 343 127 (.goto (-87)) 3 [] = true by decide +kernel) rfl ?_
          exact (by cases H; exact HY)
        · refine jEv.blk [(.aload_n 0, 1, []), (.iload_n 3, 1, [])] (by decide +kernel) (pc' := 102) (ls' := [(2, Int.ofNat o0), (0, v1), (0, v2), (0, v3)]) (st' := [(0, v3), (2, Int.ofNat o0)]) rfl ?_
          refine jbind H (fun b16 Hb16 H => ?_)
          refine jEv.calV (st' := [(0, b16)]) (show jfI 343 102 (.invokevirtual 497) 3 [1, 260, 1, 9120] = true by decide +kernel) rfl (Or.inl rfl) rfl (Nat.le_of_ble_eq_true rfl) (by decide +kernel) (by decide) (isX12_L ho0) ((t_M_serialOf (T := T) (xs := xs) ho0 Hb16).mono (jKle 2 hd)) rfl ?_
          refine jEv.blk [(.aload_n 0, 1, [])] (by decide +kernel) (pc' := 106) (ls' := [(2, Int.ofNat o0), (0, v1), (0, v2), (0, v3)]) (st' := [(2, Int.ofNat o0), (0, b16)]) rfl ?_
          refine jEv.gfR (o' := (o0 + 33)) (show jfI 343 106 (.getfield 111) 3 [12, 45, 5, 0, 7081] = true by decide +kernel) (isX12_L ho0) (by decide) (isX12_r45 ho0) ?_
          refine jEv.blk [(.bipush 7, 2, [])] (by decide +kernel) (pc' := 111) (ls' := [(2, Int.ofNat o0), (0, v1), (0, v2), (0, v3)]) (st' := [(0, 7), (2, Int.ofNat (o0 + 33)), (0, b16)]) rfl ?_
          refine jEv.ald (Or.inl ⟨rfl, rfl, rfl⟩) (show jfI 343 111 (.iaload) 1 [] = true by decide +kernel) (isX12_a45 ho0) H (fun c17 H => ?_)
          refine jEv.ic_le (t := 124) (show jfI 343 112 (.if_icmp .le 12) 3 [] = true by decide +kernel) rfl H (fun c18 H => ?_) (fun c18 H => ?_)
          · refine jEv.blk [(.iload_n 1, 1, []), (.aload_n 0, 1, []), (.iload_n 3, 1, []), (.iconst 0, 1, [])] (by decide +kernel) (pc' := 119) (ls' := [(2, Int.ofNat o0), (0, v1), (0, v2), (0, v3)]) (st' := [(0, 0), (0, v3), (2, Int.ofNat o0), (0, v1)]) rfl ?_
            refine jbind H (fun b19 Hb19 H => ?_)
            refine jEv.calV (st' := [(0, b19.1), (0, v1)]) (show jfI 343 119 (.invokevirtual 561) 3 [1, 322, 2, 10139] = true by decide +kernel) rfl (Or.inl rfl) rfl (Nat.le_of_ble_eq_true rfl) (by decide +kernel) (by decide) (isX12_L ho0) ((t_M_zeroes (T := T) (xs := xs) ho0 Hb19).mono (jKle 2 hd)) rfl ?_
            refine jEv.blk [(.iadd, 1, []), (.istore_n 1, 1, [])] (by decide +kernel) (pc' := 124) (ls' := [(2, Int.ofNat o0), (0, (wr (v1 + b19.1))), (0, v2), (0, v3)]) (st' := []) rfl ?_
            refine jEv.blk [(.iinc 3 1, 3, [])] (by decide +kernel) (pc' := 127) (ls' := [(2, Int.ofNat o0), (0, (wr (v1 + b19.1))), (0, v2), (0, (wr (v3 + 1)))]) (st' := []) rfl ?_
            refine jEv.goto (t := 40) (show jfI 343 127 (.goto (-87)) 3 [] = true by decide +kernel) rfl ?_
            exact (by cases H; exact HY)
          · refine jEv.blk [(.iinc 3 1, 3, [])] (by decide +kernel) (pc' := 127) (ls' := [(2, Int.ofNat o0), (0, v1), (0, v2), (0, (wr (v3 + 1)))]) (st' := []) rfl ?_
            refine jEv.goto (t := 40) (show jfI 343 127 (.goto (-87)) 3 [] = true by decide +kernel) rfl ?_
            exact (by cases H; exact HY)
    · refine jEv.blk [(.iload_n 1, 1, []), (.aload_n 0, 1, []), (.iload_n 3, 1, []), (.iconst 0, 1, [])] (by decide +kernel) (pc' := 56) (ls' := [(2, Int.ofNat o0), (0, v1), (0, v2), (0, v3)]) (st' := [(0, 0), (0, v3), (2, Int.ofNat o0), (0, v1)]) rfl ?_
      refine jbind H (fun b20 Hb20 H => ?_)
      refine jEv.calV (st' := [(0, b20.1), (0, v1)]) (show jfI 343 56 (.invokevirtual 561) 3 [1, 322, 2, 10139] = true by decide +kernel) rfl (Or.inl rfl) rfl (Nat.le_of_ble_eq_true rfl) (by decide +kernel) (by decide) (isX12_L ho0) ((t_M_zeroes (T := T) (xs := xs) ho0 Hb20).mono (jKle 2 hd)) rfl ?_
      refine jEv.blk [(.iadd, 1, []), (.istore_n 1, 1, [])] (by decide +kernel) (pc' := 61) (ls' := [(2, Int.ofNat o0), (0, (wr (v1 + b20.1))), (0, v2), (0, v3)]) (st' := []) rfl ?_
      refine jEv.goto (t := 124) (show jfI 343 61 (.goto 63) 3 [] = true by decide +kernel) rfl ?_
      refine jEv.blk [(.iinc 3 1, 3, [])] (by decide +kernel) (pc' := 127) (ls' := [(2, Int.ofNat o0), (0, (wr (v1 + b20.1))), (0, v2), (0, (wr (v3 + 1)))]) (st' := []) rfl ?_
      refine jEv.goto (t := 40) (show jfI 343 127 (.goto (-87)) 3 [] = true by decide +kernel) rfl ?_
      exact (by cases H; exact HY)
  · refine jmapr H HY (fun out H (HY : ykI T y out) => ?_)
    refine jEv.blk [(.aload_n 0, 1, [])] (by decide +kernel) (pc' := 131) (ls' := [(2, Int.ofNat o0), (0, v1), (0, v2), (0, v3)]) (st' := [(2, Int.ofNat o0)]) rfl ?_
    refine jEv.gfR (o' := (o0 + 33)) (show jfI 343 131 (.getfield 111) 3 [12, 45, 5, 0, 7081] = true by decide +kernel) (isX12_L ho0) (by decide) (isX12_r45 ho0) ?_
    refine jEv.blk [(.bipush 10, 2, []), (.iconst 0, 1, [])] (by decide +kernel) (pc' := 137) (ls' := [(2, Int.ofNat o0), (0, v1), (0, v2), (0, v3)]) (st' := [(0, 0), (0, 10), (2, Int.ofNat (o0 + 33))]) rfl ?_
    refine jEv.ast (Or.inl ⟨rfl, rfl, rfl⟩) (show jfI 343 137 (.iastore) 1 [] = true by decide +kernel) (isX12_a45 ho0) rfl H (fun c21 H => ?_)
    refine jEv.blk [(.iload_n 2, 1, [])] (by decide +kernel) (pc' := 139) (ls' := [(2, Int.ofNat o0), (0, v1), (0, v2), (0, v3)]) (st' := [(0, v2)]) rfl ?_
    refine jEv.if_eq (t := 153) (show jfI 343 139 (.ifCond .eq 14) 3 [] = true by decide +kernel) rfl H (fun c22 H => ?_) (fun c22 H => ?_)
    · refine jEv.blk [(.iload_n 1, 1, [])] (by decide +kernel) (pc' := 154) (ls' := [(2, Int.ofNat o0), (0, v1), (0, v2), (0, v3)]) (st' := [(0, v1)]) rfl ?_
      exact jEv.retI (show jfI 343 154 (.ireturn) 1 [] = true by decide +kernel) (by decide +kernel) (by cases H; exact HY)
    · refine jEv.blk [(.aload_n 0, 1, []), (.iconst 0, 1, []), (.aload_n 0, 1, [])] (by decide +kernel) (pc' := 145) (ls' := [(2, Int.ofNat o0), (0, v1), (0, v2), (0, v3)]) (st' := [(2, Int.ofNat o0), (0, 0), (2, Int.ofNat o0)]) rfl ?_
      refine jEv.gfR (o' := (o0 + 33)) (show jfI 343 145 (.getfield 111) 3 [12, 45, 5, 0, 7081] = true by decide +kernel) (isX12_L ho0) (by decide) (isX12_r45 ho0) ?_
      refine jEv.blk [(.iconst 1, 1, [])] (by decide +kernel) (pc' := 149) (ls' := [(2, Int.ofNat o0), (0, v1), (0, v2), (0, v3)]) (st' := [(0, 1), (2, Int.ofNat (o0 + 33)), (0, 0), (2, Int.ofNat o0)]) rfl ?_
      refine jEv.ald (Or.inl ⟨rfl, rfl, rfl⟩) (show jfI 343 149 (.iaload) 1 [] = true by decide +kernel) (isX12_a45 ho0) H (fun c23 H => ?_)
      refine jbind H (fun b24 Hb24 H => ?_)
      refine jEv.calV (st' := []) (show jfI 343 150 (.invokevirtual 344) 3 [1, 241, 2, 9046] = true by decide +kernel) rfl (Or.inl rfl) rfl (Nat.le_of_ble_eq_true rfl) (by decide +kernel) (by decide) (isX12_L ho0) ((t_M_opensOnDisk (T := T) (xs := xs) ho0 Hb24).mono (jKle 3 hd)) rfl ?_
      refine jEv.blk [(.iload_n 1, 1, [])] (by decide +kernel) (pc' := 154) (ls' := [(2, Int.ofNat o0), (0, v1), (0, v2), (0, v3)]) (st' := [(0, v1)]) rfl ?_
      exact jEv.retI (show jfI 343 154 (.ireturn) 1 [] = true by decide +kernel) (by decide +kernel) (by cases H; exact HY)
theorem t_M_giveUp_L40 {T : jT} {xs : List Int} {d : Nat} {y : jV × jS} (hd : 3 ≤ d) {h : jH}  {o0 : Nat} {v1 : Int} {v2 : Int} {v3 : Int} {out : (Int × jH)} (ho0 : isX12 T o0) (H : M_giveUp_L40 h o0 v1 v2 v3 = some out) (HY : ykI T y out) : jEv xs d (343, 40, [(2, Int.ofNat o0), (0, v1), (0, v2), (0, v3)], []) (T, h) y :=
  jloop_sound (G := fun s : (Int × Int × jH) => jEv xs d (343, 40, [(2, Int.ofNat o0), (0, s.1), (0, v2), (0, s.2.1)], []) (T, s.2.2) y) (K := yk_M_giveUp_L40 T xs d y o0 v2) (fun s out H HY => t_M_giveUp_B40 hd ho0 H HY) (fun s' hg => hg) (s := (v1, v3, h)) H HY
set_option maxRecDepth 20000 in
noncomputable def M_giveUp_p37  (h : jH) (o0 : Nat) (v1 : Int) (vs0 : Int) : Option (Int × jH) := M_giveUp_L40 h o0 v1 vs0 0
set_option maxRecDepth 20000 in
theorem t_M_giveUp_p37 {T : jT} {xs : List Int} {d : Nat} {y : jV × jS} (hd : 3 ≤ d) {h : jH}  {o0 : Nat} {v1 : Int} {vs0 : Int} {out : (Int × jH)} (ho0 : isX12 T o0) (H : M_giveUp_p37 h o0 v1 vs0 = some out) (HY : ykI T y out) : jEv xs d (343, 37, [(2, Int.ofNat o0), (0, v1), (3, 0), (3, 0)], [(0, vs0)]) (T, h) y := by
  unfold M_giveUp_p37 at H
  refine jEv.blk [(.istore_n 2, 1, []), (.iconst 0, 1, []), (.istore_n 3, 1, [])] (by decide +kernel) (pc' := 40) (ls' := [(2, Int.ofNat o0), (0, v1), (0, vs0), (0, 0)]) (st' := []) rfl ?_
  exact t_M_giveUp_L40 (T := T) (xs := xs) (y := y) hd ho0 H HY
set_option maxRecDepth 20000 in
noncomputable def M_giveUp  (h : jH) (o0 : Nat) : Option (Int × jH) := (if (0 : Int) ≤ 10 ∧ (10 : Int).toNat < 2365 then (if (h (o0 + 33) (10 : Int).toNat) = 0 then Option.bind (M_refuses h o0 4) (fun b3 => some (b3.1, b3.2)) else Option.bind (M_keeps h o0) (fun b4 => (if (0 : Int) ≤ 7 ∧ (7 : Int).toNat < 2365 then (if (b4 (o0 + 33) (7 : Int).toNat) = 0 then M_giveUp_p37 b4 o0 0 1 else M_giveUp_p37 b4 o0 0 0) else none))) else none)
set_option maxRecDepth 20000 in
theorem t_M_giveUp {T : jT} {xs : List Int} {h : jH}  {o0 : Nat} {out : (Int × jH)} (ho0 : isX12 T o0) (H : M_giveUp h o0 = some out) : jEm xs 4 343 [(2, Int.ofNat o0)] (T, h) ((0, out.1), (T, out.2)) := by
  have hd : 3 ≤ 3 := Nat.le_refl _
  obtain ⟨y, ey⟩ : ∃ y : jV × jS, y = ((0, out.1), (T, out.2)) := ⟨_, rfl⟩
  rw [← ey]
  have HY : ykI T y out := ey
  refine jEm.ent (n := 4) (by decide +kernel) (Nat.le_of_ble_eq_true rfl) ?_
  show jEv xs 3 (343, 0, [(2, Int.ofNat o0), (3, 0), (3, 0), (3, 0)], []) (T, h) y
  unfold M_giveUp at H
  refine jEv.blk [(.aload_n 0, 1, [])] (by decide +kernel) (pc' := 1) (ls' := [(2, Int.ofNat o0), (3, 0), (3, 0), (3, 0)]) (st' := [(2, Int.ofNat o0)]) rfl ?_
  refine jEv.gfR (o' := (o0 + 33)) (show jfI 343 1 (.getfield 111) 3 [12, 45, 5, 0, 7081] = true by decide +kernel) (isX12_L ho0) (by decide) (isX12_r45 ho0) ?_
  refine jEv.blk [(.bipush 10, 2, [])] (by decide +kernel) (pc' := 6) (ls' := [(2, Int.ofNat o0), (3, 0), (3, 0), (3, 0)]) (st' := [(0, 10), (2, Int.ofNat (o0 + 33))]) rfl ?_
  refine jEv.ald (Or.inl ⟨rfl, rfl, rfl⟩) (show jfI 343 6 (.iaload) 1 [] = true by decide +kernel) (isX12_a45 ho0) H (fun c1 H => ?_)
  refine jEv.if_ne (t := 16) (show jfI 343 7 (.ifCond .ne 9) 3 [] = true by decide +kernel) rfl H (fun c2 H => ?_) (fun c2 H => ?_)
  · refine jEv.blk [(.aload_n 0, 1, []), (.iconst 4, 1, [])] (by decide +kernel) (pc' := 12) (ls' := [(2, Int.ofNat o0), (3, 0), (3, 0), (3, 0)]) (st' := [(0, 4), (2, Int.ofNat o0)]) rfl ?_
    refine jbind H (fun b3 Hb3 H => ?_)
    refine jEv.calV (st' := [(0, b3.1)]) (show jfI 343 12 (.invokevirtual 333) 3 [1, 239, 1, 9038] = true by decide +kernel) rfl (Or.inl rfl) rfl (Nat.le_of_ble_eq_true rfl) (by decide +kernel) (by decide) (isX12_L ho0) ((t_M_refuses (T := T) (xs := xs) ho0 Hb3).mono (jKle 1 hd)) rfl ?_
    exact jEv.retI (show jfI 343 15 (.ireturn) 1 [] = true by decide +kernel) (by decide +kernel) (by cases H; exact HY)
  · refine jEv.blk [(.aload_n 0, 1, [])] (by decide +kernel) (pc' := 17) (ls' := [(2, Int.ofNat o0), (3, 0), (3, 0), (3, 0)]) (st' := [(2, Int.ofNat o0)]) rfl ?_
    refine jbind H (fun b4 Hb4 H => ?_)
    refine jEv.calV (st' := []) (show jfI 343 17 (.invokevirtual 639) 3 [1, 334, 0, 10188] = true by decide +kernel) rfl (Or.inl rfl) rfl (Nat.le_of_ble_eq_true rfl) (by decide +kernel) (by decide) (isX12_L ho0) ((t_M_keeps (T := T) (xs := xs) ho0 Hb4).mono (jKle 1 hd)) rfl ?_
    refine jEv.blk [(.iconst 0, 1, []), (.istore_n 1, 1, []), (.aload_n 0, 1, [])] (by decide +kernel) (pc' := 23) (ls' := [(2, Int.ofNat o0), (0, 0), (3, 0), (3, 0)]) (st' := [(2, Int.ofNat o0)]) rfl ?_
    refine jEv.gfR (o' := (o0 + 33)) (show jfI 343 23 (.getfield 111) 3 [12, 45, 5, 0, 7081] = true by decide +kernel) (isX12_L ho0) (by decide) (isX12_r45 ho0) ?_
    refine jEv.blk [(.bipush 7, 2, [])] (by decide +kernel) (pc' := 28) (ls' := [(2, Int.ofNat o0), (0, 0), (3, 0), (3, 0)]) (st' := [(0, 7), (2, Int.ofNat (o0 + 33))]) rfl ?_
    refine jEv.ald (Or.inl ⟨rfl, rfl, rfl⟩) (show jfI 343 28 (.iaload) 1 [] = true by decide +kernel) (isX12_a45 ho0) H (fun c5 H => ?_)
    refine jEv.if_ne (t := 36) (show jfI 343 29 (.ifCond .ne 7) 3 [] = true by decide +kernel) rfl H (fun c6 H => ?_) (fun c6 H => ?_)
    · refine jEv.blk [(.iconst 1, 1, [])] (by decide +kernel) (pc' := 33) (ls' := [(2, Int.ofNat o0), (0, 0), (3, 0), (3, 0)]) (st' := [(0, 1)]) rfl ?_
      refine jEv.goto (t := 37) (show jfI 343 33 (.goto 4) 3 [] = true by decide +kernel) rfl ?_
      exact t_M_giveUp_p37 (T := T) (xs := xs) (y := y) hd ho0 H HY
    · refine jEv.blk [(.iconst 0, 1, [])] (by decide +kernel) (pc' := 37) (ls' := [(2, Int.ofNat o0), (0, 0), (3, 0), (3, 0)]) (st' := [(0, 0)]) rfl ?_
      exact t_M_giveUp_p37 (T := T) (xs := xs) (y := y) hd ho0 H HY
set_option maxRecDepth 20000 in
noncomputable def M_flip_p24  (h : jH) (o0 : Nat) : Option (Int × jH) := Option.bind (M_refuses h o0 4) (fun b9 => some (b9.1, b9.2))
set_option maxRecDepth 20000 in
theorem t_M_flip_p24 {T : jT} {xs : List Int} {d : Nat} {y : jV × jS} (hd : 2 ≤ d) {h : jH}  {o0 : Nat} {out : (Int × jH)} (ho0 : isX12 T o0) (H : M_flip_p24 h o0 = some out) (HY : ykI T y out) : jEv xs d (344, 24, [(2, Int.ofNat o0), (3, 0), (3, 0)], []) (T, h) y := by
  unfold M_flip_p24 at H
  refine jEv.blk [(.aload_n 0, 1, []), (.iconst 4, 1, [])] (by decide +kernel) (pc' := 26) (ls' := [(2, Int.ofNat o0), (3, 0), (3, 0)]) (st' := [(0, 4), (2, Int.ofNat o0)]) rfl ?_
  refine jbind H (fun b9 Hb9 H => ?_)
  refine jEv.calV (st' := [(0, b9.1)]) (show jfI 344 26 (.invokevirtual 333) 3 [1, 239, 1, 9038] = true by decide +kernel) rfl (Or.inl rfl) rfl (Nat.le_of_ble_eq_true rfl) (by decide +kernel) (by decide) (isX12_L ho0) ((t_M_refuses (T := T) (xs := xs) ho0 Hb9).mono (jKle 1 hd)) rfl ?_
  exact jEv.retI (show jfI 344 29 (.ireturn) 1 [] = true by decide +kernel) (by decide +kernel) (by cases H; exact HY)
set_option maxRecDepth 20000 in
noncomputable def M_flip  (h : jH) (o0 : Nat) (v1 : Int) (v2 : Int) : Option (Int × jH) := Option.bind (M_isSegment h o0 v1) (fun b1 => (if b1 = 0 then M_flip_p24 h o0 else Option.bind (M_length h o0) (fun b3 => Option.bind (M_isIn v2 0 (wr (b3 - 1))) (fun b4 => (if b4 = 0 then M_flip_p24 h o0 else Option.bind (M_keeps h o0) (fun b6 => Option.bind (M_turns b6 o0 (wr ((wr (128 * v1)) + v2))) (fun b7 => Option.bind (M_diskAt b7 o0 v1 v2) (fun b8 => some (b8, b7)))))))))
set_option maxRecDepth 20000 in
theorem t_M_flip {T : jT} {xs : List Int} {h : jH}  {o0 : Nat} {v1 : Int} {v2 : Int} {out : (Int × jH)} (ho0 : isX12 T o0) (H : M_flip h o0 v1 v2 = some out) : jEm xs 3 344 [(2, Int.ofNat o0), (0, v1), (0, v2)] (T, h) ((0, out.1), (T, out.2)) := by
  have hd : 2 ≤ 2 := Nat.le_refl _
  obtain ⟨y, ey⟩ : ∃ y : jV × jS, y = ((0, out.1), (T, out.2)) := ⟨_, rfl⟩
  rw [← ey]
  have HY : ykI T y out := ey
  refine jEm.ent (n := 3) (by decide +kernel) (Nat.le_of_ble_eq_true rfl) ?_
  show jEv xs 2 (344, 0, [(2, Int.ofNat o0), (0, v1), (0, v2)], []) (T, h) y
  unfold M_flip at H
  refine jEv.blk [(.aload_n 0, 1, []), (.iload_n 1, 1, [])] (by decide +kernel) (pc' := 2) (ls' := [(2, Int.ofNat o0), (0, v1), (0, v2)]) (st' := [(0, v1), (2, Int.ofNat o0)]) rfl ?_
  refine jbind H (fun b1 Hb1 H => ?_)
  refine jEv.calV (st' := [(0, b1)]) (show jfI 344 2 (.invokevirtual 570) 3 [1, 257, 1, 9108] = true by decide +kernel) rfl (Or.inl rfl) rfl (Nat.le_of_ble_eq_true rfl) (by decide +kernel) (by decide) (isX12_L ho0) ((t_M_isSegment (T := T) (xs := xs) ho0 Hb1).mono (jKle 2 hd)) rfl ?_
  refine jEv.if_eq (t := 24) (show jfI 344 5 (.ifCond .eq 19) 3 [] = true by decide +kernel) rfl H (fun c2 H => ?_) (fun c2 H => ?_)
  · exact jEv.weak (a := [(2, Int.ofNat o0), (3, 0), (3, 0)]) (jles.c1 (jles.c0 (jles.c0 jles.nl))) (t_M_flip_p24 (T := T) (xs := xs) (y := y) hd ho0 H HY)
  · refine jEv.blk [(.iload_n 2, 1, []), (.i2l, 1, []), (.lconst 0, 1, []), (.aload_n 0, 1, [])] (by decide +kernel) (pc' := 12) (ls' := [(2, Int.ofNat o0), (0, v1), (0, v2)]) (st' := [(2, Int.ofNat o0), (1, 0), (1, v2)]) rfl ?_
    refine jbind H (fun b3 Hb3 H => ?_)
    refine jEv.calV (st' := [(0, b3), (1, 0), (1, v2)]) (show jfI 344 12 (.invokevirtual 402) 3 [1, 249, 0, 9076] = true by decide +kernel) rfl (Or.inl rfl) rfl (Nat.le_of_ble_eq_true rfl) (by decide +kernel) (by decide) (isX12_L ho0) ((t_M_length (T := T) (xs := xs) ho0 Hb3).mono (jKle 1 hd)) rfl ?_
    refine jEv.blk [(.iconst 1, 1, []), (.isub, 1, []), (.i2l, 1, [])] (by decide +kernel) (pc' := 18) (ls' := [(2, Int.ofNat o0), (0, v1), (0, v2)]) (st' := [(1, (wr (b3 - 1))), (1, 0), (1, v2)]) rfl ?_
    refine jbind H (fun b4 Hb4 H => ?_)
    refine jEv.calS (st' := [(0, b4)]) (show jfI 344 18 (.invokestatic 275) 3 [3, 213, 3, 8176] = true by decide +kernel) rfl (Or.inl rfl) rfl (Nat.le_of_ble_eq_true rfl) ((t_M_isIn (T := T) (xs := xs)  Hb4).mono (jKle 1 hd)) rfl ?_
    refine jEv.if_ne (t := 30) (show jfI 344 21 (.ifCond .ne 9) 3 [] = true by decide +kernel) rfl H (fun c5 H => ?_) (fun c5 H => ?_)
    · exact jEv.weak (a := [(2, Int.ofNat o0), (3, 0), (3, 0)]) (jles.c1 (jles.c0 (jles.c0 jles.nl))) (t_M_flip_p24 (T := T) (xs := xs) (y := y) hd ho0 H HY)
    · refine jEv.blk [(.aload_n 0, 1, [])] (by decide +kernel) (pc' := 31) (ls' := [(2, Int.ofNat o0), (0, v1), (0, v2)]) (st' := [(2, Int.ofNat o0)]) rfl ?_
      refine jbind H (fun b6 Hb6 H => ?_)
      refine jEv.calV (st' := []) (show jfI 344 31 (.invokevirtual 639) 3 [1, 334, 0, 10188] = true by decide +kernel) rfl (Or.inl rfl) rfl (Nat.le_of_ble_eq_true rfl) (by decide +kernel) (by decide) (isX12_L ho0) ((t_M_keeps (T := T) (xs := xs) ho0 Hb6).mono (jKle 1 hd)) rfl ?_
      refine jEv.blk [(.aload_n 0, 1, []), (.sipush 128, 3, []), (.iload_n 1, 1, []), (.imul, 1, []), (.iload_n 2, 1, []), (.iadd, 1, [])] (by decide +kernel) (pc' := 42) (ls' := [(2, Int.ofNat o0), (0, v1), (0, v2)]) (st' := [(0, (wr ((wr (128 * v1)) + v2))), (2, Int.ofNat o0)]) rfl ?_
      refine jbind H (fun b7 Hb7 H => ?_)
      refine jEv.calV (st' := []) (show jfI 344 42 (.invokevirtual 619) 3 [1, 325, 1, 10151] = true by decide +kernel) rfl (Or.inl rfl) rfl (Nat.le_of_ble_eq_true rfl) (by decide +kernel) (by decide) (isX12_L ho0) ((t_M_turns (T := T) (xs := xs) ho0 Hb7).mono (jKle 1 hd)) rfl ?_
      refine jEv.blk [(.aload_n 0, 1, []), (.iload_n 1, 1, []), (.iload_n 2, 1, [])] (by decide +kernel) (pc' := 48) (ls' := [(2, Int.ofNat o0), (0, v1), (0, v2)]) (st' := [(0, v2), (0, v1), (2, Int.ofNat o0)]) rfl ?_
      refine jbind H (fun b8 Hb8 H => ?_)
      refine jEv.calV (st' := [(0, b8)]) (show jfI 344 48 (.invokevirtual 494) 3 [1, 259, 2, 9116] = true by decide +kernel) rfl (Or.inl rfl) rfl (Nat.le_of_ble_eq_true rfl) (by decide +kernel) (by decide) (isX12_L ho0) ((t_M_diskAt (T := T) (xs := xs) ho0 Hb8).mono (jKle 1 hd)) rfl ?_
      exact jEv.retI (show jfI 344 51 (.ireturn) 1 [] = true by decide +kernel) (by decide +kernel) (by cases H; exact HY)
set_option maxRecDepth 20000 in
noncomputable def M_qKind_p76  (h : jH) (o0 : Nat) (vs0 : Int) : Option (Int × jH) := (if vs0 = 5 then Option.bind (M_asks h o0 (o0 + 48) 5) (fun b12 => some (vs0, b12)) else some (vs0, h))
set_option maxRecDepth 20000 in
theorem t_M_qKind_p76 {T : jT} {xs : List Int} {d : Nat} {y : jV × jS} (hd : 4 ≤ d) {h : jH}  {o0 : Nat} {vs0 : Int} {out : (Int × jH)} (ho0 : isX12 T o0) (H : M_qKind_p76 h o0 vs0 = some out) (HY : ykI T y out) : jEv xs d (346, 76, [(2, Int.ofNat o0), (3, 0)], [(0, vs0)]) (T, h) y := by
  unfold M_qKind_p76 at H
  refine jEv.blk [(.istore_n 1, 1, []), (.iload_n 1, 1, []), (.iconst 5, 1, [])] (by decide +kernel) (pc' := 79) (ls' := [(2, Int.ofNat o0), (0, vs0)]) (st' := [(0, 5), (0, vs0)]) rfl ?_
  refine jEv.ic_ne (t := 90) (show jfI 346 79 (.if_icmp .ne 11) 3 [] = true by decide +kernel) rfl H (fun c11 H => ?_) (fun c11 H => ?_)
  · refine jEv.blk [(.aload_n 0, 1, []), (.aload_n 0, 1, [])] (by decide +kernel) (pc' := 84) (ls' := [(2, Int.ofNat o0), (0, vs0)]) (st' := [(2, Int.ofNat o0), (2, Int.ofNat o0)]) rfl ?_
    refine jEv.gfR (o' := (o0 + 48)) (show jfI 346 84 (.getfield 165) 3 [12, 81, 5, 0, 7117] = true by decide +kernel) (isX12_L ho0) (by decide) (isX12_r81 ho0) ?_
    refine jbind H (fun b12 Hb12 H => ?_)
    refine jEv.calV (st' := []) (show jfI 346 87 (.invokevirtual 282) 3 [1, 205, 1, 8146] = true by decide +kernel) rfl (Or.inl rfl) rfl (Nat.le_of_ble_eq_true rfl) (by decide +kernel) (by decide) (isX12_L ho0) ((t_M_asks (T := T) (xs := xs) ho0 (isX12_a81 ho0) Hb12).mono (jKle 4 hd)) rfl ?_
    refine jEv.blk [(.iload_n 1, 1, [])] (by decide +kernel) (pc' := 91) (ls' := [(2, Int.ofNat o0), (0, vs0)]) (st' := [(0, vs0)]) rfl ?_
    exact jEv.retI (show jfI 346 91 (.ireturn) 1 [] = true by decide +kernel) (by decide +kernel) (by cases H; exact HY)
  · refine jEv.blk [(.iload_n 1, 1, [])] (by decide +kernel) (pc' := 91) (ls' := [(2, Int.ofNat o0), (0, vs0)]) (st' := [(0, vs0)]) rfl ?_
    exact jEv.retI (show jfI 346 91 (.ireturn) 1 [] = true by decide +kernel) (by decide +kernel) (by cases H; exact HY)
set_option maxRecDepth 20000 in
noncomputable def M_qKind  (h : jH) (o0 : Nat) : Option (Int × jH) := Option.bind (M_takes h o0 (o0 + 43) 5) (fun b1 => (if b1.1 = 0 then Option.bind (M_takes b1.2 o0 (o0 + 44) 4) (fun b3 => (if b3.1 = 0 then Option.bind (M_takes b3.2 o0 (o0 + 45) 5) (fun b5 => (if b5.1 = 0 then Option.bind (M_takes b5.2 o0 (o0 + 46) 5) (fun b7 => (if b7.1 = 0 then Option.bind (M_takes b7.2 o0 (o0 + 47) 4) (fun b9 => (if b9.1 = 0 then M_qKind_p76 b9.2 o0 5 else M_qKind_p76 b9.2 o0 4)) else M_qKind_p76 b7.2 o0 3)) else M_qKind_p76 b5.2 o0 2)) else M_qKind_p76 b3.2 o0 1)) else M_qKind_p76 b1.2 o0 0))
set_option maxRecDepth 20000 in
theorem t_M_qKind {T : jT} {xs : List Int} {h : jH}  {o0 : Nat} {out : (Int × jH)} (ho0 : isX12 T o0) (H : M_qKind h o0 = some out) : jEm xs 5 346 [(2, Int.ofNat o0)] (T, h) ((0, out.1), (T, out.2)) := by
  have hd : 4 ≤ 4 := Nat.le_refl _
  obtain ⟨y, ey⟩ : ∃ y : jV × jS, y = ((0, out.1), (T, out.2)) := ⟨_, rfl⟩
  rw [← ey]
  have HY : ykI T y out := ey
  refine jEm.ent (n := 2) (by decide +kernel) (Nat.le_of_ble_eq_true rfl) ?_
  show jEv xs 4 (346, 0, [(2, Int.ofNat o0), (3, 0)], []) (T, h) y
  unfold M_qKind at H
  refine jEv.blk [(.aload_n 0, 1, []), (.aload_n 0, 1, [])] (by decide +kernel) (pc' := 2) (ls' := [(2, Int.ofNat o0), (3, 0)]) (st' := [(2, Int.ofNat o0), (2, Int.ofNat o0)]) rfl ?_
  refine jEv.gfR (o' := (o0 + 43)) (show jfI 346 2 (.getfield 150) 3 [12, 76, 5, 0, 7112] = true by decide +kernel) (isX12_L ho0) (by decide) (isX12_r76 ho0) ?_
  refine jbind H (fun b1 Hb1 H => ?_)
  refine jEv.calV (st' := [(0, b1.1)]) (show jfI 346 5 (.invokevirtual 259) 3 [1, 206, 1, 8150] = true by decide +kernel) rfl (Or.inl rfl) rfl (Nat.le_of_ble_eq_true rfl) (by decide +kernel) (by decide) (isX12_L ho0) ((t_M_takes (T := T) (xs := xs) ho0 (isX12_a76 ho0) Hb1).mono (jKle 3 hd)) rfl ?_
  refine jEv.if_eq (t := 15) (show jfI 346 8 (.ifCond .eq 7) 3 [] = true by decide +kernel) rfl H (fun c2 H => ?_) (fun c2 H => ?_)
  · refine jEv.blk [(.aload_n 0, 1, []), (.aload_n 0, 1, [])] (by decide +kernel) (pc' := 17) (ls' := [(2, Int.ofNat o0), (3, 0)]) (st' := [(2, Int.ofNat o0), (2, Int.ofNat o0)]) rfl ?_
    refine jEv.gfR (o' := (o0 + 44)) (show jfI 346 17 (.getfield 153) 3 [12, 77, 5, 0, 7113] = true by decide +kernel) (isX12_L ho0) (by decide) (isX12_r77 ho0) ?_
    refine jbind H (fun b3 Hb3 H => ?_)
    refine jEv.calV (st' := [(0, b3.1)]) (show jfI 346 20 (.invokevirtual 259) 3 [1, 206, 1, 8150] = true by decide +kernel) rfl (Or.inl rfl) rfl (Nat.le_of_ble_eq_true rfl) (by decide +kernel) (by decide) (isX12_L ho0) ((t_M_takes (T := T) (xs := xs) ho0 (isX12_a77 ho0) Hb3).mono (jKle 3 hd)) rfl ?_
    refine jEv.if_eq (t := 30) (show jfI 346 23 (.ifCond .eq 7) 3 [] = true by decide +kernel) rfl H (fun c4 H => ?_) (fun c4 H => ?_)
    · refine jEv.blk [(.aload_n 0, 1, []), (.aload_n 0, 1, [])] (by decide +kernel) (pc' := 32) (ls' := [(2, Int.ofNat o0), (3, 0)]) (st' := [(2, Int.ofNat o0), (2, Int.ofNat o0)]) rfl ?_
      refine jEv.gfR (o' := (o0 + 45)) (show jfI 346 32 (.getfield 156) 3 [12, 78, 5, 0, 7114] = true by decide +kernel) (isX12_L ho0) (by decide) (isX12_r78 ho0) ?_
      refine jbind H (fun b5 Hb5 H => ?_)
      refine jEv.calV (st' := [(0, b5.1)]) (show jfI 346 35 (.invokevirtual 259) 3 [1, 206, 1, 8150] = true by decide +kernel) rfl (Or.inl rfl) rfl (Nat.le_of_ble_eq_true rfl) (by decide +kernel) (by decide) (isX12_L ho0) ((t_M_takes (T := T) (xs := xs) ho0 (isX12_a78 ho0) Hb5).mono (jKle 3 hd)) rfl ?_
      refine jEv.if_eq (t := 45) (show jfI 346 38 (.ifCond .eq 7) 3 [] = true by decide +kernel) rfl H (fun c6 H => ?_) (fun c6 H => ?_)
      · refine jEv.blk [(.aload_n 0, 1, []), (.aload_n 0, 1, [])] (by decide +kernel) (pc' := 47) (ls' := [(2, Int.ofNat o0), (3, 0)]) (st' := [(2, Int.ofNat o0), (2, Int.ofNat o0)]) rfl ?_
        refine jEv.gfR (o' := (o0 + 46)) (show jfI 346 47 (.getfield 159) 3 [12, 79, 5, 0, 7115] = true by decide +kernel) (isX12_L ho0) (by decide) (isX12_r79 ho0) ?_
        refine jbind H (fun b7 Hb7 H => ?_)
        refine jEv.calV (st' := [(0, b7.1)]) (show jfI 346 50 (.invokevirtual 259) 3 [1, 206, 1, 8150] = true by decide +kernel) rfl (Or.inl rfl) rfl (Nat.le_of_ble_eq_true rfl) (by decide +kernel) (by decide) (isX12_L ho0) ((t_M_takes (T := T) (xs := xs) ho0 (isX12_a79 ho0) Hb7).mono (jKle 3 hd)) rfl ?_
        refine jEv.if_eq (t := 60) (show jfI 346 53 (.ifCond .eq 7) 3 [] = true by decide +kernel) rfl H (fun c8 H => ?_) (fun c8 H => ?_)
        · refine jEv.blk [(.aload_n 0, 1, []), (.aload_n 0, 1, [])] (by decide +kernel) (pc' := 62) (ls' := [(2, Int.ofNat o0), (3, 0)]) (st' := [(2, Int.ofNat o0), (2, Int.ofNat o0)]) rfl ?_
          refine jEv.gfR (o' := (o0 + 47)) (show jfI 346 62 (.getfield 162) 3 [12, 80, 5, 0, 7116] = true by decide +kernel) (isX12_L ho0) (by decide) (isX12_r80 ho0) ?_
          refine jbind H (fun b9 Hb9 H => ?_)
          refine jEv.calV (st' := [(0, b9.1)]) (show jfI 346 65 (.invokevirtual 259) 3 [1, 206, 1, 8150] = true by decide +kernel) rfl (Or.inl rfl) rfl (Nat.le_of_ble_eq_true rfl) (by decide +kernel) (by decide) (isX12_L ho0) ((t_M_takes (T := T) (xs := xs) ho0 (isX12_a80 ho0) Hb9).mono (jKle 3 hd)) rfl ?_
          refine jEv.if_eq (t := 75) (show jfI 346 68 (.ifCond .eq 7) 3 [] = true by decide +kernel) rfl H (fun c10 H => ?_) (fun c10 H => ?_)
          · refine jEv.blk [(.iconst 5, 1, [])] (by decide +kernel) (pc' := 76) (ls' := [(2, Int.ofNat o0), (3, 0)]) (st' := [(0, 5)]) rfl ?_
            exact t_M_qKind_p76 (T := T) (xs := xs) (y := y) hd ho0 H HY
          · refine jEv.blk [(.iconst 4, 1, [])] (by decide +kernel) (pc' := 72) (ls' := [(2, Int.ofNat o0), (3, 0)]) (st' := [(0, 4)]) rfl ?_
            refine jEv.goto (t := 76) (show jfI 346 72 (.goto 4) 3 [] = true by decide +kernel) rfl ?_
            exact t_M_qKind_p76 (T := T) (xs := xs) (y := y) hd ho0 H HY
        · refine jEv.blk [(.iconst 3, 1, [])] (by decide +kernel) (pc' := 57) (ls' := [(2, Int.ofNat o0), (3, 0)]) (st' := [(0, 3)]) rfl ?_
          refine jEv.goto (t := 76) (show jfI 346 57 (.goto 19) 3 [] = true by decide +kernel) rfl ?_
          exact t_M_qKind_p76 (T := T) (xs := xs) (y := y) hd ho0 H HY
      · refine jEv.blk [(.iconst 2, 1, [])] (by decide +kernel) (pc' := 42) (ls' := [(2, Int.ofNat o0), (3, 0)]) (st' := [(0, 2)]) rfl ?_
        refine jEv.goto (t := 76) (show jfI 346 42 (.goto 34) 3 [] = true by decide +kernel) rfl ?_
        exact t_M_qKind_p76 (T := T) (xs := xs) (y := y) hd ho0 H HY
    · refine jEv.blk [(.iconst 1, 1, [])] (by decide +kernel) (pc' := 27) (ls' := [(2, Int.ofNat o0), (3, 0)]) (st' := [(0, 1)]) rfl ?_
      refine jEv.goto (t := 76) (show jfI 346 27 (.goto 49) 3 [] = true by decide +kernel) rfl ?_
      exact t_M_qKind_p76 (T := T) (xs := xs) (y := y) hd ho0 H HY
  · refine jEv.blk [(.iconst 0, 1, [])] (by decide +kernel) (pc' := 12) (ls' := [(2, Int.ofNat o0), (3, 0)]) (st' := [(0, 0)]) rfl ?_
    refine jEv.goto (t := 76) (show jfI 346 12 (.goto 64) 3 [] = true by decide +kernel) rfl ?_
    exact t_M_qKind_p76 (T := T) (xs := xs) (y := y) hd ho0 H HY
set_option maxRecDepth 20000 in
noncomputable def M_qOf_p90  (h : jH)  : Option Int := some 0
set_option maxRecDepth 20000 in
theorem t_M_qOf_p90 {T : jT} {xs : List Int} {d : Nat} {y : jV × jS} (hd : 1 ≤ d) {h : jH}   {out : Int}  (H : M_qOf_p90 h = some out) (HY : ykJp T h y out) : jEv xs d (348, 90, [(3, 0), (3, 0), (3, 0), (3, 0), (3, 0)], []) (T, h) y := by
  unfold M_qOf_p90 at H
  refine jEv.blk [(.lconst 0, 1, [])] (by decide +kernel) (pc' := 91) (ls' := [(3, 0), (3, 0), (3, 0), (3, 0), (3, 0)]) (st' := [(1, 0)]) rfl ?_
  exact jEv.retJ (show jfI 348 91 (.lreturn) 1 [] = true by decide +kernel) (by decide +kernel) (by cases H; exact HY)
set_option maxRecDepth 20000 in
noncomputable def M_qOf  (h : jH) (o0 : Nat) (v1 : Int) (v2 : Int) (v4 : Int) : Option Int := (if v1 = 0 then Option.bind (M_length h o0) (fun b2 => Option.bind (M_isIn v2 0 (wr (b2 - 1))) (fun b3 => (if b3 = 0 then some 0 else Option.bind (M_diskAt h o0 v4 (wr v2)) (fun b5 => some b5)))) else Option.bind (M_isIn v2 0 15) (fun b6 => (if b6 = 0 then M_qOf_p90 h else (if (0 : Int) ≤ (wr (144 + (wr v2))) ∧ ((wr (144 + (wr v2))) : Int).toNat < 2365 then (if (h (o0 + 33) ((wr (144 + (wr v2))) : Int).toNat) = (-1) then M_qOf_p90 h else (if (0 : Int) ≤ (wr (144 + (wr v2))) ∧ ((wr (144 + (wr v2))) : Int).toNat < 2365 then some (h (o0 + 33) ((wr (144 + (wr v2))) : Int).toNat) else none)) else none))))
set_option maxRecDepth 20000 in
theorem t_M_qOf {T : jT} {xs : List Int} {h : jH}  {o0 : Nat} {v1 : Int} {v2 : Int} {v4 : Int} {out : Int} (ho0 : isX12 T o0) (H : M_qOf h o0 v1 v2 v4 = some out) : jEm xs 2 348 [(2, Int.ofNat o0), (0, v1), (1, v2), (0, v4)] (T, h) ((1, out), (T, h)) := by
  have hd : 1 ≤ 1 := Nat.le_refl _
  obtain ⟨y, ey⟩ : ∃ y : jV × jS, y = ((1, out), (T, h)) := ⟨_, rfl⟩
  rw [← ey]
  have HY : ykJp T h y out := ey
  refine jEm.ent (n := 5) (by decide +kernel) (Nat.le_of_ble_eq_true rfl) ?_
  show jEv xs 1 (348, 0, [(2, Int.ofNat o0), (0, v1), (1, v2), (3, 0), (0, v4)], []) (T, h) y
  unfold M_qOf at H
  refine jEv.blk [(.iload_n 1, 1, [])] (by decide +kernel) (pc' := 1) (ls' := [(2, Int.ofNat o0), (0, v1), (1, v2), (3, 0), (0, v4)]) (st' := [(0, v1)]) rfl ?_
  refine jite H (fun c1 H => ?_) (fun c1 H => ?_)
  · refine jEv.lsw (off := 19) (t := 20) (show jfI 348 1 (.lookupswitch 48 #[(0, 19)]) 19 [] = true by decide +kernel) (by rw [c1]; rfl) rfl (by decide) ?_
    refine jEv.blk [(.lload_n 2, 1, []), (.lconst 0, 1, []), (.aload_n 0, 1, [])] (by decide +kernel) (pc' := 23) (ls' := [(2, Int.ofNat o0), (0, v1), (1, v2), (3, 0), (0, v4)]) (st' := [(2, Int.ofNat o0), (1, 0), (1, v2)]) rfl ?_
    refine jbind H (fun b2 Hb2 H => ?_)
    refine jEv.calV (st' := [(0, b2), (1, 0), (1, v2)]) (show jfI 348 23 (.invokevirtual 402) 3 [1, 249, 0, 9076] = true by decide +kernel) rfl (Or.inl rfl) rfl (Nat.le_of_ble_eq_true rfl) (by decide +kernel) (by decide) (isX12_L ho0) ((t_M_length (T := T) (xs := xs) ho0 Hb2).mono (jKle 1 hd)) rfl ?_
    refine jEv.blk [(.iconst 1, 1, []), (.isub, 1, []), (.i2l, 1, [])] (by decide +kernel) (pc' := 29) (ls' := [(2, Int.ofNat o0), (0, v1), (1, v2), (3, 0), (0, v4)]) (st' := [(1, (wr (b2 - 1))), (1, 0), (1, v2)]) rfl ?_
    refine jbind H (fun b3 Hb3 H => ?_)
    refine jEv.calS (st' := [(0, b3)]) (show jfI 348 29 (.invokestatic 275) 3 [3, 213, 3, 8176] = true by decide +kernel) rfl (Or.inl rfl) rfl (Nat.le_of_ble_eq_true rfl) ((t_M_isIn (T := T) (xs := xs)  Hb3).mono (jKle 1 hd)) rfl ?_
    refine jEv.if_eq (t := 47) (show jfI 348 32 (.ifCond .eq 15) 3 [] = true by decide +kernel) rfl H (fun c4 H => ?_) (fun c4 H => ?_)
    · refine jEv.blk [(.lconst 0, 1, [])] (by decide +kernel) (pc' := 48) (ls' := [(2, Int.ofNat o0), (0, v1), (1, v2), (3, 0), (0, v4)]) (st' := [(1, 0)]) rfl ?_
      exact jEv.retJ (show jfI 348 48 (.lreturn) 1 [] = true by decide +kernel) (by decide +kernel) (by cases H; exact HY)
    · refine jEv.blk [(.aload_n 0, 1, []), (.iload 4, 2, []), (.lload_n 2, 1, []), (.l2i, 1, [])] (by decide +kernel) (pc' := 40) (ls' := [(2, Int.ofNat o0), (0, v1), (1, v2), (3, 0), (0, v4)]) (st' := [(0, (wr v2)), (0, v4), (2, Int.ofNat o0)]) rfl ?_
      refine jbind H (fun b5 Hb5 H => ?_)
      refine jEv.calV (st' := [(0, b5)]) (show jfI 348 40 (.invokevirtual 494) 3 [1, 259, 2, 9116] = true by decide +kernel) rfl (Or.inl rfl) rfl (Nat.le_of_ble_eq_true rfl) (by decide +kernel) (by decide) (isX12_L ho0) ((t_M_diskAt (T := T) (xs := xs) ho0 Hb5).mono (jKle 1 hd)) rfl ?_
      refine jEv.blk [(.i2l, 1, [])] (by decide +kernel) (pc' := 44) (ls' := [(2, Int.ofNat o0), (0, v1), (1, v2), (3, 0), (0, v4)]) (st' := [(1, b5)]) rfl ?_
      refine jEv.goto (t := 48) (show jfI 348 44 (.goto 4) 3 [] = true by decide +kernel) rfl ?_
      exact jEv.retJ (show jfI 348 48 (.lreturn) 1 [] = true by decide +kernel) (by decide +kernel) (by cases H; exact HY)
  · refine jEv.lsw (off := 48) (t := 49) (show jfI 348 1 (.lookupswitch 48 #[(0, 19)]) 19 [] = true by decide +kernel) (by simp [Op.lookupswitch.offset, (Ne.symm c1 : _ ≠ _)]) rfl (by decide) ?_
    refine jEv.blk [(.lload_n 2, 1, []), (.lconst 0, 1, []), (.ldc2_w 578, 3, [1, 0, 15, 9178])] (by decide +kernel) (pc' := 54) (ls' := [(2, Int.ofNat o0), (0, v1), (1, v2), (3, 0), (0, v4)]) (st' := [(1, 15), (1, 0), (1, v2)]) rfl ?_
    refine jbind H (fun b6 Hb6 H => ?_)
    refine jEv.calS (st' := [(0, b6)]) (show jfI 348 54 (.invokestatic 275) 3 [3, 213, 3, 8176] = true by decide +kernel) rfl (Or.inl rfl) rfl (Nat.le_of_ble_eq_true rfl) ((t_M_isIn (T := T) (xs := xs)  Hb6).mono (jKle 1 hd)) rfl ?_
    refine jEv.if_eq (t := 90) (show jfI 348 57 (.ifCond .eq 33) 3 [] = true by decide +kernel) rfl H (fun c7 H => ?_) (fun c7 H => ?_)
    · exact jEv.weak (a := [(3, 0), (3, 0), (3, 0), (3, 0), (3, 0)]) (jles.c0 (jles.c0 (jles.c0 (jles.c0 (jles.c0 jles.nl))))) (t_M_qOf_p90 (T := T) (xs := xs) (y := y) hd H HY)
    · refine jEv.blk [(.aload_n 0, 1, [])] (by decide +kernel) (pc' := 61) (ls' := [(2, Int.ofNat o0), (0, v1), (1, v2), (3, 0), (0, v4)]) (st' := [(2, Int.ofNat o0)]) rfl ?_
      refine jEv.gfR (o' := (o0 + 33)) (show jfI 348 61 (.getfield 111) 3 [12, 45, 5, 0, 7081] = true by decide +kernel) (isX12_L ho0) (by decide) (isX12_r45 ho0) ?_
      refine jEv.blk [(.sipush 144, 3, []), (.lload_n 2, 1, []), (.l2i, 1, []), (.iadd, 1, [])] (by decide +kernel) (pc' := 70) (ls' := [(2, Int.ofNat o0), (0, v1), (1, v2), (3, 0), (0, v4)]) (st' := [(0, (wr (144 + (wr v2)))), (2, Int.ofNat (o0 + 33))]) rfl ?_
      refine jEv.ald (Or.inl ⟨rfl, rfl, rfl⟩) (show jfI 348 70 (.iaload) 1 [] = true by decide +kernel) (isX12_a45 ho0) H (fun c8 H => ?_)
      refine jEv.blk [(.iconst (-1), 1, [])] (by decide +kernel) (pc' := 72) (ls' := [(2, Int.ofNat o0), (0, v1), (1, v2), (3, 0), (0, v4)]) (st' := [(0, (-1)), (0, (h (o0 + 33) ((wr (144 + (wr v2))) : Int).toNat))]) rfl ?_
      refine jEv.ic_eq (t := 90) (show jfI 348 72 (.if_icmp .eq 18) 3 [] = true by decide +kernel) rfl H (fun c9 H => ?_) (fun c9 H => ?_)
      · exact jEv.weak (a := [(3, 0), (3, 0), (3, 0), (3, 0), (3, 0)]) (jles.c0 (jles.c0 (jles.c0 (jles.c0 (jles.c0 jles.nl))))) (t_M_qOf_p90 (T := T) (xs := xs) (y := y) hd H HY)
      · refine jEv.blk [(.aload_n 0, 1, [])] (by decide +kernel) (pc' := 76) (ls' := [(2, Int.ofNat o0), (0, v1), (1, v2), (3, 0), (0, v4)]) (st' := [(2, Int.ofNat o0)]) rfl ?_
        refine jEv.gfR (o' := (o0 + 33)) (show jfI 348 76 (.getfield 111) 3 [12, 45, 5, 0, 7081] = true by decide +kernel) (isX12_L ho0) (by decide) (isX12_r45 ho0) ?_
        refine jEv.blk [(.sipush 144, 3, []), (.lload_n 2, 1, []), (.l2i, 1, []), (.iadd, 1, [])] (by decide +kernel) (pc' := 85) (ls' := [(2, Int.ofNat o0), (0, v1), (1, v2), (3, 0), (0, v4)]) (st' := [(0, (wr (144 + (wr v2)))), (2, Int.ofNat (o0 + 33))]) rfl ?_
        refine jEv.ald (Or.inl ⟨rfl, rfl, rfl⟩) (show jfI 348 85 (.iaload) 1 [] = true by decide +kernel) (isX12_a45 ho0) H (fun c10 H => ?_)
        refine jEv.blk [(.i2l, 1, [])] (by decide +kernel) (pc' := 87) (ls' := [(2, Int.ofNat o0), (0, v1), (1, v2), (3, 0), (0, v4)]) (st' := [(1, (h (o0 + 33) ((wr (144 + (wr v2))) : Int).toNat))]) rfl ?_
        refine jEv.goto (t := 91) (show jfI 348 87 (.goto 4) 3 [] = true by decide +kernel) rfl ?_
        exact jEv.retJ (show jfI 348 91 (.lreturn) 1 [] = true by decide +kernel) (by decide +kernel) (by cases H; exact HY)
def yk_M_qTold_L7 (T : jT) (xs : List Int) (d : Nat) (y : jV × jS)  (o0 : Nat) (v1 : Int) : ((Int × jH) ⊕ (Int × jH)) → Prop
  | .inl (v2, h) => jEv xs d (347, 7, [(2, Int.ofNat o0), (0, v1), (0, v2), (3, 0)], []) (T, h) y
  | .inr o => ykJ T y o
set_option maxRecDepth 20000 in
noncomputable def M_qTold_B7  (h : jH) (o0 : Nat) (v1 : Int) (v2 : Int) : Option ((Int × jH) ⊕ (Int × jH)) := (if v2 < (h o0 99) then (if (0 : Int) ≤ v2 ∧ (v2 : Int).toNat < 1700 then (if (h (o0 + 65) (v2 : Int).toNat) < 1000 then (if (h (o0 + 65) (v2 : Int).toNat) < 60 then (if (h (o0 + 65) (v2 : Int).toNat) < 40 then (if (h (o0 + 65) (v2 : Int).toNat) = 13 then Option.bind (M_qPuts h o0 1) (fun b7 => some (.inl ((wr (v2 + 1)), b7))) else (if (h (o0 + 65) (v2 : Int).toNat) = 12 then (if (0 : Int) ≤ (wr ((h o0 105) - 1)) ∧ ((wr ((h o0 105) - 1)) : Int).toNat < 1700 then (if (0 : Int) ≤ (wr ((h o0 105) - 1)) ∧ ((wr ((h o0 105) - 1)) : Int).toNat < 1700 then some (.inl ((wr (v2 + 1)), (jup h (o0 + 67) ((wr ((h o0 105) - 1)) : Int).toNat (wl (1 - (h (o0 + 67) ((wr ((h o0 105) - 1)) : Int).toNat)))))) else none) else none) else Option.bind (M_qJoins h o0 (h (o0 + 65) (v2 : Int).toNat)) (fun b11 => some (.inl ((wr (v2 + 1)), b11))))) else Option.bind (M_qPartOf h o0 (wr ((h (o0 + 65) (v2 : Int).toNat) - 40)) v1) (fun b12 => Option.bind (M_qClip b12.1) (fun b13 => Option.bind (M_qPuts b12.2 o0 b13) (fun b14 => some (.inl ((wr (v2 + 1)), b14)))))) else (if (0 : Int) ≤ (wr ((h o0 105) - 1)) ∧ ((wr ((h o0 105) - 1)) : Int).toNat < 1700 then Option.bind (M_qOf h o0 (wr ((h (o0 + 65) (v2 : Int).toNat) - 60)) (h (o0 + 67) ((wr ((h o0 105) - 1)) : Int).toNat) v1) (fun b16 => Option.bind (M_qClip b16) (fun b17 => (if (0 : Int) ≤ (wr ((h o0 105) - 1)) ∧ ((wr ((h o0 105) - 1)) : Int).toNat < 1700 then some (.inl ((wr (v2 + 1)), (jup h (o0 + 67) ((wr ((h o0 105) - 1)) : Int).toNat b17))) else none))) else none)) else Option.bind (M_qPuts h o0 (wr ((h (o0 + 65) (v2 : Int).toNat) - 1000))) (fun b19 => some (.inl ((wr (v2 + 1)), b19)))) else none) else Option.map Sum.inr ((if (0 : Int) ≤ 0 ∧ (0 : Int).toNat < 1700 then some ((h (o0 + 67) (0 : Int).toNat), h) else none)))
noncomputable def M_qTold_L7  (h : jH) (o0 : Nat) (v1 : Int) (v2 : Int) : Option (Int × jH) := jloop (fun s : (Int × jH) => M_qTold_B7 s.2 o0 v1 s.1) (v2, h)
set_option maxRecDepth 20000 in
theorem t_M_qTold_B7 {T : jT} {xs : List Int} {d : Nat} {y : jV × jS} (hd : 6 ≤ d) {h : jH}  {o0 : Nat} {v1 : Int} {v2 : Int} {out : ((Int × jH) ⊕ (Int × jH))} (ho0 : isX12 T o0) (H : M_qTold_B7 h o0 v1 v2 = some out) (HY : yk_M_qTold_L7 T xs d y o0 v1 out) : jEv xs d (347, 7, [(2, Int.ofNat o0), (0, v1), (0, v2), (3, 0)], []) (T, h) y := by
  unfold M_qTold_B7 at H
  refine jEv.blk [(.iload_n 2, 1, []), (.aload_n 0, 1, [])] (by decide +kernel) (pc' := 9) (ls' := [(2, Int.ofNat o0), (0, v1), (0, v2), (3, 0)]) (st' := [(2, Int.ofNat o0), (0, v2)]) rfl ?_
  refine jEv.gfI (show jfI 347 9 (.getfield 294) 3 [12, 99, 0, 0, 7135] = true by decide +kernel) (isX12_L ho0) (by decide) ?_
  refine jEv.ic_ge (t := 168) (show jfI 347 12 (.if_icmp .ge 156) 3 [] = true by decide +kernel) rfl H (fun c1 H => ?_) (fun c1 H => ?_)
  · refine jEv.blk [(.aload_n 0, 1, [])] (by decide +kernel) (pc' := 16) (ls' := [(2, Int.ofNat o0), (0, v1), (0, v2), (3, 0)]) (st' := [(2, Int.ofNat o0)]) rfl ?_
    refine jEv.gfR (o' := (o0 + 65)) (show jfI 347 16 (.getfield 216) 3 [12, 98, 5, 0, 7134] = true by decide +kernel) (isX12_L ho0) (by decide) (isX12_r98 ho0) ?_
    refine jEv.blk [(.iload_n 2, 1, [])] (by decide +kernel) (pc' := 20) (ls' := [(2, Int.ofNat o0), (0, v1), (0, v2), (3, 0)]) (st' := [(0, v2), (2, Int.ofNat (o0 + 65))]) rfl ?_
    refine jEv.ald (Or.inl ⟨rfl, rfl, rfl⟩) (show jfI 347 20 (.iaload) 1 [] = true by decide +kernel) (isX12_a98 ho0) H (fun c2 H => ?_)
    refine jEv.blk [(.istore_n 3, 1, []), (.iload_n 3, 1, []), (.sipush 1000, 3, [])] (by decide +kernel) (pc' := 26) (ls' := [(2, Int.ofNat o0), (0, v1), (0, v2), (0, (h (o0 + 65) (v2 : Int).toNat))]) (st' := [(0, 1000), (0, (h (o0 + 65) (v2 : Int).toNat))]) rfl ?_
    refine jEv.ic_lt (t := 42) (show jfI 347 26 (.if_icmp .lt 16) 3 [] = true by decide +kernel) rfl H (fun c3 H => ?_) (fun c3 H => ?_)
    · refine jEv.blk [(.iload_n 3, 1, []), (.bipush 60, 2, [])] (by decide +kernel) (pc' := 45) (ls' := [(2, Int.ofNat o0), (0, v1), (0, v2), (0, (h (o0 + 65) (v2 : Int).toNat))]) (st' := [(0, 60), (0, (h (o0 + 65) (v2 : Int).toNat))]) rfl ?_
      refine jEv.ic_lt (t := 85) (show jfI 347 45 (.if_icmp .lt 40) 3 [] = true by decide +kernel) rfl H (fun c4 H => ?_) (fun c4 H => ?_)
      · refine jEv.blk [(.iload_n 3, 1, []), (.bipush 40, 2, [])] (by decide +kernel) (pc' := 88) (ls' := [(2, Int.ofNat o0), (0, v1), (0, v2), (0, (h (o0 + 65) (v2 : Int).toNat))]) (st' := [(0, 40), (0, (h (o0 + 65) (v2 : Int).toNat))]) rfl ?_
        refine jEv.ic_lt (t := 110) (show jfI 347 88 (.if_icmp .lt 22) 3 [] = true by decide +kernel) rfl H (fun c5 H => ?_) (fun c5 H => ?_)
        · refine jEv.blk [(.iload_n 3, 1, []), (.bipush 13, 2, [])] (by decide +kernel) (pc' := 113) (ls' := [(2, Int.ofNat o0), (0, v1), (0, v2), (0, (h (o0 + 65) (v2 : Int).toNat))]) (st' := [(0, 13), (0, (h (o0 + 65) (v2 : Int).toNat))]) rfl ?_
          refine jEv.ic_ne (t := 124) (show jfI 347 113 (.if_icmp .ne 11) 3 [] = true by decide +kernel) rfl H (fun c6 H => ?_) (fun c6 H => ?_)
          · refine jEv.blk [(.aload_n 0, 1, []), (.lconst 1, 1, [])] (by decide +kernel) (pc' := 118) (ls' := [(2, Int.ofNat o0), (0, v1), (0, v2), (0, (h (o0 + 65) (v2 : Int).toNat))]) (st' := [(1, 1), (2, Int.ofNat o0)]) rfl ?_
            refine jbind H (fun b7 Hb7 H => ?_)
            refine jEv.calV (st' := []) (show jfI 347 118 (.invokevirtual 369) 3 [1, 293, 1, 10018] = true by decide +kernel) rfl (Or.inl rfl) rfl (Nat.le_of_ble_eq_true rfl) (by decide +kernel) (by decide) (isX12_L ho0) ((t_M_qPuts (T := T) (xs := xs) ho0 Hb7).mono (jKle 1 hd)) rfl ?_
            refine jEv.goto (t := 162) (show jfI 347 121 (.goto 41) 3 [] = true by decide +kernel) rfl ?_
            refine jEv.blk [(.iinc 2 1, 3, [])] (by decide +kernel) (pc' := 165) (ls' := [(2, Int.ofNat o0), (0, v1), (0, (wr (v2 + 1))), (0, (h (o0 + 65) (v2 : Int).toNat))]) (st' := []) rfl ?_
            refine jEv.goto (t := 7) (show jfI 347 165 (.goto (-158)) 3 [] = true by decide +kernel) rfl ?_
            exact jEv.weak (a := [(2, Int.ofNat o0), (0, v1), (0, (wr (v2 + 1))), (3, 0)]) (jles.c1 (jles.c1 (jles.c1 (jles.c0 jles.nl)))) ((by cases H; exact HY))
          · refine jEv.blk [(.iload_n 3, 1, []), (.bipush 12, 2, [])] (by decide +kernel) (pc' := 127) (ls' := [(2, Int.ofNat o0), (0, v1), (0, v2), (0, (h (o0 + 65) (v2 : Int).toNat))]) (st' := [(0, 12), (0, (h (o0 + 65) (v2 : Int).toNat))]) rfl ?_
            refine jEv.ic_ne (t := 157) (show jfI 347 127 (.if_icmp .ne 30) 3 [] = true by decide +kernel) rfl H (fun c8 H => ?_) (fun c8 H => ?_)
            · refine jEv.blk [(.aload_n 0, 1, [])] (by decide +kernel) (pc' := 131) (ls' := [(2, Int.ofNat o0), (0, v1), (0, v2), (0, (h (o0 + 65) (v2 : Int).toNat))]) (st' := [(2, Int.ofNat o0)]) rfl ?_
              refine jEv.gfR (o' := (o0 + 67)) (show jfI 347 131 (.getfield 222) 3 [12, 104, 5, 0, 7140] = true by decide +kernel) (isX12_L ho0) (by decide) (isX12_r104 ho0) ?_
              refine jEv.blk [(.aload_n 0, 1, [])] (by decide +kernel) (pc' := 135) (ls' := [(2, Int.ofNat o0), (0, v1), (0, v2), (0, (h (o0 + 65) (v2 : Int).toNat))]) (st' := [(2, Int.ofNat o0), (2, Int.ofNat (o0 + 67))]) rfl ?_
              refine jEv.gfI (show jfI 347 135 (.getfield 366) 3 [12, 105, 0, 0, 7141] = true by decide +kernel) (isX12_L ho0) (by decide) ?_
              refine jEv.blk [(.iconst 1, 1, []), (.isub, 1, []), (.lconst 1, 1, []), (.aload_n 0, 1, [])] (by decide +kernel) (pc' := 142) (ls' := [(2, Int.ofNat o0), (0, v1), (0, v2), (0, (h (o0 + 65) (v2 : Int).toNat))]) (st' := [(2, Int.ofNat o0), (1, 1), (0, (wr ((h o0 105) - 1))), (2, Int.ofNat (o0 + 67))]) rfl ?_
              refine jEv.gfR (o' := (o0 + 67)) (show jfI 347 142 (.getfield 222) 3 [12, 104, 5, 0, 7140] = true by decide +kernel) (isX12_L ho0) (by decide) (isX12_r104 ho0) ?_
              refine jEv.blk [(.aload_n 0, 1, [])] (by decide +kernel) (pc' := 146) (ls' := [(2, Int.ofNat o0), (0, v1), (0, v2), (0, (h (o0 + 65) (v2 : Int).toNat))]) (st' := [(2, Int.ofNat o0), (2, Int.ofNat (o0 + 67)), (1, 1), (0, (wr ((h o0 105) - 1))), (2, Int.ofNat (o0 + 67))]) rfl ?_
              refine jEv.gfI (show jfI 347 146 (.getfield 366) 3 [12, 105, 0, 0, 7141] = true by decide +kernel) (isX12_L ho0) (by decide) ?_
              refine jEv.blk [(.iconst 1, 1, []), (.isub, 1, [])] (by decide +kernel) (pc' := 151) (ls' := [(2, Int.ofNat o0), (0, v1), (0, v2), (0, (h (o0 + 65) (v2 : Int).toNat))]) (st' := [(0, (wr ((h o0 105) - 1))), (2, Int.ofNat (o0 + 67)), (1, 1), (0, (wr ((h o0 105) - 1))), (2, Int.ofNat (o0 + 67))]) rfl ?_
              refine jEv.ald (Or.inr (Or.inl ⟨rfl, rfl, rfl⟩)) (show jfI 347 151 (.laload) 1 [] = true by decide +kernel) (isX12_a104 ho0) H (fun c9 H => ?_)
              refine jEv.blk [(.lsub, 1, [])] (by decide +kernel) (pc' := 153) (ls' := [(2, Int.ofNat o0), (0, v1), (0, v2), (0, (h (o0 + 65) (v2 : Int).toNat))]) (st' := [(1, (wl (1 - (h (o0 + 67) ((wr ((h o0 105) - 1)) : Int).toNat)))), (0, (wr ((h o0 105) - 1))), (2, Int.ofNat (o0 + 67))]) rfl ?_
              refine jEv.ast (Or.inr (Or.inl ⟨rfl, rfl, rfl⟩)) (show jfI 347 153 (.lastore) 1 [] = true by decide +kernel) (isX12_a104 ho0) rfl H (fun c10 H => ?_)
              refine jEv.goto (t := 162) (show jfI 347 154 (.goto 8) 3 [] = true by decide +kernel) rfl ?_
              refine jEv.blk [(.iinc 2 1, 3, [])] (by decide +kernel) (pc' := 165) (ls' := [(2, Int.ofNat o0), (0, v1), (0, (wr (v2 + 1))), (0, (h (o0 + 65) (v2 : Int).toNat))]) (st' := []) rfl ?_
              refine jEv.goto (t := 7) (show jfI 347 165 (.goto (-158)) 3 [] = true by decide +kernel) rfl ?_
              exact jEv.weak (a := [(2, Int.ofNat o0), (0, v1), (0, (wr (v2 + 1))), (3, 0)]) (jles.c1 (jles.c1 (jles.c1 (jles.c0 jles.nl)))) ((by cases H; exact HY))
            · refine jEv.blk [(.aload_n 0, 1, []), (.iload_n 3, 1, [])] (by decide +kernel) (pc' := 159) (ls' := [(2, Int.ofNat o0), (0, v1), (0, v2), (0, (h (o0 + 65) (v2 : Int).toNat))]) (st' := [(0, (h (o0 + 65) (v2 : Int).toNat)), (2, Int.ofNat o0)]) rfl ?_
              refine jbind H (fun b11 Hb11 H => ?_)
              refine jEv.calV (st' := []) (show jfI 347 159 (.invokevirtual 377) 3 [1, 295, 1, 10026] = true by decide +kernel) rfl (Or.inl rfl) rfl (Nat.le_of_ble_eq_true rfl) (by decide +kernel) (by decide) (isX12_L ho0) ((t_M_qJoins (T := T) (xs := xs) ho0 Hb11).mono (jKle 2 hd)) rfl ?_
              refine jEv.blk [(.iinc 2 1, 3, [])] (by decide +kernel) (pc' := 165) (ls' := [(2, Int.ofNat o0), (0, v1), (0, (wr (v2 + 1))), (0, (h (o0 + 65) (v2 : Int).toNat))]) (st' := []) rfl ?_
              refine jEv.goto (t := 7) (show jfI 347 165 (.goto (-158)) 3 [] = true by decide +kernel) rfl ?_
              exact jEv.weak (a := [(2, Int.ofNat o0), (0, v1), (0, (wr (v2 + 1))), (3, 0)]) (jles.c1 (jles.c1 (jles.c1 (jles.c0 jles.nl)))) ((by cases H; exact HY))
        · refine jEv.blk [(.aload_n 0, 1, []), (.aload_n 0, 1, []), (.iload_n 3, 1, []), (.bipush 40, 2, []), (.isub, 1, []), (.iload_n 1, 1, [])] (by decide +kernel) (pc' := 98) (ls' := [(2, Int.ofNat o0), (0, v1), (0, v2), (0, (h (o0 + 65) (v2 : Int).toNat))]) (st' := [(0, v1), (0, (wr ((h (o0 + 65) (v2 : Int).toNat) - 40))), (2, Int.ofNat o0), (2, Int.ofNat o0)]) rfl ?_
          refine jbind H (fun b12 Hb12 H => ?_)
          refine jEv.calV (st' := [(1, b12.1), (2, Int.ofNat o0)]) (show jfI 347 98 (.invokevirtual 373) 3 [1, 294, 2, 10022] = true by decide +kernel) rfl (Or.inl rfl) rfl (Nat.le_of_ble_eq_true rfl) (by decide +kernel) (by decide) (isX12_L ho0) ((t_M_qPartOf (T := T) (xs := xs) ho0 Hb12).mono (jKle 6 hd)) rfl ?_
          refine jbind H (fun b13 Hb13 H => ?_)
          refine jEv.calS (st' := [(1, b13), (2, Int.ofNat o0)]) (show jfI 347 101 (.invokestatic 714) 3 [3, 296, 1, 10030] = true by decide +kernel) rfl (Or.inl rfl) rfl (Nat.le_of_ble_eq_true rfl) ((t_M_qClip (T := T) (xs := xs)  Hb13).mono (jKle 1 hd)) rfl ?_
          refine jbind H (fun b14 Hb14 H => ?_)
          refine jEv.calV (st' := []) (show jfI 347 104 (.invokevirtual 369) 3 [1, 293, 1, 10018] = true by decide +kernel) rfl (Or.inl rfl) rfl (Nat.le_of_ble_eq_true rfl) (by decide +kernel) (by decide) (isX12_L ho0) ((t_M_qPuts (T := T) (xs := xs) ho0 Hb14).mono (jKle 1 hd)) rfl ?_
          refine jEv.goto (t := 162) (show jfI 347 107 (.goto 55) 3 [] = true by decide +kernel) rfl ?_
          refine jEv.blk [(.iinc 2 1, 3, [])] (by decide +kernel) (pc' := 165) (ls' := [(2, Int.ofNat o0), (0, v1), (0, (wr (v2 + 1))), (0, (h (o0 + 65) (v2 : Int).toNat))]) (st' := []) rfl ?_
          refine jEv.goto (t := 7) (show jfI 347 165 (.goto (-158)) 3 [] = true by decide +kernel) rfl ?_
          exact jEv.weak (a := [(2, Int.ofNat o0), (0, v1), (0, (wr (v2 + 1))), (3, 0)]) (jles.c1 (jles.c1 (jles.c1 (jles.c0 jles.nl)))) ((by cases H; exact HY))
      · refine jEv.blk [(.aload_n 0, 1, [])] (by decide +kernel) (pc' := 49) (ls' := [(2, Int.ofNat o0), (0, v1), (0, v2), (0, (h (o0 + 65) (v2 : Int).toNat))]) (st' := [(2, Int.ofNat o0)]) rfl ?_
        refine jEv.gfR (o' := (o0 + 67)) (show jfI 347 49 (.getfield 222) 3 [12, 104, 5, 0, 7140] = true by decide +kernel) (isX12_L ho0) (by decide) (isX12_r104 ho0) ?_
        refine jEv.blk [(.aload_n 0, 1, [])] (by decide +kernel) (pc' := 53) (ls' := [(2, Int.ofNat o0), (0, v1), (0, v2), (0, (h (o0 + 65) (v2 : Int).toNat))]) (st' := [(2, Int.ofNat o0), (2, Int.ofNat (o0 + 67))]) rfl ?_
        refine jEv.gfI (show jfI 347 53 (.getfield 366) 3 [12, 105, 0, 0, 7141] = true by decide +kernel) (isX12_L ho0) (by decide) ?_
        refine jEv.blk [(.iconst 1, 1, []), (.isub, 1, []), (.aload_n 0, 1, []), (.iload_n 3, 1, []), (.bipush 60, 2, []), (.isub, 1, []), (.aload_n 0, 1, [])] (by decide +kernel) (pc' := 64) (ls' := [(2, Int.ofNat o0), (0, v1), (0, v2), (0, (h (o0 + 65) (v2 : Int).toNat))]) (st' := [(2, Int.ofNat o0), (0, (wr ((h (o0 + 65) (v2 : Int).toNat) - 60))), (2, Int.ofNat o0), (0, (wr ((h o0 105) - 1))), (2, Int.ofNat (o0 + 67))]) rfl ?_
        refine jEv.gfR (o' := (o0 + 67)) (show jfI 347 64 (.getfield 222) 3 [12, 104, 5, 0, 7140] = true by decide +kernel) (isX12_L ho0) (by decide) (isX12_r104 ho0) ?_
        refine jEv.blk [(.aload_n 0, 1, [])] (by decide +kernel) (pc' := 68) (ls' := [(2, Int.ofNat o0), (0, v1), (0, v2), (0, (h (o0 + 65) (v2 : Int).toNat))]) (st' := [(2, Int.ofNat o0), (2, Int.ofNat (o0 + 67)), (0, (wr ((h (o0 + 65) (v2 : Int).toNat) - 60))), (2, Int.ofNat o0), (0, (wr ((h o0 105) - 1))), (2, Int.ofNat (o0 + 67))]) rfl ?_
        refine jEv.gfI (show jfI 347 68 (.getfield 366) 3 [12, 105, 0, 0, 7141] = true by decide +kernel) (isX12_L ho0) (by decide) ?_
        refine jEv.blk [(.iconst 1, 1, []), (.isub, 1, [])] (by decide +kernel) (pc' := 73) (ls' := [(2, Int.ofNat o0), (0, v1), (0, v2), (0, (h (o0 + 65) (v2 : Int).toNat))]) (st' := [(0, (wr ((h o0 105) - 1))), (2, Int.ofNat (o0 + 67)), (0, (wr ((h (o0 + 65) (v2 : Int).toNat) - 60))), (2, Int.ofNat o0), (0, (wr ((h o0 105) - 1))), (2, Int.ofNat (o0 + 67))]) rfl ?_
        refine jEv.ald (Or.inr (Or.inl ⟨rfl, rfl, rfl⟩)) (show jfI 347 73 (.laload) 1 [] = true by decide +kernel) (isX12_a104 ho0) H (fun c15 H => ?_)
        refine jEv.blk [(.iload_n 1, 1, [])] (by decide +kernel) (pc' := 75) (ls' := [(2, Int.ofNat o0), (0, v1), (0, v2), (0, (h (o0 + 65) (v2 : Int).toNat))]) (st' := [(0, v1), (1, (h (o0 + 67) ((wr ((h o0 105) - 1)) : Int).toNat)), (0, (wr ((h (o0 + 65) (v2 : Int).toNat) - 60))), (2, Int.ofNat o0), (0, (wr ((h o0 105) - 1))), (2, Int.ofNat (o0 + 67))]) rfl ?_
        refine jbind H (fun b16 Hb16 H => ?_)
        refine jEv.calV (st' := [(1, b16), (0, (wr ((h o0 105) - 1))), (2, Int.ofNat (o0 + 67))]) (show jfI 347 75 (.invokevirtual 725) 3 [1, 348, 3, 11010] = true by decide +kernel) rfl (Or.inl rfl) rfl (Nat.le_of_ble_eq_true rfl) (by decide +kernel) (by decide) (isX12_L ho0) ((t_M_qOf (T := T) (xs := xs) ho0 Hb16).mono (jKle 2 hd)) rfl ?_
        refine jbind H (fun b17 Hb17 H => ?_)
        refine jEv.calS (st' := [(1, b17), (0, (wr ((h o0 105) - 1))), (2, Int.ofNat (o0 + 67))]) (show jfI 347 78 (.invokestatic 714) 3 [3, 296, 1, 10030] = true by decide +kernel) rfl (Or.inl rfl) rfl (Nat.le_of_ble_eq_true rfl) ((t_M_qClip (T := T) (xs := xs)  Hb17).mono (jKle 1 hd)) rfl ?_
        refine jEv.ast (Or.inr (Or.inl ⟨rfl, rfl, rfl⟩)) (show jfI 347 81 (.lastore) 1 [] = true by decide +kernel) (isX12_a104 ho0) rfl H (fun c18 H => ?_)
        refine jEv.goto (t := 162) (show jfI 347 82 (.goto 80) 3 [] = true by decide +kernel) rfl ?_
        refine jEv.blk [(.iinc 2 1, 3, [])] (by decide +kernel) (pc' := 165) (ls' := [(2, Int.ofNat o0), (0, v1), (0, (wr (v2 + 1))), (0, (h (o0 + 65) (v2 : Int).toNat))]) (st' := []) rfl ?_
        refine jEv.goto (t := 7) (show jfI 347 165 (.goto (-158)) 3 [] = true by decide +kernel) rfl ?_
        exact jEv.weak (a := [(2, Int.ofNat o0), (0, v1), (0, (wr (v2 + 1))), (3, 0)]) (jles.c1 (jles.c1 (jles.c1 (jles.c0 jles.nl)))) ((by cases H; exact HY))
    · refine jEv.blk [(.aload_n 0, 1, []), (.iload_n 3, 1, []), (.sipush 1000, 3, []), (.isub, 1, []), (.i2l, 1, [])] (by decide +kernel) (pc' := 36) (ls' := [(2, Int.ofNat o0), (0, v1), (0, v2), (0, (h (o0 + 65) (v2 : Int).toNat))]) (st' := [(1, (wr ((h (o0 + 65) (v2 : Int).toNat) - 1000))), (2, Int.ofNat o0)]) rfl ?_
      refine jbind H (fun b19 Hb19 H => ?_)
      refine jEv.calV (st' := []) (show jfI 347 36 (.invokevirtual 369) 3 [1, 293, 1, 10018] = true by decide +kernel) rfl (Or.inl rfl) rfl (Nat.le_of_ble_eq_true rfl) (by decide +kernel) (by decide) (isX12_L ho0) ((t_M_qPuts (T := T) (xs := xs) ho0 Hb19).mono (jKle 1 hd)) rfl ?_
      refine jEv.goto (t := 162) (show jfI 347 39 (.goto 123) 3 [] = true by decide +kernel) rfl ?_
      refine jEv.blk [(.iinc 2 1, 3, [])] (by decide +kernel) (pc' := 165) (ls' := [(2, Int.ofNat o0), (0, v1), (0, (wr (v2 + 1))), (0, (h (o0 + 65) (v2 : Int).toNat))]) (st' := []) rfl ?_
      refine jEv.goto (t := 7) (show jfI 347 165 (.goto (-158)) 3 [] = true by decide +kernel) rfl ?_
      exact jEv.weak (a := [(2, Int.ofNat o0), (0, v1), (0, (wr (v2 + 1))), (3, 0)]) (jles.c1 (jles.c1 (jles.c1 (jles.c0 jles.nl)))) ((by cases H; exact HY))
  · refine jmapr H HY (fun out H (HY : ykJ T y out) => ?_)
    refine jEv.blk [(.aload_n 0, 1, [])] (by decide +kernel) (pc' := 169) (ls' := [(2, Int.ofNat o0), (0, v1), (0, v2), (3, 0)]) (st' := [(2, Int.ofNat o0)]) rfl ?_
    refine jEv.gfR (o' := (o0 + 67)) (show jfI 347 169 (.getfield 222) 3 [12, 104, 5, 0, 7140] = true by decide +kernel) (isX12_L ho0) (by decide) (isX12_r104 ho0) ?_
    refine jEv.blk [(.iconst 0, 1, [])] (by decide +kernel) (pc' := 173) (ls' := [(2, Int.ofNat o0), (0, v1), (0, v2), (3, 0)]) (st' := [(0, 0), (2, Int.ofNat (o0 + 67))]) rfl ?_
    refine jEv.ald (Or.inr (Or.inl ⟨rfl, rfl, rfl⟩)) (show jfI 347 173 (.laload) 1 [] = true by decide +kernel) (isX12_a104 ho0) H (fun c20 H => ?_)
    exact jEv.retJ (show jfI 347 174 (.lreturn) 1 [] = true by decide +kernel) (by decide +kernel) (by cases H; exact HY)
theorem t_M_qTold_L7 {T : jT} {xs : List Int} {d : Nat} {y : jV × jS} (hd : 6 ≤ d) {h : jH}  {o0 : Nat} {v1 : Int} {v2 : Int} {out : (Int × jH)} (ho0 : isX12 T o0) (H : M_qTold_L7 h o0 v1 v2 = some out) (HY : ykJ T y out) : jEv xs d (347, 7, [(2, Int.ofNat o0), (0, v1), (0, v2), (3, 0)], []) (T, h) y :=
  jloop_sound (G := fun s : (Int × jH) => jEv xs d (347, 7, [(2, Int.ofNat o0), (0, v1), (0, s.1), (3, 0)], []) (T, s.2) y) (K := yk_M_qTold_L7 T xs d y o0 v1) (fun s out H HY => t_M_qTold_B7 hd ho0 H HY) (fun s' hg => hg) (s := (v2, h)) H HY
set_option maxRecDepth 20000 in
noncomputable def M_qTold  (h : jH) (o0 : Nat) (v1 : Int) : Option (Int × jH) := M_qTold_L7 (jup h o0 105 0) o0 v1 0
set_option maxRecDepth 20000 in
theorem t_M_qTold {T : jT} {xs : List Int} {h : jH}  {o0 : Nat} {v1 : Int} {out : (Int × jH)} (ho0 : isX12 T o0) (H : M_qTold h o0 v1 = some out) : jEm xs 7 347 [(2, Int.ofNat o0), (0, v1)] (T, h) ((1, out.1), (T, out.2)) := by
  have hd : 6 ≤ 6 := Nat.le_refl _
  obtain ⟨y, ey⟩ : ∃ y : jV × jS, y = ((1, out.1), (T, out.2)) := ⟨_, rfl⟩
  rw [← ey]
  have HY : ykJ T y out := ey
  refine jEm.ent (n := 4) (by decide +kernel) (Nat.le_of_ble_eq_true rfl) ?_
  show jEv xs 6 (347, 0, [(2, Int.ofNat o0), (0, v1), (3, 0), (3, 0)], []) (T, h) y
  unfold M_qTold at H
  refine jEv.blk [(.aload_n 0, 1, []), (.iconst 0, 1, [])] (by decide +kernel) (pc' := 2) (ls' := [(2, Int.ofNat o0), (0, v1), (3, 0), (3, 0)]) (st' := [(0, 0), (2, Int.ofNat o0)]) rfl ?_
  refine jEv.pfI (show jfI 347 2 (.putfield 366) 3 [12, 105, 0, 0, 7141] = true by decide +kernel) (isX12_L ho0) (by decide) ?_
  refine jEv.blk [(.iconst 0, 1, []), (.istore_n 2, 1, [])] (by decide +kernel) (pc' := 7) (ls' := [(2, Int.ofNat o0), (0, v1), (0, 0), (3, 0)]) (st' := []) rfl ?_
  exact t_M_qTold_L7 (T := T) (xs := xs) (y := y) hd ho0 H HY
set_option maxRecDepth 20000 in
noncomputable def M_qTakes_p128  (h : jH) (o0 : Nat) (v2 : Int) : Option jH := some (jup (jup h o0 106 v2) o0 107 0)
set_option maxRecDepth 20000 in
theorem t_M_qTakes_p128 {T : jT} {xs : List Int} {d : Nat} {y : jV × jS} (hd : 0 ≤ d) {h : jH}  {o0 : Nat} {v2 : Int} {out : jH} (ho0 : isX12 T o0) (H : M_qTakes_p128 h o0 v2 = some out) (HY : ykV T y out) : jEv xs d (349, 128, [(2, Int.ofNat o0), (3, 0), (1, v2), (3, 0), (3, 0), (3, 0)], []) (T, h) y := by
  unfold M_qTakes_p128 at H
  refine jEv.blk [(.aload_n 0, 1, []), (.lload_n 2, 1, [])] (by decide +kernel) (pc' := 130) (ls' := [(2, Int.ofNat o0), (3, 0), (1, v2), (3, 0), (3, 0), (3, 0)]) (st' := [(1, v2), (2, Int.ofNat o0)]) rfl ?_
  refine jEv.pfJ (show jfI 349 130 (.putfield 729) 3 [12, 106, 1, 0, 7142] = true by decide +kernel) (isX12_L ho0) (by decide) ?_
  refine jEv.blk [(.aload_n 0, 1, []), (.iconst 0, 1, [])] (by decide +kernel) (pc' := 135) (ls' := [(2, Int.ofNat o0), (3, 0), (1, v2), (3, 0), (3, 0), (3, 0)]) (st' := [(0, 0), (2, Int.ofNat o0)]) rfl ?_
  refine jEv.pfZ (show jfI 349 135 (.putfield 734) 3 [12, 107, 0, 1, 7143] = true by decide +kernel) (isX12_L ho0) (by decide) (by decide) ?_
  exact jEv.retV (show jfI 349 138 (.return_) 1 [] = true by decide +kernel) (by decide +kernel) (by cases H; exact HY)
set_option maxRecDepth 20000 in
noncomputable def M_qTakes_p90  (h : jH) (o0 : Nat) (v1 : Int) (v2 : Int) : Option jH := (if 3 < v1 then (if (h o0 107) = 0 then (if v1 = 4 then (if 0 < (jcmp v2 (h o0 106)) then M_qTakes_p128 h o0 v2 else some (jup h o0 107 0)) else (if (jcmp v2 (h o0 106)) < 0 then M_qTakes_p128 h o0 v2 else some (jup h o0 107 0))) else M_qTakes_p128 h o0 v2) else some (jup h o0 107 0))
set_option maxRecDepth 20000 in
theorem t_M_qTakes_p90 {T : jT} {xs : List Int} {d : Nat} {y : jV × jS} (hd : 0 ≤ d) {h : jH}  {o0 : Nat} {v1 : Int} {v2 : Int} {out : jH} (ho0 : isX12 T o0) (H : M_qTakes_p90 h o0 v1 v2 = some out) (HY : ykV T y out) : jEv xs d (349, 90, [(2, Int.ofNat o0), (0, v1), (1, v2), (3, 0), (3, 0), (3, 0)], []) (T, h) y := by
  unfold M_qTakes_p90 at H
  refine jEv.blk [(.iload_n 1, 1, []), (.iconst 3, 1, [])] (by decide +kernel) (pc' := 92) (ls' := [(2, Int.ofNat o0), (0, v1), (1, v2), (3, 0), (3, 0), (3, 0)]) (st' := [(0, 3), (0, v1)]) rfl ?_
  refine jEv.ic_le (t := 133) (show jfI 349 92 (.if_icmp .le 41) 3 [] = true by decide +kernel) rfl H (fun c11 H => ?_) (fun c11 H => ?_)
  · refine jEv.blk [(.aload_n 0, 1, [])] (by decide +kernel) (pc' := 96) (ls' := [(2, Int.ofNat o0), (0, v1), (1, v2), (3, 0), (3, 0), (3, 0)]) (st' := [(2, Int.ofNat o0)]) rfl ?_
    refine jEv.gfI (show jfI 349 96 (.getfield 734) 3 [12, 107, 0, 1, 7143] = true by decide +kernel) (isX12_L ho0) (by decide) ?_
    refine jEv.if_ne (t := 128) (show jfI 349 99 (.ifCond .ne 29) 3 [] = true by decide +kernel) rfl H (fun c12 H => ?_) (fun c12 H => ?_)
    · refine jEv.blk [(.iload_n 1, 1, []), (.iconst 4, 1, [])] (by decide +kernel) (pc' := 104) (ls' := [(2, Int.ofNat o0), (0, v1), (1, v2), (3, 0), (3, 0), (3, 0)]) (st' := [(0, 4), (0, v1)]) rfl ?_
      refine jEv.ic_ne (t := 119) (show jfI 349 104 (.if_icmp .ne 15) 3 [] = true by decide +kernel) rfl H (fun c13 H => ?_) (fun c13 H => ?_)
      · refine jEv.blk [(.lload_n 2, 1, []), (.aload_n 0, 1, [])] (by decide +kernel) (pc' := 109) (ls' := [(2, Int.ofNat o0), (0, v1), (1, v2), (3, 0), (3, 0), (3, 0)]) (st' := [(2, Int.ofNat o0), (1, v2)]) rfl ?_
        refine jEv.gfJ (show jfI 349 109 (.getfield 729) 3 [12, 106, 1, 0, 7142] = true by decide +kernel) (isX12_L ho0) (by decide) ?_
        refine jEv.blk [(.lcmp, 1, [])] (by decide +kernel) (pc' := 113) (ls' := [(2, Int.ofNat o0), (0, v1), (1, v2), (3, 0), (3, 0), (3, 0)]) (st' := [(0, (jcmp v2 (h o0 106)))]) rfl ?_
        refine jEv.if_le (t := 133) (show jfI 349 113 (.ifCond .le 20) 3 [] = true by decide +kernel) rfl H (fun c14 H => ?_) (fun c14 H => ?_)
        · refine jEv.goto (t := 128) (show jfI 349 116 (.goto 12) 3 [] = true by decide +kernel) rfl ?_
          exact jEv.weak (a := [(2, Int.ofNat o0), (3, 0), (1, v2), (3, 0), (3, 0), (3, 0)]) (jles.c1 (jles.c0 (jles.c1 (jles.c0 (jles.c0 (jles.c0 jles.nl)))))) (t_M_qTakes_p128 (T := T) (xs := xs) (y := y) hd ho0 H HY)
        · refine jEv.blk [(.aload_n 0, 1, []), (.iconst 0, 1, [])] (by decide +kernel) (pc' := 135) (ls' := [(2, Int.ofNat o0), (0, v1), (1, v2), (3, 0), (3, 0), (3, 0)]) (st' := [(0, 0), (2, Int.ofNat o0)]) rfl ?_
          refine jEv.pfZ (show jfI 349 135 (.putfield 734) 3 [12, 107, 0, 1, 7143] = true by decide +kernel) (isX12_L ho0) (by decide) (by decide) ?_
          exact jEv.retV (show jfI 349 138 (.return_) 1 [] = true by decide +kernel) (by decide +kernel) (by cases H; exact HY)
      · refine jEv.blk [(.lload_n 2, 1, []), (.aload_n 0, 1, [])] (by decide +kernel) (pc' := 121) (ls' := [(2, Int.ofNat o0), (0, v1), (1, v2), (3, 0), (3, 0), (3, 0)]) (st' := [(2, Int.ofNat o0), (1, v2)]) rfl ?_
        refine jEv.gfJ (show jfI 349 121 (.getfield 729) 3 [12, 106, 1, 0, 7142] = true by decide +kernel) (isX12_L ho0) (by decide) ?_
        refine jEv.blk [(.lcmp, 1, [])] (by decide +kernel) (pc' := 125) (ls' := [(2, Int.ofNat o0), (0, v1), (1, v2), (3, 0), (3, 0), (3, 0)]) (st' := [(0, (jcmp v2 (h o0 106)))]) rfl ?_
        refine jEv.if_ge (t := 133) (show jfI 349 125 (.ifCond .ge 8) 3 [] = true by decide +kernel) rfl H (fun c15 H => ?_) (fun c15 H => ?_)
        · exact jEv.weak (a := [(2, Int.ofNat o0), (3, 0), (1, v2), (3, 0), (3, 0), (3, 0)]) (jles.c1 (jles.c0 (jles.c1 (jles.c0 (jles.c0 (jles.c0 jles.nl)))))) (t_M_qTakes_p128 (T := T) (xs := xs) (y := y) hd ho0 H HY)
        · refine jEv.blk [(.aload_n 0, 1, []), (.iconst 0, 1, [])] (by decide +kernel) (pc' := 135) (ls' := [(2, Int.ofNat o0), (0, v1), (1, v2), (3, 0), (3, 0), (3, 0)]) (st' := [(0, 0), (2, Int.ofNat o0)]) rfl ?_
          refine jEv.pfZ (show jfI 349 135 (.putfield 734) 3 [12, 107, 0, 1, 7143] = true by decide +kernel) (isX12_L ho0) (by decide) (by decide) ?_
          exact jEv.retV (show jfI 349 138 (.return_) 1 [] = true by decide +kernel) (by decide +kernel) (by cases H; exact HY)
    · exact jEv.weak (a := [(2, Int.ofNat o0), (3, 0), (1, v2), (3, 0), (3, 0), (3, 0)]) (jles.c1 (jles.c0 (jles.c1 (jles.c0 (jles.c0 (jles.c0 jles.nl)))))) (t_M_qTakes_p128 (T := T) (xs := xs) (y := y) hd ho0 H HY)
  · refine jEv.blk [(.aload_n 0, 1, []), (.iconst 0, 1, [])] (by decide +kernel) (pc' := 135) (ls' := [(2, Int.ofNat o0), (0, v1), (1, v2), (3, 0), (3, 0), (3, 0)]) (st' := [(0, 0), (2, Int.ofNat o0)]) rfl ?_
    refine jEv.pfZ (show jfI 349 135 (.putfield 734) 3 [12, 107, 0, 1, 7143] = true by decide +kernel) (isX12_L ho0) (by decide) (by decide) ?_
    exact jEv.retV (show jfI 349 138 (.return_) 1 [] = true by decide +kernel) (by decide +kernel) (by cases H; exact HY)
set_option maxRecDepth 20000 in
noncomputable def M_qTakes_p75  (h : jH) (o0 : Nat) (v1 : Int) (v2 : Int) : Option jH := (if v1 = 3 then M_qTakes_p90 (jup h o0 106 (wl ((h o0 106) + v2))) o0 v1 v2 else M_qTakes_p90 h o0 v1 v2)
set_option maxRecDepth 20000 in
theorem t_M_qTakes_p75 {T : jT} {xs : List Int} {d : Nat} {y : jV × jS} (hd : 0 ≤ d) {h : jH}  {o0 : Nat} {v1 : Int} {v2 : Int} {out : jH} (ho0 : isX12 T o0) (H : M_qTakes_p75 h o0 v1 v2 = some out) (HY : ykV T y out) : jEv xs d (349, 75, [(2, Int.ofNat o0), (0, v1), (1, v2), (3, 0), (3, 0), (3, 0)], []) (T, h) y := by
  unfold M_qTakes_p75 at H
  refine jEv.blk [(.iload_n 1, 1, []), (.iconst 3, 1, [])] (by decide +kernel) (pc' := 77) (ls' := [(2, Int.ofNat o0), (0, v1), (1, v2), (3, 0), (3, 0), (3, 0)]) (st' := [(0, 3), (0, v1)]) rfl ?_
  refine jEv.ic_ne (t := 90) (show jfI 349 77 (.if_icmp .ne 13) 3 [] = true by decide +kernel) rfl H (fun c10 H => ?_) (fun c10 H => ?_)
  · refine jEv.blk [(.aload_n 0, 1, []), (.dup, 1, [])] (by decide +kernel) (pc' := 82) (ls' := [(2, Int.ofNat o0), (0, v1), (1, v2), (3, 0), (3, 0), (3, 0)]) (st' := [(2, Int.ofNat o0), (2, Int.ofNat o0)]) rfl ?_
    refine jEv.gfJ (show jfI 349 82 (.getfield 729) 3 [12, 106, 1, 0, 7142] = true by decide +kernel) (isX12_L ho0) (by decide) ?_
    refine jEv.blk [(.lload_n 2, 1, []), (.ladd, 1, [])] (by decide +kernel) (pc' := 87) (ls' := [(2, Int.ofNat o0), (0, v1), (1, v2), (3, 0), (3, 0), (3, 0)]) (st' := [(1, (wl ((h o0 106) + v2))), (2, Int.ofNat o0)]) rfl ?_
    refine jEv.pfJ (show jfI 349 87 (.putfield 729) 3 [12, 106, 1, 0, 7142] = true by decide +kernel) (isX12_L ho0) (by decide) ?_
    exact t_M_qTakes_p90 (T := T) (xs := xs) (y := y) hd ho0 H HY
  · exact t_M_qTakes_p90 (T := T) (xs := xs) (y := y) hd ho0 H HY
set_option maxRecDepth 20000 in
noncomputable def M_qTakes_p55  (h : jH) (o0 : Nat) (v1 : Int) (v2 : Int) (v5 : Int) : Option jH := (if v1 = 2 then (if v5 = 0 then M_qTakes_p75 h o0 v1 v2 else M_qTakes_p75 (jup h o0 106 (wl ((h o0 106) + 1))) o0 v1 v2) else M_qTakes_p75 h o0 v1 v2)
set_option maxRecDepth 20000 in
theorem t_M_qTakes_p55 {T : jT} {xs : List Int} {d : Nat} {y : jV × jS} (hd : 0 ≤ d) {h : jH}  {o0 : Nat} {v1 : Int} {v2 : Int} {v5 : Int} {out : jH} (ho0 : isX12 T o0) (H : M_qTakes_p55 h o0 v1 v2 v5 = some out) (HY : ykV T y out) : jEv xs d (349, 55, [(2, Int.ofNat o0), (0, v1), (1, v2), (3, 0), (3, 0), (0, v5)], []) (T, h) y := by
  unfold M_qTakes_p55 at H
  refine jEv.blk [(.iload_n 1, 1, []), (.iconst 2, 1, [])] (by decide +kernel) (pc' := 57) (ls' := [(2, Int.ofNat o0), (0, v1), (1, v2), (3, 0), (3, 0), (0, v5)]) (st' := [(0, 2), (0, v1)]) rfl ?_
  refine jEv.ic_ne (t := 75) (show jfI 349 57 (.if_icmp .ne 18) 3 [] = true by decide +kernel) rfl H (fun c8 H => ?_) (fun c8 H => ?_)
  · refine jEv.blk [(.iload 5, 2, [])] (by decide +kernel) (pc' := 62) (ls' := [(2, Int.ofNat o0), (0, v1), (1, v2), (3, 0), (3, 0), (0, v5)]) (st' := [(0, v5)]) rfl ?_
    refine jEv.if_eq (t := 75) (show jfI 349 62 (.ifCond .eq 13) 3 [] = true by decide +kernel) rfl H (fun c9 H => ?_) (fun c9 H => ?_)
    · exact jEv.weak (a := [(2, Int.ofNat o0), (0, v1), (1, v2), (3, 0), (3, 0), (3, 0)]) (jles.c1 (jles.c1 (jles.c1 (jles.c0 (jles.c0 (jles.c0 jles.nl)))))) (t_M_qTakes_p75 (T := T) (xs := xs) (y := y) hd ho0 H HY)
    · refine jEv.blk [(.aload_n 0, 1, []), (.dup, 1, [])] (by decide +kernel) (pc' := 67) (ls' := [(2, Int.ofNat o0), (0, v1), (1, v2), (3, 0), (3, 0), (0, v5)]) (st' := [(2, Int.ofNat o0), (2, Int.ofNat o0)]) rfl ?_
      refine jEv.gfJ (show jfI 349 67 (.getfield 729) 3 [12, 106, 1, 0, 7142] = true by decide +kernel) (isX12_L ho0) (by decide) ?_
      refine jEv.blk [(.lconst 1, 1, []), (.ladd, 1, [])] (by decide +kernel) (pc' := 72) (ls' := [(2, Int.ofNat o0), (0, v1), (1, v2), (3, 0), (3, 0), (0, v5)]) (st' := [(1, (wl ((h o0 106) + 1))), (2, Int.ofNat o0)]) rfl ?_
      refine jEv.pfJ (show jfI 349 72 (.putfield 729) 3 [12, 106, 1, 0, 7142] = true by decide +kernel) (isX12_L ho0) (by decide) ?_
      exact jEv.weak (a := [(2, Int.ofNat o0), (0, v1), (1, v2), (3, 0), (3, 0), (3, 0)]) (jles.c1 (jles.c1 (jles.c1 (jles.c0 (jles.c0 (jles.c0 jles.nl)))))) (t_M_qTakes_p75 (T := T) (xs := xs) (y := y) hd ho0 H HY)
  · exact jEv.weak (a := [(2, Int.ofNat o0), (0, v1), (1, v2), (3, 0), (3, 0), (3, 0)]) (jles.c1 (jles.c1 (jles.c1 (jles.c0 (jles.c0 (jles.c0 jles.nl)))))) (t_M_qTakes_p75 (T := T) (xs := xs) (y := y) hd ho0 H HY)
set_option maxRecDepth 20000 in
noncomputable def M_qTakes_p48  (h : jH) (o0 : Nat) (v1 : Int) (v2 : Int) (v4 : Int) (v5 : Int) : Option jH := M_qTakes_p55 (jup h o0 106 v4) o0 v1 v2 v5
set_option maxRecDepth 20000 in
theorem t_M_qTakes_p48 {T : jT} {xs : List Int} {d : Nat} {y : jV × jS} (hd : 0 ≤ d) {h : jH}  {o0 : Nat} {v1 : Int} {v2 : Int} {v4 : Int} {v5 : Int} {out : jH} (ho0 : isX12 T o0) (H : M_qTakes_p48 h o0 v1 v2 v4 v5 = some out) (HY : ykV T y out) : jEv xs d (349, 48, [(2, Int.ofNat o0), (0, v1), (1, v2), (3, 0), (0, v4), (0, v5)], []) (T, h) y := by
  unfold M_qTakes_p48 at H
  refine jEv.blk [(.aload_n 0, 1, []), (.iload 4, 2, []), (.i2l, 1, [])] (by decide +kernel) (pc' := 52) (ls' := [(2, Int.ofNat o0), (0, v1), (1, v2), (3, 0), (0, v4), (0, v5)]) (st' := [(1, v4), (2, Int.ofNat o0)]) rfl ?_
  refine jEv.pfJ (show jfI 349 52 (.putfield 729) 3 [12, 106, 1, 0, 7142] = true by decide +kernel) (isX12_L ho0) (by decide) ?_
  exact jEv.weak (a := [(2, Int.ofNat o0), (0, v1), (1, v2), (3, 0), (3, 0), (0, v5)]) (jles.c1 (jles.c1 (jles.c1 (jles.c0 (jles.c0 (jles.c1 jles.nl)))))) (t_M_qTakes_p55 (T := T) (xs := xs) (y := y) hd ho0 H HY)
set_option maxRecDepth 20000 in
noncomputable def M_qTakes_p38  (h : jH) (o0 : Nat) (v1 : Int) (v2 : Int) (v4 : Int) (v5 : Int) : Option jH := (if v1 = 1 then (if v5 = 0 then M_qTakes_p55 h o0 v1 v2 v5 else M_qTakes_p48 h o0 v1 v2 v4 v5) else M_qTakes_p55 h o0 v1 v2 v5)
set_option maxRecDepth 20000 in
theorem t_M_qTakes_p38 {T : jT} {xs : List Int} {d : Nat} {y : jV × jS} (hd : 0 ≤ d) {h : jH}  {o0 : Nat} {v1 : Int} {v2 : Int} {v4 : Int} {v5 : Int} {out : jH} (ho0 : isX12 T o0) (H : M_qTakes_p38 h o0 v1 v2 v4 v5 = some out) (HY : ykV T y out) : jEv xs d (349, 38, [(2, Int.ofNat o0), (0, v1), (1, v2), (3, 0), (0, v4), (0, v5)], []) (T, h) y := by
  unfold M_qTakes_p38 at H
  refine jEv.blk [(.iload_n 1, 1, []), (.iconst 1, 1, [])] (by decide +kernel) (pc' := 40) (ls' := [(2, Int.ofNat o0), (0, v1), (1, v2), (3, 0), (0, v4), (0, v5)]) (st' := [(0, 1), (0, v1)]) rfl ?_
  refine jEv.ic_ne (t := 55) (show jfI 349 40 (.if_icmp .ne 15) 3 [] = true by decide +kernel) rfl H (fun c6 H => ?_) (fun c6 H => ?_)
  · refine jEv.blk [(.iload 5, 2, [])] (by decide +kernel) (pc' := 45) (ls' := [(2, Int.ofNat o0), (0, v1), (1, v2), (3, 0), (0, v4), (0, v5)]) (st' := [(0, v5)]) rfl ?_
    refine jEv.if_eq (t := 55) (show jfI 349 45 (.ifCond .eq 10) 3 [] = true by decide +kernel) rfl H (fun c7 H => ?_) (fun c7 H => ?_)
    · exact jEv.weak (a := [(2, Int.ofNat o0), (0, v1), (1, v2), (3, 0), (3, 0), (0, v5)]) (jles.c1 (jles.c1 (jles.c1 (jles.c0 (jles.c0 (jles.c1 jles.nl)))))) (t_M_qTakes_p55 (T := T) (xs := xs) (y := y) hd ho0 H HY)
    · exact t_M_qTakes_p48 (T := T) (xs := xs) (y := y) hd ho0 H HY
  · exact jEv.weak (a := [(2, Int.ofNat o0), (0, v1), (1, v2), (3, 0), (3, 0), (0, v5)]) (jles.c1 (jles.c1 (jles.c1 (jles.c0 (jles.c0 (jles.c1 jles.nl)))))) (t_M_qTakes_p55 (T := T) (xs := xs) (y := y) hd ho0 H HY)
set_option maxRecDepth 20000 in
noncomputable def M_qTakes_p16  (h : jH) (o0 : Nat) (v1 : Int) (v2 : Int) (v4 : Int) (vs0 : Int) : Option jH := (if v1 = 0 then (if vs0 = 0 then M_qTakes_p38 h o0 v1 v2 v4 vs0 else (if (jcmp (h o0 106) (-1)) = 0 then M_qTakes_p48 h o0 v1 v2 v4 vs0 else M_qTakes_p38 h o0 v1 v2 v4 vs0)) else M_qTakes_p38 h o0 v1 v2 v4 vs0)
set_option maxRecDepth 20000 in
theorem t_M_qTakes_p16 {T : jT} {xs : List Int} {d : Nat} {y : jV × jS} (hd : 0 ≤ d) {h : jH}  {o0 : Nat} {v1 : Int} {v2 : Int} {v4 : Int} {vs0 : Int} {out : jH} (ho0 : isX12 T o0) (H : M_qTakes_p16 h o0 v1 v2 v4 vs0 = some out) (HY : ykV T y out) : jEv xs d (349, 16, [(2, Int.ofNat o0), (0, v1), (1, v2), (3, 0), (0, v4), (3, 0)], [(0, vs0)]) (T, h) y := by
  unfold M_qTakes_p16 at H
  refine jEv.blk [(.istore 5, 2, []), (.iload_n 1, 1, [])] (by decide +kernel) (pc' := 19) (ls' := [(2, Int.ofNat o0), (0, v1), (1, v2), (3, 0), (0, v4), (0, vs0)]) (st' := [(0, v1)]) rfl ?_
  refine jEv.if_ne (t := 38) (show jfI 349 19 (.ifCond .ne 19) 3 [] = true by decide +kernel) rfl H (fun c3 H => ?_) (fun c3 H => ?_)
  · refine jEv.blk [(.iload 5, 2, [])] (by decide +kernel) (pc' := 24) (ls' := [(2, Int.ofNat o0), (0, v1), (1, v2), (3, 0), (0, v4), (0, vs0)]) (st' := [(0, vs0)]) rfl ?_
    refine jEv.if_eq (t := 38) (show jfI 349 24 (.ifCond .eq 14) 3 [] = true by decide +kernel) rfl H (fun c4 H => ?_) (fun c4 H => ?_)
    · exact t_M_qTakes_p38 (T := T) (xs := xs) (y := y) hd ho0 H HY
    · refine jEv.blk [(.aload_n 0, 1, [])] (by decide +kernel) (pc' := 28) (ls' := [(2, Int.ofNat o0), (0, v1), (1, v2), (3, 0), (0, v4), (0, vs0)]) (st' := [(2, Int.ofNat o0)]) rfl ?_
      refine jEv.gfJ (show jfI 349 28 (.getfield 729) 3 [12, 106, 1, 0, 7142] = true by decide +kernel) (isX12_L ho0) (by decide) ?_
      refine jEv.blk [(.ldc2_w 732, 3, [1, 1, 1, 11005]), (.lcmp, 1, [])] (by decide +kernel) (pc' := 35) (ls' := [(2, Int.ofNat o0), (0, v1), (1, v2), (3, 0), (0, v4), (0, vs0)]) (st' := [(0, (jcmp (h o0 106) (-1)))]) rfl ?_
      refine jEv.if_eq (t := 48) (show jfI 349 35 (.ifCond .eq 13) 3 [] = true by decide +kernel) rfl H (fun c5 H => ?_) (fun c5 H => ?_)
      · exact t_M_qTakes_p48 (T := T) (xs := xs) (y := y) hd ho0 H HY
      · exact t_M_qTakes_p38 (T := T) (xs := xs) (y := y) hd ho0 H HY
  · exact t_M_qTakes_p38 (T := T) (xs := xs) (y := y) hd ho0 H HY
set_option maxRecDepth 20000 in
noncomputable def M_qTakes_p15  (h : jH) (o0 : Nat) (v1 : Int) (v2 : Int) (v4 : Int) : Option jH := M_qTakes_p16 h o0 v1 v2 v4 0
set_option maxRecDepth 20000 in
theorem t_M_qTakes_p15 {T : jT} {xs : List Int} {d : Nat} {y : jV × jS} (hd : 0 ≤ d) {h : jH}  {o0 : Nat} {v1 : Int} {v2 : Int} {v4 : Int} {out : jH} (ho0 : isX12 T o0) (H : M_qTakes_p15 h o0 v1 v2 v4 = some out) (HY : ykV T y out) : jEv xs d (349, 15, [(2, Int.ofNat o0), (0, v1), (1, v2), (3, 0), (0, v4), (3, 0)], []) (T, h) y := by
  unfold M_qTakes_p15 at H
  refine jEv.blk [(.iconst 0, 1, [])] (by decide +kernel) (pc' := 16) (ls' := [(2, Int.ofNat o0), (0, v1), (1, v2), (3, 0), (0, v4), (3, 0)]) (st' := [(0, 0)]) rfl ?_
  exact t_M_qTakes_p16 (T := T) (xs := xs) (y := y) hd ho0 H HY
set_option maxRecDepth 20000 in
noncomputable def M_qTakes  (h : jH) (o0 : Nat) (v1 : Int) (v2 : Int) (v4 : Int) : Option jH := (if v1 < 3 then (if (jcmp v2 1) = 0 then M_qTakes_p16 h o0 v1 v2 v4 1 else M_qTakes_p15 h o0 v1 v2 v4) else M_qTakes_p15 h o0 v1 v2 v4)
set_option maxRecDepth 20000 in
theorem t_M_qTakes {T : jT} {xs : List Int} {h : jH}  {o0 : Nat} {v1 : Int} {v2 : Int} {v4 : Int} {out : jH} (ho0 : isX12 T o0) (H : M_qTakes h o0 v1 v2 v4 = some out) : jEm xs 1 349 [(2, Int.ofNat o0), (0, v1), (1, v2), (0, v4)] (T, h) ((3, 0), (T, out)) := by
  have hd : 0 ≤ 0 := Nat.le_refl _
  obtain ⟨y, ey⟩ : ∃ y : jV × jS, y = ((3, 0), (T, out)) := ⟨_, rfl⟩
  rw [← ey]
  have HY : ykV T y out := ey
  refine jEm.ent (n := 6) (by decide +kernel) (Nat.le_of_ble_eq_true rfl) ?_
  show jEv xs 0 (349, 0, [(2, Int.ofNat o0), (0, v1), (1, v2), (3, 0), (0, v4), (3, 0)], []) (T, h) y
  unfold M_qTakes at H
  refine jEv.blk [(.iload_n 1, 1, []), (.iconst 3, 1, [])] (by decide +kernel) (pc' := 2) (ls' := [(2, Int.ofNat o0), (0, v1), (1, v2), (3, 0), (0, v4), (3, 0)]) (st' := [(0, 3), (0, v1)]) rfl ?_
  refine jEv.ic_ge (t := 15) (show jfI 349 2 (.if_icmp .ge 13) 3 [] = true by decide +kernel) rfl H (fun c1 H => ?_) (fun c1 H => ?_)
  · refine jEv.blk [(.lload_n 2, 1, []), (.lconst 1, 1, []), (.lcmp, 1, [])] (by decide +kernel) (pc' := 8) (ls' := [(2, Int.ofNat o0), (0, v1), (1, v2), (3, 0), (0, v4), (3, 0)]) (st' := [(0, (jcmp v2 1))]) rfl ?_
    refine jEv.if_ne (t := 15) (show jfI 349 8 (.ifCond .ne 7) 3 [] = true by decide +kernel) rfl H (fun c2 H => ?_) (fun c2 H => ?_)
    · refine jEv.blk [(.iconst 1, 1, [])] (by decide +kernel) (pc' := 12) (ls' := [(2, Int.ofNat o0), (0, v1), (1, v2), (3, 0), (0, v4), (3, 0)]) (st' := [(0, 1)]) rfl ?_
      refine jEv.goto (t := 16) (show jfI 349 12 (.goto 4) 3 [] = true by decide +kernel) rfl ?_
      exact t_M_qTakes_p16 (T := T) (xs := xs) (y := y) hd ho0 H HY
    · exact t_M_qTakes_p15 (T := T) (xs := xs) (y := y) hd ho0 H HY
  · exact t_M_qTakes_p15 (T := T) (xs := xs) (y := y) hd ho0 H HY
def yk_M_ask_L183 (T : jT) (xs : List Int) (d : Nat) (y : jV × jS)  (o0 : Nat) (v1 : Int) : ((Int × jH) ⊕ (Int × jH)) → Prop
  | .inl (v2, h) => jEv xs d (345, 183, [(2, Int.ofNat o0), (0, v1), (0, v2)], []) (T, h) y
  | .inr o => ykJ T y o
set_option maxRecDepth 20000 in
noncomputable def M_ask_B183  (h : jH) (o0 : Nat) (v1 : Int) (v2 : Int) : Option ((Int × jH) ⊕ (Int × jH)) := Option.bind (M_segmentMany h o0) (fun b12 => (if v2 < b12 then Option.bind (M_qTold (jup h o0 48 v2) o0 v2) (fun b14 => Option.bind (M_qTakes b14.2 o0 v1 b14.1 v2) (fun b15 => some (.inl ((wr (v2 + 1)), b15)))) else Option.map Sum.inr (some ((h o0 106), h))))
noncomputable def M_ask_L183  (h : jH) (o0 : Nat) (v1 : Int) (v2 : Int) : Option (Int × jH) := jloop (fun s : (Int × jH) => M_ask_B183 s.2 o0 v1 s.1) (v2, h)
set_option maxRecDepth 20000 in
theorem t_M_ask_B183 {T : jT} {xs : List Int} {d : Nat} {y : jV × jS} (hd : 9 ≤ d) {h : jH}  {o0 : Nat} {v1 : Int} {v2 : Int} {out : ((Int × jH) ⊕ (Int × jH))} (ho0 : isX12 T o0) (H : M_ask_B183 h o0 v1 v2 = some out) (HY : yk_M_ask_L183 T xs d y o0 v1 out) : jEv xs d (345, 183, [(2, Int.ofNat o0), (0, v1), (0, v2)], []) (T, h) y := by
  unfold M_ask_B183 at H
  refine jEv.blk [(.iload_n 2, 1, []), (.aload_n 0, 1, [])] (by decide +kernel) (pc' := 185) (ls' := [(2, Int.ofNat o0), (0, v1), (0, v2)]) (st' := [(2, Int.ofNat o0), (0, v2)]) rfl ?_
  refine jbind H (fun b12 Hb12 H => ?_)
  refine jEv.calV (st' := [(0, b12), (0, v2)]) (show jfI 345 185 (.invokevirtual 360) 3 [1, 254, 0, 9096] = true by decide +kernel) rfl (Or.inl rfl) rfl (Nat.le_of_ble_eq_true rfl) (by decide +kernel) (by decide) (isX12_L ho0) ((t_M_segmentMany (T := T) (xs := xs) ho0 Hb12).mono (jKle 1 hd)) rfl ?_
  refine jEv.ic_ge (t := 213) (show jfI 345 188 (.if_icmp .ge 25) 3 [] = true by decide +kernel) rfl H (fun c13 H => ?_) (fun c13 H => ?_)
  · refine jEv.blk [(.aload_n 0, 1, []), (.iload_n 2, 1, [])] (by decide +kernel) (pc' := 193) (ls' := [(2, Int.ofNat o0), (0, v1), (0, v2)]) (st' := [(0, v2), (2, Int.ofNat o0)]) rfl ?_
    refine jEv.pfI (show jfI 345 193 (.putfield 722) 3 [12, 48, 0, 0, 7084] = true by decide +kernel) (isX12_L ho0) (by decide) ?_
    refine jEv.blk [(.aload_n 0, 1, []), (.iload_n 1, 1, []), (.aload_n 0, 1, []), (.iload_n 2, 1, [])] (by decide +kernel) (pc' := 200) (ls' := [(2, Int.ofNat o0), (0, v1), (0, v2)]) (st' := [(0, v2), (2, Int.ofNat o0), (0, v1), (2, Int.ofNat o0)]) rfl ?_
    refine jbind H (fun b14 Hb14 H => ?_)
    refine jEv.calV (st' := [(1, b14.1), (0, v1), (2, Int.ofNat o0)]) (show jfI 345 200 (.invokevirtual 742) 3 [1, 347, 1, 11006] = true by decide +kernel) rfl (Or.inl rfl) rfl (Nat.le_of_ble_eq_true rfl) (by decide +kernel) (by decide) (isX12_L ho0) ((t_M_qTold (T := T) (xs := xs) ho0 Hb14).mono (jKle 7 hd)) rfl ?_
    refine jEv.blk [(.iload_n 2, 1, [])] (by decide +kernel) (pc' := 204) (ls' := [(2, Int.ofNat o0), (0, v1), (0, v2)]) (st' := [(0, v2), (1, b14.1), (0, v1), (2, Int.ofNat o0)]) rfl ?_
    refine jbind H (fun b15 Hb15 H => ?_)
    refine jEv.calV (st' := []) (show jfI 345 204 (.invokevirtual 745) 3 [1, 349, 3, 11014] = true by decide +kernel) rfl (Or.inl rfl) rfl (Nat.le_of_ble_eq_true rfl) (by decide +kernel) (by decide) (isX12_L ho0) ((t_M_qTakes (T := T) (xs := xs) ho0 Hb15).mono (jKle 1 hd)) rfl ?_
    refine jEv.blk [(.iinc 2 1, 3, [])] (by decide +kernel) (pc' := 210) (ls' := [(2, Int.ofNat o0), (0, v1), (0, (wr (v2 + 1)))]) (st' := []) rfl ?_
    refine jEv.goto (t := 183) (show jfI 345 210 (.goto (-27)) 3 [] = true by decide +kernel) rfl ?_
    exact (by cases H; exact HY)
  · refine jmapr H HY (fun out H (HY : ykJ T y out) => ?_)
    refine jEv.blk [(.aload_n 0, 1, [])] (by decide +kernel) (pc' := 214) (ls' := [(2, Int.ofNat o0), (0, v1), (0, v2)]) (st' := [(2, Int.ofNat o0)]) rfl ?_
    refine jEv.gfJ (show jfI 345 214 (.getfield 729) 3 [12, 106, 1, 0, 7142] = true by decide +kernel) (isX12_L ho0) (by decide) ?_
    exact jEv.retJ (show jfI 345 217 (.lreturn) 1 [] = true by decide +kernel) (by decide +kernel) (by cases H; exact HY)
theorem t_M_ask_L183 {T : jT} {xs : List Int} {d : Nat} {y : jV × jS} (hd : 9 ≤ d) {h : jH}  {o0 : Nat} {v1 : Int} {v2 : Int} {out : (Int × jH)} (ho0 : isX12 T o0) (H : M_ask_L183 h o0 v1 v2 = some out) (HY : ykJ T y out) : jEv xs d (345, 183, [(2, Int.ofNat o0), (0, v1), (0, v2)], []) (T, h) y :=
  jloop_sound (G := fun s : (Int × jH) => jEv xs d (345, 183, [(2, Int.ofNat o0), (0, v1), (0, s.1)], []) (T, s.2) y) (K := yk_M_ask_L183 T xs d y o0 v1) (fun s out H HY => t_M_ask_B183 hd ho0 H HY) (fun s' hg => hg) (s := (v2, h)) H HY
set_option maxRecDepth 20000 in
noncomputable def M_ask_p173  (h : jH) (o0 : Nat) (v1 : Int) (os0 : Nat) (vs1 : Int) : Option (Int × jH) := M_ask_L183 (jup (jup h os0 106 vs1) o0 107 1) o0 v1 0
set_option maxRecDepth 20000 in
theorem t_M_ask_p173 {T : jT} {xs : List Int} {d : Nat} {y : jV × jS} (hd : 9 ≤ d) {h : jH}  {o0 : Nat} {v1 : Int} {os0 : Nat} {vs1 : Int} {out : (Int × jH)} (ho0 : isX12 T o0) (hos0 : isX12 T os0) (H : M_ask_p173 h o0 v1 os0 vs1 = some out) (HY : ykJ T y out) : jEv xs d (345, 173, [(2, Int.ofNat o0), (0, v1), (3, 0)], [(1, vs1), (2, Int.ofNat os0)]) (T, h) y := by
  unfold M_ask_p173 at H
  refine jEv.pfJ (show jfI 345 173 (.putfield 729) 3 [12, 106, 1, 0, 7142] = true by decide +kernel) (isX12_L hos0) (by decide) ?_
  refine jEv.blk [(.aload_n 0, 1, []), (.iconst 1, 1, [])] (by decide +kernel) (pc' := 178) (ls' := [(2, Int.ofNat o0), (0, v1), (3, 0)]) (st' := [(0, 1), (2, Int.ofNat o0)]) rfl ?_
  refine jEv.pfZ (show jfI 345 178 (.putfield 734) 3 [12, 107, 0, 1, 7143] = true by decide +kernel) (isX12_L ho0) (by decide) (by decide) ?_
  refine jEv.blk [(.iconst 0, 1, []), (.istore_n 2, 1, [])] (by decide +kernel) (pc' := 183) (ls' := [(2, Int.ofNat o0), (0, v1), (0, 0)]) (st' := []) rfl ?_
  exact t_M_ask_L183 (T := T) (xs := xs) (y := y) hd ho0 H HY
set_option maxRecDepth 20000 in
noncomputable def M_ask_p133  (h : jH) (o0 : Nat) (v1 : Int) : Option (Int × jH) := (if ((jup (jup h o0 7 (h o0 5)) o0 8 ((jup h o0 7 (h o0 5)) o0 6)) o0 5) = 0 then (if v1 < 2 then M_ask_p173 (jup (jup h o0 7 (h o0 5)) o0 8 ((jup h o0 7 (h o0 5)) o0 6)) o0 v1 o0 (-1) else M_ask_p173 (jup (jup h o0 7 (h o0 5)) o0 8 ((jup h o0 7 (h o0 5)) o0 6)) o0 v1 o0 0) else some ((-1000000000000000), (jup (jup h o0 7 (h o0 5)) o0 8 ((jup h o0 7 (h o0 5)) o0 6))))
set_option maxRecDepth 20000 in
theorem t_M_ask_p133 {T : jT} {xs : List Int} {d : Nat} {y : jV × jS} (hd : 9 ≤ d) {h : jH}  {o0 : Nat} {v1 : Int} {out : (Int × jH)} (ho0 : isX12 T o0) (H : M_ask_p133 h o0 v1 = some out) (HY : ykJ T y out) : jEv xs d (345, 133, [(2, Int.ofNat o0), (0, v1), (3, 0)], []) (T, h) y := by
  unfold M_ask_p133 at H
  refine jEv.blk [(.aload_n 0, 1, []), (.aload_n 0, 1, [])] (by decide +kernel) (pc' := 135) (ls' := [(2, Int.ofNat o0), (0, v1), (3, 0)]) (st' := [(2, Int.ofNat o0), (2, Int.ofNat o0)]) rfl ?_
  refine jEv.gfI (show jfI 345 135 (.getfield 232) 3 [12, 5, 0, 0, 7041] = true by decide +kernel) (isX12_L ho0) (by decide) ?_
  refine jEv.pfI (show jfI 345 138 (.putfield 330) 3 [12, 7, 0, 0, 7043] = true by decide +kernel) (isX12_L ho0) (by decide) ?_
  refine jEv.blk [(.aload_n 0, 1, []), (.aload_n 0, 1, [])] (by decide +kernel) (pc' := 143) (ls' := [(2, Int.ofNat o0), (0, v1), (3, 0)]) (st' := [(2, Int.ofNat o0), (2, Int.ofNat o0)]) rfl ?_
  refine jEv.gfI (show jfI 345 143 (.getfield 235) 3 [12, 6, 0, 0, 7042] = true by decide +kernel) (isX12_L ho0) (by decide) ?_
  refine jEv.pfI (show jfI 345 146 (.putfield 13) 3 [12, 8, 0, 0, 7044] = true by decide +kernel) (isX12_L ho0) (by decide) ?_
  refine jEv.blk [(.aload_n 0, 1, [])] (by decide +kernel) (pc' := 150) (ls' := [(2, Int.ofNat o0), (0, v1), (3, 0)]) (st' := [(2, Int.ofNat o0)]) rfl ?_
  refine jEv.gfI (show jfI 345 150 (.getfield 232) 3 [12, 5, 0, 0, 7041] = true by decide +kernel) (isX12_L ho0) (by decide) ?_
  refine jEv.if_eq (t := 160) (show jfI 345 153 (.ifCond .eq 7) 3 [] = true by decide +kernel) rfl H (fun c10 H => ?_) (fun c10 H => ?_)
  · refine jEv.blk [(.aload_n 0, 1, []), (.iload_n 1, 1, []), (.iconst 2, 1, [])] (by decide +kernel) (pc' := 163) (ls' := [(2, Int.ofNat o0), (0, v1), (3, 0)]) (st' := [(0, 2), (0, v1), (2, Int.ofNat o0)]) rfl ?_
    refine jEv.ic_ge (t := 172) (show jfI 345 163 (.if_icmp .ge 9) 3 [] = true by decide +kernel) rfl H (fun c11 H => ?_) (fun c11 H => ?_)
    · refine jEv.blk [(.ldc2_w 732, 3, [1, 1, 1, 11005])] (by decide +kernel) (pc' := 169) (ls' := [(2, Int.ofNat o0), (0, v1), (3, 0)]) (st' := [(1, (-1)), (2, Int.ofNat o0)]) rfl ?_
      refine jEv.goto (t := 173) (show jfI 345 169 (.goto 4) 3 [] = true by decide +kernel) rfl ?_
      exact t_M_ask_p173 (T := T) (xs := xs) (y := y) hd ho0 ho0 H HY
    · refine jEv.blk [(.lconst 0, 1, [])] (by decide +kernel) (pc' := 173) (ls' := [(2, Int.ofNat o0), (0, v1), (3, 0)]) (st' := [(1, 0), (2, Int.ofNat o0)]) rfl ?_
      exact t_M_ask_p173 (T := T) (xs := xs) (y := y) hd ho0 ho0 H HY
  · refine jEv.blk [(.ldc2_w 737, 3, [1, 1, 1000000000000000, 11000])] (by decide +kernel) (pc' := 159) (ls' := [(2, Int.ofNat o0), (0, v1), (3, 0)]) (st' := [(1, (-1000000000000000))]) rfl ?_
    exact jEv.retJ (show jfI 345 159 (.lreturn) 1 [] = true by decide +kernel) (by decide +kernel) (by cases H; exact HY)
set_option maxRecDepth 20000 in
noncomputable def M_ask_p109  (h : jH) (o0 : Nat) (v1 : Int) : Option (Int × jH) := (if (h o0 5) = 0 then Option.bind (M_look h o0) (fun b7 => (if b7.1 = (-1) then M_ask_p133 b7.2 o0 v1 else Option.bind (M_fail b7.2 o0 1 (b7.2 o0 2)) (fun b9 => M_ask_p133 b9 o0 v1))) else M_ask_p133 h o0 v1)
set_option maxRecDepth 20000 in
theorem t_M_ask_p109 {T : jT} {xs : List Int} {d : Nat} {y : jV × jS} (hd : 9 ≤ d) {h : jH}  {o0 : Nat} {v1 : Int} {out : (Int × jH)} (ho0 : isX12 T o0) (H : M_ask_p109 h o0 v1 = some out) (HY : ykJ T y out) : jEv xs d (345, 109, [(2, Int.ofNat o0), (0, v1), (3, 0)], []) (T, h) y := by
  unfold M_ask_p109 at H
  refine jEv.blk [(.aload_n 0, 1, [])] (by decide +kernel) (pc' := 110) (ls' := [(2, Int.ofNat o0), (0, v1), (3, 0)]) (st' := [(2, Int.ofNat o0)]) rfl ?_
  refine jEv.gfI (show jfI 345 110 (.getfield 232) 3 [12, 5, 0, 0, 7041] = true by decide +kernel) (isX12_L ho0) (by decide) ?_
  refine jEv.if_ne (t := 133) (show jfI 345 113 (.ifCond .ne 20) 3 [] = true by decide +kernel) rfl H (fun c6 H => ?_) (fun c6 H => ?_)
  · refine jEv.blk [(.aload_n 0, 1, [])] (by decide +kernel) (pc' := 117) (ls' := [(2, Int.ofNat o0), (0, v1), (3, 0)]) (st' := [(2, Int.ofNat o0)]) rfl ?_
    refine jbind H (fun b7 Hb7 H => ?_)
    refine jEv.calV (st' := [(0, b7.1)]) (show jfI 345 117 (.invokevirtual 244) 3 [1, 208, 0, 8158] = true by decide +kernel) rfl (Or.inl rfl) rfl (Nat.le_of_ble_eq_true rfl) (by decide +kernel) (by decide) (isX12_L ho0) ((t_M_look (T := T) (xs := xs) ho0 Hb7).mono (jKle 1 hd)) rfl ?_
    refine jEv.blk [(.iconst (-1), 1, [])] (by decide +kernel) (pc' := 121) (ls' := [(2, Int.ofNat o0), (0, v1), (3, 0)]) (st' := [(0, (-1)), (0, b7.1)]) rfl ?_
    refine jEv.ic_eq (t := 133) (show jfI 345 121 (.if_icmp .eq 12) 3 [] = true by decide +kernel) rfl H (fun c8 H => ?_) (fun c8 H => ?_)
    · exact t_M_ask_p133 (T := T) (xs := xs) (y := y) hd ho0 H HY
    · refine jEv.blk [(.aload_n 0, 1, []), (.iconst 1, 1, []), (.aload_n 0, 1, [])] (by decide +kernel) (pc' := 127) (ls' := [(2, Int.ofNat o0), (0, v1), (3, 0)]) (st' := [(2, Int.ofNat o0), (0, 1), (2, Int.ofNat o0)]) rfl ?_
      refine jEv.gfI (show jfI 345 127 (.getfield 238) 3 [12, 2, 0, 0, 7038] = true by decide +kernel) (isX12_L ho0) (by decide) ?_
      refine jbind H (fun b9 Hb9 H => ?_)
      refine jEv.calV (st' := []) (show jfI 345 130 (.invokevirtual 262) 3 [1, 210, 2, 8165] = true by decide +kernel) rfl (Or.inl rfl) rfl (Nat.le_of_ble_eq_true rfl) (by decide +kernel) (by decide) (isX12_L ho0) ((t_M_fail (T := T) (xs := xs) ho0 Hb9).mono (jKle 1 hd)) rfl ?_
      exact t_M_ask_p133 (T := T) (xs := xs) (y := y) hd ho0 H HY
  · exact t_M_ask_p133 (T := T) (xs := xs) (y := y) hd ho0 H HY
set_option maxRecDepth 20000 in
noncomputable def M_ask_p98  (h : jH) (o0 : Nat) (v1 : Int) : Option (Int × jH) := (if (h o0 5) = 0 then Option.bind (M_qSums h o0) (fun b17 => M_ask_p109 b17 o0 v1) else M_ask_p109 h o0 v1)
set_option maxRecDepth 20000 in
theorem t_M_ask_p98 {T : jT} {xs : List Int} {d : Nat} {y : jV × jS} (hd : 9 ≤ d) {h : jH}  {o0 : Nat} {v1 : Int} {out : (Int × jH)} (ho0 : isX12 T o0) (H : M_ask_p98 h o0 v1 = some out) (HY : ykJ T y out) : jEv xs d (345, 98, [(2, Int.ofNat o0), (0, v1), (3, 0)], []) (T, h) y := by
  unfold M_ask_p98 at H
  refine jEv.blk [(.aload_n 0, 1, [])] (by decide +kernel) (pc' := 99) (ls' := [(2, Int.ofNat o0), (0, v1), (3, 0)]) (st' := [(2, Int.ofNat o0)]) rfl ?_
  refine jEv.gfI (show jfI 345 99 (.getfield 232) 3 [12, 5, 0, 0, 7041] = true by decide +kernel) (isX12_L ho0) (by decide) ?_
  refine jEv.if_ne (t := 109) (show jfI 345 102 (.ifCond .ne 7) 3 [] = true by decide +kernel) rfl H (fun c16 H => ?_) (fun c16 H => ?_)
  · refine jEv.blk [(.aload_n 0, 1, [])] (by decide +kernel) (pc' := 106) (ls' := [(2, Int.ofNat o0), (0, v1), (3, 0)]) (st' := [(2, Int.ofNat o0)]) rfl ?_
    refine jbind H (fun b17 Hb17 H => ?_)
    refine jEv.calV (st' := []) (show jfI 345 106 (.invokevirtual 309) 3 [1, 223, 0, 8215] = true by decide +kernel) rfl (Or.inl rfl) rfl (Nat.le_of_ble_eq_true rfl) (by decide +kernel) (by decide) (isX12_L ho0) ((t_M_qSums (T := T) (xs := xs) ho0 Hb17).mono (jKle 7 hd)) rfl ?_
    exact t_M_ask_p109 (T := T) (xs := xs) (y := y) hd ho0 H HY
  · exact t_M_ask_p109 (T := T) (xs := xs) (y := y) hd ho0 H HY
set_option maxRecDepth 20000 in
noncomputable def M_ask  (h : jH) (o0 : Nat) : Option (Int × jH) := (if (h o0 43) = 0 then some ((-1000000000000000), (jup h o0 1 0)) else Option.bind (M_qKind (jup (jup (jup (jup (jup (jup (jup (jup (jup (jup (jup h o0 3 (h o0 1)) o0 1 0) o0 2 0) o0 4 (-1)) o0 5 0) o0 6 (-1)) o0 44 2) o0 99 0) o0 101 0) o0 102 0) o0 103 0) o0) (fun b2 => (if (b2.2 o0 5) = 0 then (if b2.1 < 3 then Option.bind (M_qTest b2.2 o0) (fun b5 => M_ask_p109 b5 o0 b2.1) else M_ask_p98 b2.2 o0 b2.1) else M_ask_p98 b2.2 o0 b2.1)))
set_option maxRecDepth 20000 in
theorem t_M_ask {T : jT} {xs : List Int} {h : jH}  {o0 : Nat} {out : (Int × jH)} (ho0 : isX12 T o0) (H : M_ask h o0 = some out) : jEm xs 10 345 [(2, Int.ofNat o0)] (T, h) ((1, out.1), (T, out.2)) := by
  have hd : 9 ≤ 9 := Nat.le_refl _
  obtain ⟨y, ey⟩ : ∃ y : jV × jS, y = ((1, out.1), (T, out.2)) := ⟨_, rfl⟩
  rw [← ey]
  have HY : ykJ T y out := ey
  refine jEm.ent (n := 3) (by decide +kernel) (Nat.le_of_ble_eq_true rfl) ?_
  show jEv xs 9 (345, 0, [(2, Int.ofNat o0), (3, 0), (3, 0)], []) (T, h) y
  unfold M_ask at H
  refine jEv.blk [(.aload_n 0, 1, [])] (by decide +kernel) (pc' := 1) (ls' := [(2, Int.ofNat o0), (3, 0), (3, 0)]) (st' := [(2, Int.ofNat o0)]) rfl ?_
  refine jEv.gfI (show jfI 345 1 (.getfield 340) 3 [12, 43, 0, 1, 7079] = true by decide +kernel) (isX12_L ho0) (by decide) ?_
  refine jEv.if_ne (t := 16) (show jfI 345 4 (.ifCond .ne 12) 3 [] = true by decide +kernel) rfl H (fun c1 H => ?_) (fun c1 H => ?_)
  · refine jEv.blk [(.aload_n 0, 1, []), (.iconst 0, 1, [])] (by decide +kernel) (pc' := 9) (ls' := [(2, Int.ofNat o0), (3, 0), (3, 0)]) (st' := [(0, 0), (2, Int.ofNat o0)]) rfl ?_
    refine jEv.pfI (show jfI 345 9 (.putfield 229) 3 [12, 1, 0, 0, 7037] = true by decide +kernel) (isX12_L ho0) (by decide) ?_
    refine jEv.blk [(.ldc2_w 737, 3, [1, 1, 1000000000000000, 11000])] (by decide +kernel) (pc' := 15) (ls' := [(2, Int.ofNat o0), (3, 0), (3, 0)]) (st' := [(1, (-1000000000000000))]) rfl ?_
    exact jEv.retJ (show jfI 345 15 (.lreturn) 1 [] = true by decide +kernel) (by decide +kernel) (by cases H; exact HY)
  · refine jEv.blk [(.aload_n 0, 1, []), (.aload_n 0, 1, [])] (by decide +kernel) (pc' := 18) (ls' := [(2, Int.ofNat o0), (3, 0), (3, 0)]) (st' := [(2, Int.ofNat o0), (2, Int.ofNat o0)]) rfl ?_
    refine jEv.gfI (show jfI 345 18 (.getfield 229) 3 [12, 1, 0, 0, 7037] = true by decide +kernel) (isX12_L ho0) (by decide) ?_
    refine jEv.pfI (show jfI 345 21 (.putfield 241) 3 [12, 3, 0, 0, 7039] = true by decide +kernel) (isX12_L ho0) (by decide) ?_
    refine jEv.blk [(.aload_n 0, 1, []), (.iconst 0, 1, [])] (by decide +kernel) (pc' := 26) (ls' := [(2, Int.ofNat o0), (3, 0), (3, 0)]) (st' := [(0, 0), (2, Int.ofNat o0)]) rfl ?_
    refine jEv.pfI (show jfI 345 26 (.putfield 229) 3 [12, 1, 0, 0, 7037] = true by decide +kernel) (isX12_L ho0) (by decide) ?_
    refine jEv.blk [(.aload_n 0, 1, []), (.iconst 0, 1, [])] (by decide +kernel) (pc' := 31) (ls' := [(2, Int.ofNat o0), (3, 0), (3, 0)]) (st' := [(0, 0), (2, Int.ofNat o0)]) rfl ?_
    refine jEv.pfI (show jfI 345 31 (.putfield 238) 3 [12, 2, 0, 0, 7038] = true by decide +kernel) (isX12_L ho0) (by decide) ?_
    refine jEv.blk [(.aload_n 0, 1, []), (.iconst (-1), 1, [])] (by decide +kernel) (pc' := 36) (ls' := [(2, Int.ofNat o0), (3, 0), (3, 0)]) (st' := [(0, (-1)), (2, Int.ofNat o0)]) rfl ?_
    refine jEv.pfI (show jfI 345 36 (.putfield 252) 3 [12, 4, 0, 0, 7040] = true by decide +kernel) (isX12_L ho0) (by decide) ?_
    refine jEv.blk [(.aload_n 0, 1, []), (.iconst 0, 1, [])] (by decide +kernel) (pc' := 41) (ls' := [(2, Int.ofNat o0), (3, 0), (3, 0)]) (st' := [(0, 0), (2, Int.ofNat o0)]) rfl ?_
    refine jEv.pfI (show jfI 345 41 (.putfield 232) 3 [12, 5, 0, 0, 7041] = true by decide +kernel) (isX12_L ho0) (by decide) ?_
    refine jEv.blk [(.aload_n 0, 1, []), (.iconst (-1), 1, [])] (by decide +kernel) (pc' := 46) (ls' := [(2, Int.ofNat o0), (3, 0), (3, 0)]) (st' := [(0, (-1)), (2, Int.ofNat o0)]) rfl ?_
    refine jEv.pfI (show jfI 345 46 (.putfield 235) 3 [12, 6, 0, 0, 7042] = true by decide +kernel) (isX12_L ho0) (by decide) ?_
    refine jEv.blk [(.aload_n 0, 1, []), (.iconst 2, 1, [])] (by decide +kernel) (pc' := 51) (ls' := [(2, Int.ofNat o0), (3, 0), (3, 0)]) (st' := [(0, 2), (2, Int.ofNat o0)]) rfl ?_
    refine jEv.pfI (show jfI 345 51 (.putfield 279) 3 [12, 44, 0, 0, 7080] = true by decide +kernel) (isX12_L ho0) (by decide) ?_
    refine jEv.blk [(.aload_n 0, 1, []), (.iconst 0, 1, [])] (by decide +kernel) (pc' := 56) (ls' := [(2, Int.ofNat o0), (3, 0), (3, 0)]) (st' := [(0, 0), (2, Int.ofNat o0)]) rfl ?_
    refine jEv.pfI (show jfI 345 56 (.putfield 294) 3 [12, 99, 0, 0, 7135] = true by decide +kernel) (isX12_L ho0) (by decide) ?_
    refine jEv.blk [(.aload_n 0, 1, []), (.iconst 0, 1, [])] (by decide +kernel) (pc' := 61) (ls' := [(2, Int.ofNat o0), (3, 0), (3, 0)]) (st' := [(0, 0), (2, Int.ofNat o0)]) rfl ?_
    refine jEv.pfI (show jfI 345 61 (.putfield 297) 3 [12, 101, 0, 0, 7137] = true by decide +kernel) (isX12_L ho0) (by decide) ?_
    refine jEv.blk [(.aload_n 0, 1, []), (.iconst 0, 1, [])] (by decide +kernel) (pc' := 66) (ls' := [(2, Int.ofNat o0), (3, 0), (3, 0)]) (st' := [(0, 0), (2, Int.ofNat o0)]) rfl ?_
    refine jEv.pfI (show jfI 345 66 (.putfield 300) 3 [12, 102, 0, 0, 7138] = true by decide +kernel) (isX12_L ho0) (by decide) ?_
    refine jEv.blk [(.aload_n 0, 1, []), (.iconst 0, 1, [])] (by decide +kernel) (pc' := 71) (ls' := [(2, Int.ofNat o0), (3, 0), (3, 0)]) (st' := [(0, 0), (2, Int.ofNat o0)]) rfl ?_
    refine jEv.pfI (show jfI 345 71 (.putfield 303) 3 [12, 103, 0, 0, 7139] = true by decide +kernel) (isX12_L ho0) (by decide) ?_
    refine jEv.blk [(.aload_n 0, 1, [])] (by decide +kernel) (pc' := 75) (ls' := [(2, Int.ofNat o0), (3, 0), (3, 0)]) (st' := [(2, Int.ofNat o0)]) rfl ?_
    refine jbind H (fun b2 Hb2 H => ?_)
    refine jEv.calV (st' := [(0, b2.1)]) (show jfI 345 75 (.invokevirtual 739) 3 [1, 346, 0, 11001] = true by decide +kernel) rfl (Or.inl rfl) rfl (Nat.le_of_ble_eq_true rfl) (by decide +kernel) (by decide) (isX12_L ho0) ((t_M_qKind (T := T) (xs := xs) ho0 Hb2).mono (jKle 5 hd)) rfl ?_
    refine jEv.blk [(.istore_n 1, 1, []), (.aload_n 0, 1, [])] (by decide +kernel) (pc' := 80) (ls' := [(2, Int.ofNat o0), (0, b2.1), (3, 0)]) (st' := [(2, Int.ofNat o0)]) rfl ?_
    refine jEv.gfI (show jfI 345 80 (.getfield 232) 3 [12, 5, 0, 0, 7041] = true by decide +kernel) (isX12_L ho0) (by decide) ?_
    refine jEv.if_ne (t := 98) (show jfI 345 83 (.ifCond .ne 15) 3 [] = true by decide +kernel) rfl H (fun c3 H => ?_) (fun c3 H => ?_)
    · refine jEv.blk [(.iload_n 1, 1, []), (.iconst 3, 1, [])] (by decide +kernel) (pc' := 88) (ls' := [(2, Int.ofNat o0), (0, b2.1), (3, 0)]) (st' := [(0, 3), (0, b2.1)]) rfl ?_
      refine jEv.ic_ge (t := 98) (show jfI 345 88 (.if_icmp .ge 10) 3 [] = true by decide +kernel) rfl H (fun c4 H => ?_) (fun c4 H => ?_)
      · refine jEv.blk [(.aload_n 0, 1, [])] (by decide +kernel) (pc' := 92) (ls' := [(2, Int.ofNat o0), (0, b2.1), (3, 0)]) (st' := [(2, Int.ofNat o0)]) rfl ?_
        refine jbind H (fun b5 Hb5 H => ?_)
        refine jEv.calV (st' := []) (show jfI 345 92 (.invokevirtual 306) 3 [1, 219, 0, 8199] = true by decide +kernel) rfl (Or.inl rfl) rfl (Nat.le_of_ble_eq_true rfl) (by decide +kernel) (by decide) (isX12_L ho0) ((t_M_qTest (T := T) (xs := xs) ho0 Hb5).mono (jKle 9 hd)) rfl ?_
        refine jEv.goto (t := 109) (show jfI 345 95 (.goto 14) 3 [] = true by decide +kernel) rfl ?_
        exact t_M_ask_p109 (T := T) (xs := xs) (y := y) hd ho0 H HY
      · exact t_M_ask_p98 (T := T) (xs := xs) (y := y) hd ho0 H HY
    · exact t_M_ask_p98 (T := T) (xs := xs) (y := y) hd ho0 H HY
