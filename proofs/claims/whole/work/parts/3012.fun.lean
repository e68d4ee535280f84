/-! methods as functions -/
set_option maxRecDepth 20000 in
noncomputable def M_octet_p21  (h : jH)  : Option Int := some (-1)
set_option maxRecDepth 20000 in
theorem t_M_octet_p21 {T : jT} {xs : List Int} {d : Nat} {y : jV × jS} (hd : 0 ≤ d) {h : jH}   {out : Int}  (H : M_octet_p21 h = some out) (HY : ykIp T h y out) : jEv xs d (350, 21, [(3, 0), (3, 0)], []) (T, h) y := by
  unfold M_octet_p21 at H
  refine jEv.blk [(.iconst (-1), 1, [])] (by decide +kernel) (pc' := 22) (ls' := [(3, 0), (3, 0)]) (st' := [(0, (-1))]) rfl ?_
  exact jEv.retI (show jfI 350 22 (.ireturn) 1 [] = true by decide +kernel) (by decide +kernel) (by cases H; exact HY)
set_option maxRecDepth 20000 in
noncomputable def M_octet  (h : jH) (o0 : Nat) (v1 : Int) : Option Int := (if v1 < 0 then M_octet_p21 h else (if v1 < (h o0 109) then (if (0 : Int) ≤ v1 ∧ (v1 : Int).toNat < 547 then some (h (o0 + 68) (v1 : Int).toNat) else none) else M_octet_p21 h))
set_option maxRecDepth 20000 in
theorem t_M_octet {T : jT} {xs : List Int} {h : jH}  {o0 : Nat} {v1 : Int} {out : Int} (ho0 : isX12 T o0) (H : M_octet h o0 v1 = some out) : jEm xs 1 350 [(2, Int.ofNat o0), (0, v1)] (T, h) ((0, out), (T, h)) := by
  have hd : 0 ≤ 0 := Nat.le_refl _
  obtain ⟨y, ey⟩ : ∃ y : jV × jS, y = ((0, out), (T, h)) := ⟨_, rfl⟩
  rw [← ey]
  have HY : ykIp T h y out := ey
  refine jEm.ent (n := 2) (by decide +kernel) (Nat.le_of_ble_eq_true rfl) ?_
  show jEv xs 0 (350, 0, [(2, Int.ofNat o0), (0, v1)], []) (T, h) y
  unfold M_octet at H
  refine jEv.blk [(.iload_n 1, 1, [])] (by decide +kernel) (pc' := 1) (ls' := [(2, Int.ofNat o0), (0, v1)]) (st' := [(0, v1)]) rfl ?_
  refine jEv.if_lt (t := 21) (show jfI 350 1 (.ifCond .lt 20) 3 [] = true by decide +kernel) rfl H (fun c1 H => ?_) (fun c1 H => ?_)
  · exact jEv.weak (a := [(3, 0), (3, 0)]) (jles.c0 (jles.c0 jles.nl)) (t_M_octet_p21 (T := T) (xs := xs) (y := y) hd H HY)
  · refine jEv.blk [(.iload_n 1, 1, []), (.aload_n 0, 1, [])] (by decide +kernel) (pc' := 6) (ls' := [(2, Int.ofNat o0), (0, v1)]) (st' := [(2, Int.ofNat o0), (0, v1)]) rfl ?_
    refine jEv.gfI (show jfI 350 6 (.getfield 749) 3 [12, 109, 0, 0, 7145] = true by decide +kernel) (isX12_L ho0) (by decide) ?_
    refine jEv.ic_ge (t := 21) (show jfI 350 9 (.if_icmp .ge 12) 3 [] = true by decide +kernel) rfl H (fun c2 H => ?_) (fun c2 H => ?_)
    · refine jEv.blk [(.aload_n 0, 1, [])] (by decide +kernel) (pc' := 13) (ls' := [(2, Int.ofNat o0), (0, v1)]) (st' := [(2, Int.ofNat o0)]) rfl ?_
      refine jEv.gfR (o' := (o0 + 68)) (show jfI 350 13 (.getfield 226) 3 [12, 108, 5, 0, 7144] = true by decide +kernel) (isX12_L ho0) (by decide) (isX12_r108 ho0) ?_
      refine jEv.blk [(.iload_n 1, 1, [])] (by decide +kernel) (pc' := 17) (ls' := [(2, Int.ofNat o0), (0, v1)]) (st' := [(0, v1), (2, Int.ofNat (o0 + 68))]) rfl ?_
      refine jEv.ald (Or.inl ⟨rfl, rfl, rfl⟩) (show jfI 350 17 (.iaload) 1 [] = true by decide +kernel) (isX12_a108 ho0) H (fun c3 H => ?_)
      refine jEv.goto (t := 22) (show jfI 350 18 (.goto 4) 3 [] = true by decide +kernel) rfl ?_
      exact jEv.retI (show jfI 350 22 (.ireturn) 1 [] = true by decide +kernel) (by decide +kernel) (by cases H; exact HY)
    · exact jEv.weak (a := [(3, 0), (3, 0)]) (jles.c0 (jles.c0 jles.nl)) (t_M_octet_p21 (T := T) (xs := xs) (y := y) hd H HY)
set_option maxRecDepth 20000 in
noncomputable def M_status  (h : jH) (o0 : Nat) (v1 : Int) : Option Int := Option.bind (M_isIn v1 0 6) (fun b1 => (if b1 = 0 then some (-1) else (if (0 : Int) ≤ v1 ∧ (v1 : Int).toNat < 7 then some (h (o0 + 2) (v1 : Int).toNat) else none)))
set_option maxRecDepth 20000 in
theorem t_M_status {T : jT} {xs : List Int} {h : jH}  {o0 : Nat} {v1 : Int} {out : Int} (ho0 : isX12 T o0) (H : M_status h o0 v1 = some out) : jEm xs 2 351 [(2, Int.ofNat o0), (0, v1)] (T, h) ((0, out), (T, h)) := by
  have hd : 1 ≤ 1 := Nat.le_refl _
  obtain ⟨y, ey⟩ : ∃ y : jV × jS, y = ((0, out), (T, h)) := ⟨_, rfl⟩
  rw [← ey]
  have HY : ykIp T h y out := ey
  refine jEm.ent (n := 2) (by decide +kernel) (Nat.le_of_ble_eq_true rfl) ?_
  show jEv xs 1 (351, 0, [(2, Int.ofNat o0), (0, v1)], []) (T, h) y
  unfold M_status at H
  refine jEv.blk [(.iload_n 1, 1, []), (.i2l, 1, []), (.lconst 0, 1, []), (.ldc2_w 755, 3, [1, 0, 6, 11026])] (by decide +kernel) (pc' := 6) (ls' := [(2, Int.ofNat o0), (0, v1)]) (st' := [(1, 6), (1, 0), (1, v1)]) rfl ?_
  refine jbind H (fun b1 Hb1 H => ?_)
  refine jEv.calS (st' := [(0, b1)]) (show jfI 351 6 (.invokestatic 275) 3 [3, 213, 3, 8176] = true by decide +kernel) rfl (Or.inl rfl) rfl (Nat.le_of_ble_eq_true rfl) ((t_M_isIn (T := T) (xs := xs)  Hb1).mono (jKle 1 hd)) rfl ?_
  refine jEv.if_eq (t := 21) (show jfI 351 9 (.ifCond .eq 12) 3 [] = true by decide +kernel) rfl H (fun c2 H => ?_) (fun c2 H => ?_)
  · refine jEv.blk [(.iconst (-1), 1, [])] (by decide +kernel) (pc' := 22) (ls' := [(2, Int.ofNat o0), (0, v1)]) (st' := [(0, (-1))]) rfl ?_
    exact jEv.retI (show jfI 351 22 (.ireturn) 1 [] = true by decide +kernel) (by decide +kernel) (by cases H; exact HY)
  · refine jEv.blk [(.aload_n 0, 1, [])] (by decide +kernel) (pc' := 13) (ls' := [(2, Int.ofNat o0), (0, v1)]) (st' := [(2, Int.ofNat o0)]) rfl ?_
    refine jEv.gfR (o' := (o0 + 2)) (show jfI 351 13 (.getfield 17) 3 [12, 9, 5, 0, 7045] = true by decide +kernel) (isX12_L ho0) (by decide) (isX12_r9 ho0) ?_
    refine jEv.blk [(.iload_n 1, 1, [])] (by decide +kernel) (pc' := 17) (ls' := [(2, Int.ofNat o0), (0, v1)]) (st' := [(0, v1), (2, Int.ofNat (o0 + 2))]) rfl ?_
    refine jEv.ald (Or.inl ⟨rfl, rfl, rfl⟩) (show jfI 351 17 (.iaload) 1 [] = true by decide +kernel) (isX12_a9 ho0) H (fun c3 H => ?_)
    refine jEv.goto (t := 22) (show jfI 351 18 (.goto 4) 3 [] = true by decide +kernel) rfl ?_
    exact jEv.retI (show jfI 351 22 (.ireturn) 1 [] = true by decide +kernel) (by decide +kernel) (by cases H; exact HY)
set_option maxRecDepth 20000 in
noncomputable def M_writes  (h : jH) (o0 : Nat) (v1 : Int) : Option jH := (if (0 : Int) ≤ (h o0 109) ∧ ((h o0 109) : Int).toNat < 547 then some (jup (jup h (o0 + 68) ((h o0 109) : Int).toNat v1) o0 109 (wr (((jup h (o0 + 68) ((h o0 109) : Int).toNat v1) o0 109) + 1))) else none)
set_option maxRecDepth 20000 in
theorem t_M_writes {T : jT} {xs : List Int} {h : jH}  {o0 : Nat} {v1 : Int} {out : jH} (ho0 : isX12 T o0) (H : M_writes h o0 v1 = some out) : jEm xs 1 354 [(2, Int.ofNat o0), (0, v1)] (T, h) ((3, 0), (T, out)) := by
  have hd : 0 ≤ 0 := Nat.le_refl _
  obtain ⟨y, ey⟩ : ∃ y : jV × jS, y = ((3, 0), (T, out)) := ⟨_, rfl⟩
  rw [← ey]
  have HY : ykV T y out := ey
  refine jEm.ent (n := 2) (by decide +kernel) (Nat.le_of_ble_eq_true rfl) ?_
  show jEv xs 0 (354, 0, [(2, Int.ofNat o0), (0, v1)], []) (T, h) y
  unfold M_writes at H
  refine jEv.blk [(.aload_n 0, 1, [])] (by decide +kernel) (pc' := 1) (ls' := [(2, Int.ofNat o0), (0, v1)]) (st' := [(2, Int.ofNat o0)]) rfl ?_
  refine jEv.gfR (o' := (o0 + 68)) (show jfI 354 1 (.getfield 226) 3 [12, 108, 5, 0, 7144] = true by decide +kernel) (isX12_L ho0) (by decide) (isX12_r108 ho0) ?_
  refine jEv.blk [(.aload_n 0, 1, [])] (by decide +kernel) (pc' := 5) (ls' := [(2, Int.ofNat o0), (0, v1)]) (st' := [(2, Int.ofNat o0), (2, Int.ofNat (o0 + 68))]) rfl ?_
  refine jEv.gfI (show jfI 354 5 (.getfield 749) 3 [12, 109, 0, 0, 7145] = true by decide +kernel) (isX12_L ho0) (by decide) ?_
  refine jEv.blk [(.iload_n 1, 1, [])] (by decide +kernel) (pc' := 9) (ls' := [(2, Int.ofNat o0), (0, v1)]) (st' := [(0, v1), (0, (h o0 109)), (2, Int.ofNat (o0 + 68))]) rfl ?_
  refine jEv.ast (Or.inl ⟨rfl, rfl, rfl⟩) (show jfI 354 9 (.iastore) 1 [] = true by decide +kernel) (isX12_a108 ho0) rfl H (fun c1 H => ?_)
  refine jEv.blk [(.aload_n 0, 1, []), (.dup, 1, [])] (by decide +kernel) (pc' := 12) (ls' := [(2, Int.ofNat o0), (0, v1)]) (st' := [(2, Int.ofNat o0), (2, Int.ofNat o0)]) rfl ?_
  refine jEv.gfI (show jfI 354 12 (.getfield 749) 3 [12, 109, 0, 0, 7145] = true by decide +kernel) (isX12_L ho0) (by decide) ?_
  refine jEv.blk [(.iconst 1, 1, []), (.iadd, 1, [])] (by decide +kernel) (pc' := 17) (ls' := [(2, Int.ofNat o0), (0, v1)]) (st' := [(0, (wr (((jup h (o0 + 68) ((h o0 109) : Int).toNat v1) o0 109) + 1))), (2, Int.ofNat o0)]) rfl ?_
  refine jEv.pfI (show jfI 354 17 (.putfield 749) 3 [12, 109, 0, 0, 7145] = true by decide +kernel) (isX12_L ho0) (by decide) ?_
  exact jEv.retV (show jfI 354 20 (.return_) 1 [] = true by decide +kernel) (by decide +kernel) (by cases H; exact HY)
set_option maxRecDepth 20000 in
noncomputable def M_writesTwo  (h : jH) (o0 : Nat) (v1 : Int) : Option jH := Option.bind (M_writes h o0 (wr (Int.tdiv v1 256))) (fun b1 => Option.bind (M_writes b1 o0 (Int.tmod v1 256)) (fun b2 => some b2))
set_option maxRecDepth 20000 in
theorem t_M_writesTwo {T : jT} {xs : List Int} {h : jH}  {o0 : Nat} {v1 : Int} {out : jH} (ho0 : isX12 T o0) (H : M_writesTwo h o0 v1 = some out) : jEm xs 2 353 [(2, Int.ofNat o0), (0, v1)] (T, h) ((3, 0), (T, out)) := by
  have hd : 1 ≤ 1 := Nat.le_refl _
  obtain ⟨y, ey⟩ : ∃ y : jV × jS, y = ((3, 0), (T, out)) := ⟨_, rfl⟩
  rw [← ey]
  have HY : ykV T y out := ey
  refine jEm.ent (n := 2) (by decide +kernel) (Nat.le_of_ble_eq_true rfl) ?_
  show jEv xs 1 (353, 0, [(2, Int.ofNat o0), (0, v1)], []) (T, h) y
  unfold M_writesTwo at H
  refine jEv.blk [(.aload_n 0, 1, []), (.iload_n 1, 1, []), (.sipush 256, 3, [])] (by decide +kernel) (pc' := 5) (ls' := [(2, Int.ofNat o0), (0, v1)]) (st' := [(0, 256), (0, v1), (2, Int.ofNat o0)]) rfl ?_
  refine jEv.idiv (show jfI 353 5 (.idiv) 1 [] = true by decide +kernel) (by decide) ?_
  refine jbind H (fun b1 Hb1 H => ?_)
  refine jEv.calV (st' := []) (show jfI 353 6 (.invokevirtual 752) 3 [1, 354, 1, 11036] = true by decide +kernel) rfl (Or.inl rfl) rfl (Nat.le_of_ble_eq_true rfl) (by decide +kernel) (by decide) (isX12_L ho0) ((t_M_writes (T := T) (xs := xs) ho0 Hb1).mono (jKle 1 hd)) rfl ?_
  refine jEv.blk [(.aload_n 0, 1, []), (.iload_n 1, 1, []), (.sipush 256, 3, [])] (by decide +kernel) (pc' := 14) (ls' := [(2, Int.ofNat o0), (0, v1)]) (st' := [(0, 256), (0, v1), (2, Int.ofNat o0)]) rfl ?_
  refine jEv.irem (show jfI 353 14 (.irem) 1 [] = true by decide +kernel) (by decide) ?_
  refine jbind H (fun b2 Hb2 H => ?_)
  refine jEv.calV (st' := []) (show jfI 353 15 (.invokevirtual 752) 3 [1, 354, 1, 11036] = true by decide +kernel) rfl (Or.inl rfl) rfl (Nat.le_of_ble_eq_true rfl) (by decide +kernel) (by decide) (isX12_L ho0) ((t_M_writes (T := T) (xs := xs) ho0 Hb2).mono (jKle 1 hd)) rfl ?_
  exact jEv.retV (show jfI 353 18 (.return_) 1 [] = true by decide +kernel) (by decide +kernel) (by cases H; exact HY)
def yk_M_checked_L6 (T : jT) (xs : List Int) (d : Nat) (y : jV × jS) (h : jH)  (r0 : Nat) (n0 : Nat) (v1 : Int) : ((Int × Int) ⊕ Int) → Prop
  | .inl (v2, v3) => jEv xs d (355, 6, [(2, Int.ofNat r0), (0, v1), (0, v2), (0, v3)], []) (T, h) y
  | .inr o => ykIp T h y o
set_option maxRecDepth 20000 in
noncomputable def M_checked_B6  (h : jH) (r0 : Nat) (n0 : Nat) (v1 : Int) (v2 : Int) (v3 : Int) : Option ((Int × Int) ⊕ Int) := (if v3 < v1 then (if (0 : Int) ≤ v3 ∧ (v3 : Int).toNat < n0 then some (.inl ((Int.tmod (wr ((wr (3 * v2)) + (h r0 (v3 : Int).toNat))) 251), (wr (v3 + 1)))) else none) else Option.map Sum.inr (some v2))
noncomputable def M_checked_L6  (h : jH) (r0 : Nat) (n0 : Nat) (v1 : Int) (v2 : Int) (v3 : Int) : Option Int := jloop (fun s : (Int × Int) => M_checked_B6 h r0 n0 v1 s.1 s.2) (v2, v3)
set_option maxRecDepth 20000 in
theorem t_M_checked_B6 {T : jT} {xs : List Int} {d : Nat} {y : jV × jS} (hd : 0 ≤ d) {h : jH}  {r0 : Nat} {n0 : Nat} {v1 : Int} {v2 : Int} {v3 : Int} {out : ((Int × Int) ⊕ Int)} (hr0 : T.1[r0]? = some (20, n0)) (H : M_checked_B6 h r0 n0 v1 v2 v3 = some out) (HY : yk_M_checked_L6 T xs d y h r0 n0 v1 out) : jEv xs d (355, 6, [(2, Int.ofNat r0), (0, v1), (0, v2), (0, v3)], []) (T, h) y := by
  unfold M_checked_B6 at H
  refine jEv.blk [(.iload_n 3, 1, []), (.iload_n 1, 1, [])] (by decide +kernel) (pc' := 8) (ls' := [(2, Int.ofNat r0), (0, v1), (0, v2), (0, v3)]) (st' := [(0, v1), (0, v3)]) rfl ?_
  refine jEv.ic_ge (t := 29) (show jfI 355 8 (.if_icmp .ge 21) 3 [] = true by decide +kernel) rfl H (fun c1 H => ?_) (fun c1 H => ?_)
  · refine jEv.blk [(.iconst 3, 1, []), (.iload_n 2, 1, []), (.imul, 1, []), (.aload_n 0, 1, []), (.iload_n 3, 1, [])] (by decide +kernel) (pc' := 16) (ls' := [(2, Int.ofNat r0), (0, v1), (0, v2), (0, v3)]) (st' := [(0, v3), (2, Int.ofNat r0), (0, (wr (3 * v2)))]) rfl ?_
    refine jEv.ald (Or.inl ⟨rfl, rfl, rfl⟩) (show jfI 355 16 (.iaload) 1 [] = true by decide +kernel) hr0 H (fun c2 H => ?_)
    refine jEv.blk [(.iadd, 1, []), (.sipush 251, 3, [])] (by decide +kernel) (pc' := 21) (ls' := [(2, Int.ofNat r0), (0, v1), (0, v2), (0, v3)]) (st' := [(0, 251), (0, (wr ((wr (3 * v2)) + (h r0 (v3 : Int).toNat))))]) rfl ?_
    refine jEv.irem (show jfI 355 21 (.irem) 1 [] = true by decide +kernel) (by decide) ?_
    refine jEv.blk [(.istore_n 2, 1, []), (.iinc 3 1, 3, [])] (by decide +kernel) (pc' := 26) (ls' := [(2, Int.ofNat r0), (0, v1), (0, (Int.tmod (wr ((wr (3 * v2)) + (h r0 (v3 : Int).toNat))) 251)), (0, (wr (v3 + 1)))]) (st' := []) rfl ?_
    refine jEv.goto (t := 6) (show jfI 355 26 (.goto (-20)) 3 [] = true by decide +kernel) rfl ?_
    exact (by cases H; exact HY)
  · refine jmapr H HY (fun out H (HY : ykIp T h y out) => ?_)
    refine jEv.blk [(.iload_n 2, 1, [])] (by decide +kernel) (pc' := 30) (ls' := [(2, Int.ofNat r0), (0, v1), (0, v2), (0, v3)]) (st' := [(0, v2)]) rfl ?_
    exact jEv.retI (show jfI 355 30 (.ireturn) 1 [] = true by decide +kernel) (by decide +kernel) (by cases H; exact HY)
theorem t_M_checked_L6 {T : jT} {xs : List Int} {d : Nat} {y : jV × jS} (hd : 0 ≤ d) {h : jH}  {r0 : Nat} {n0 : Nat} {v1 : Int} {v2 : Int} {v3 : Int} {out : Int} (hr0 : T.1[r0]? = some (20, n0)) (H : M_checked_L6 h r0 n0 v1 v2 v3 = some out) (HY : ykIp T h y out) : jEv xs d (355, 6, [(2, Int.ofNat r0), (0, v1), (0, v2), (0, v3)], []) (T, h) y :=
  jloop_sound (G := fun s : (Int × Int) => jEv xs d (355, 6, [(2, Int.ofNat r0), (0, v1), (0, s.1), (0, s.2)], []) (T, h) y) (K := yk_M_checked_L6 T xs d y h r0 n0 v1) (fun s out H HY => t_M_checked_B6 hd hr0 H HY) (fun s' hg => hg) (s := (v2, v3)) H HY
set_option maxRecDepth 20000 in
noncomputable def M_checked  (h : jH) (r0 : Nat) (n0 : Nat) (v1 : Int) : Option Int := M_checked_L6 h r0 n0 v1 139 0
set_option maxRecDepth 20000 in
theorem t_M_checked {T : jT} {xs : List Int} {h : jH}  {r0 : Nat} {n0 : Nat} {v1 : Int} {out : Int} (hr0 : T.1[r0]? = some (20, n0)) (H : M_checked h r0 n0 v1 = some out) : jEm xs 1 355 [(2, Int.ofNat r0), (0, v1)] (T, h) ((0, out), (T, h)) := by
  have hd : 0 ≤ 0 := Nat.le_refl _
  obtain ⟨y, ey⟩ : ∃ y : jV × jS, y = ((0, out), (T, h)) := ⟨_, rfl⟩
  rw [← ey]
  have HY : ykIp T h y out := ey
  refine jEm.ent (n := 4) (by decide +kernel) (Nat.le_of_ble_eq_true rfl) ?_
  show jEv xs 0 (355, 0, [(2, Int.ofNat r0), (0, v1), (3, 0), (3, 0)], []) (T, h) y
  unfold M_checked at H
  refine jEv.blk [(.sipush 139, 3, []), (.istore_n 2, 1, []), (.iconst 0, 1, []), (.istore_n 3, 1, [])] (by decide +kernel) (pc' := 6) (ls' := [(2, Int.ofNat r0), (0, v1), (0, 139), (0, 0)]) (st' := []) rfl ?_
  exact t_M_checked_L6 (T := T) (xs := xs) (y := y) hd hr0 H HY
def yk_M_image_L79 (T : jT) (xs : List Int) (d : Nat) (y : jV × jS)  (o0 : Nat) : ((Int × jH) ⊕ (Int × jH)) → Prop
  | .inl (v1, h) => jEv xs d (352, 79, [(2, Int.ofNat o0), (0, v1), (3, 0)], []) (T, h) y
  | .inr o => ykI T y o
def yk_M_image_L89 (T : jT) (xs : List Int) (d : Nat) (y : jV × jS)  (o0 : Nat) (v1 : Int) : ((Int × jH) ⊕ ((Int × jH) ⊕ (Int × jH))) → Prop
  | .inl (v2, h) => jEv xs d (352, 89, [(2, Int.ofNat o0), (0, v1), (0, v2)], []) (T, h) y
  | .inr o => yk_M_image_L79 T xs d y o0 o
def yk_M_image_L31 (T : jT) (xs : List Int) (d : Nat) (y : jV × jS)  (o0 : Nat) : ((Int × jH) ⊕ (Int × jH)) → Prop
  | .inl (v1, h) => jEv xs d (352, 31, [(2, Int.ofNat o0), (0, v1), (3, 0)], []) (T, h) y
  | .inr o => ykI T y o
set_option maxRecDepth 20000 in
noncomputable def M_image_p68  (h : jH) (o0 : Nat) (v1 : Int) (os0 : Nat) (vs1 : Int) : Option ((Int × jH) ⊕ (Int × jH)) := Option.bind (M_writesTwo h os0 vs1) (fun b8 => some (.inl ((wr (v1 + 1)), b8)))
set_option maxRecDepth 20000 in
theorem t_M_image_p68 {T : jT} {xs : List Int} {d : Nat} {y : jV × jS} (hd : 2 ≤ d) {h : jH}  {o0 : Nat} {v1 : Int} {os0 : Nat} {vs1 : Int} {out : ((Int × jH) ⊕ (Int × jH))} (ho0 : isX12 T o0) (hos0 : isX12 T os0) (H : M_image_p68 h o0 v1 os0 vs1 = some out) (HY : yk_M_image_L31 T xs d y o0 out) : jEv xs d (352, 68, [(2, Int.ofNat o0), (0, v1), (3, 0)], [(0, vs1), (2, Int.ofNat os0)]) (T, h) y := by
  unfold M_image_p68 at H
  refine jbind H (fun b8 Hb8 H => ?_)
  refine jEv.calV (st' := []) (show jfI 352 68 (.invokevirtual 758) 3 [1, 353, 1, 11032] = true by decide +kernel) rfl (Or.inl rfl) rfl (Nat.le_of_ble_eq_true rfl) (by decide +kernel) (by decide) (isX12_L hos0) ((t_M_writesTwo (T := T) (xs := xs) hos0 Hb8).mono (jKle 2 hd)) rfl ?_
  refine jEv.blk [(.iinc 1 1, 3, [])] (by decide +kernel) (pc' := 74) (ls' := [(2, Int.ofNat o0), (0, (wr (v1 + 1))), (3, 0)]) (st' := []) rfl ?_
  refine jEv.goto (t := 31) (show jfI 352 74 (.goto (-43)) 3 [] = true by decide +kernel) rfl ?_
  exact (by cases H; exact HY)
set_option maxRecDepth 20000 in
noncomputable def M_image_B89  (h : jH) (o0 : Nat) (v1 : Int) (v2 : Int) : Option ((Int × jH) ⊕ ((Int × jH) ⊕ (Int × jH))) := Option.bind (M_length h o0) (fun b13 => (if v2 < b13 then Option.bind (M_diskAt h o0 v1 v2) (fun b15 => Option.bind (M_writes h o0 b15) (fun b16 => some (.inl ((wr (v2 + 1)), b16)))) else Option.map Sum.inr (some (.inl ((wr (v1 + 1)), h)))))
noncomputable def M_image_L89  (h : jH) (o0 : Nat) (v1 : Int) (v2 : Int) : Option ((Int × jH) ⊕ (Int × jH)) := jloop (fun s : (Int × jH) => M_image_B89 s.2 o0 v1 s.1) (v2, h)
set_option maxRecDepth 20000 in
theorem t_M_image_B89 {T : jT} {xs : List Int} {d : Nat} {y : jV × jS} (hd : 2 ≤ d) {h : jH}  {o0 : Nat} {v1 : Int} {v2 : Int} {out : ((Int × jH) ⊕ ((Int × jH) ⊕ (Int × jH)))} (ho0 : isX12 T o0) (H : M_image_B89 h o0 v1 v2 = some out) (HY : yk_M_image_L89 T xs d y o0 v1 out) : jEv xs d (352, 89, [(2, Int.ofNat o0), (0, v1), (0, v2)], []) (T, h) y := by
  unfold M_image_B89 at H
  refine jEv.blk [(.iload_n 2, 1, []), (.aload_n 0, 1, [])] (by decide +kernel) (pc' := 91) (ls' := [(2, Int.ofNat o0), (0, v1), (0, v2)]) (st' := [(2, Int.ofNat o0), (0, v2)]) rfl ?_
  refine jbind H (fun b13 Hb13 H => ?_)
  refine jEv.calV (st' := [(0, b13), (0, v2)]) (show jfI 352 91 (.invokevirtual 402) 3 [1, 249, 0, 9076] = true by decide +kernel) rfl (Or.inl rfl) rfl (Nat.le_of_ble_eq_true rfl) (by decide +kernel) (by decide) (isX12_L ho0) ((t_M_length (T := T) (xs := xs) ho0 Hb13).mono (jKle 1 hd)) rfl ?_
  refine jEv.ic_ge (t := 113) (show jfI 352 94 (.if_icmp .ge 19) 3 [] = true by decide +kernel) rfl H (fun c14 H => ?_) (fun c14 H => ?_)
  · refine jEv.blk [(.aload_n 0, 1, []), (.aload_n 0, 1, []), (.iload_n 1, 1, []), (.iload_n 2, 1, [])] (by decide +kernel) (pc' := 101) (ls' := [(2, Int.ofNat o0), (0, v1), (0, v2)]) (st' := [(0, v2), (0, v1), (2, Int.ofNat o0), (2, Int.ofNat o0)]) rfl ?_
    refine jbind H (fun b15 Hb15 H => ?_)
    refine jEv.calV (st' := [(0, b15), (2, Int.ofNat o0)]) (show jfI 352 101 (.invokevirtual 494) 3 [1, 259, 2, 9116] = true by decide +kernel) rfl (Or.inl rfl) rfl (Nat.le_of_ble_eq_true rfl) (by decide +kernel) (by decide) (isX12_L ho0) ((t_M_diskAt (T := T) (xs := xs) ho0 Hb15).mono (jKle 1 hd)) rfl ?_
    refine jbind H (fun b16 Hb16 H => ?_)
    refine jEv.calV (st' := []) (show jfI 352 104 (.invokevirtual 752) 3 [1, 354, 1, 11036] = true by decide +kernel) rfl (Or.inl rfl) rfl (Nat.le_of_ble_eq_true rfl) (by decide +kernel) (by decide) (isX12_L ho0) ((t_M_writes (T := T) (xs := xs) ho0 Hb16).mono (jKle 1 hd)) rfl ?_
    refine jEv.blk [(.iinc 2 1, 3, [])] (by decide +kernel) (pc' := 110) (ls' := [(2, Int.ofNat o0), (0, v1), (0, (wr (v2 + 1)))]) (st' := []) rfl ?_
    refine jEv.goto (t := 89) (show jfI 352 110 (.goto (-21)) 3 [] = true by decide +kernel) rfl ?_
    exact (by cases H; exact HY)
  · refine jmapr H HY (fun out H (HY : yk_M_image_L79 T xs d y o0 out) => ?_)
    refine jEv.blk [(.iinc 1 1, 3, [])] (by decide +kernel) (pc' := 116) (ls' := [(2, Int.ofNat o0), (0, (wr (v1 + 1))), (0, v2)]) (st' := []) rfl ?_
    refine jEv.goto (t := 79) (show jfI 352 116 (.goto (-37)) 3 [] = true by decide +kernel) rfl ?_
    exact jEv.weak (a := [(2, Int.ofNat o0), (0, (wr (v1 + 1))), (3, 0)]) (jles.c1 (jles.c1 (jles.c0 jles.nl))) ((by cases H; exact HY))
theorem t_M_image_L89 {T : jT} {xs : List Int} {d : Nat} {y : jV × jS} (hd : 2 ≤ d) {h : jH}  {o0 : Nat} {v1 : Int} {v2 : Int} {out : ((Int × jH) ⊕ (Int × jH))} (ho0 : isX12 T o0) (H : M_image_L89 h o0 v1 v2 = some out) (HY : yk_M_image_L79 T xs d y o0 out) : jEv xs d (352, 89, [(2, Int.ofNat o0), (0, v1), (0, v2)], []) (T, h) y :=
  jloop_sound (G := fun s : (Int × jH) => jEv xs d (352, 89, [(2, Int.ofNat o0), (0, v1), (0, s.1)], []) (T, s.2) y) (K := yk_M_image_L89 T xs d y o0 v1) (fun s out H HY => t_M_image_B89 hd ho0 H HY) (fun s' hg => hg) (s := (v2, h)) H HY
set_option maxRecDepth 20000 in
noncomputable def M_image_B79  (h : jH) (o0 : Nat) (v1 : Int) : Option ((Int × jH) ⊕ (Int × jH)) := Option.bind (M_segmentMany h o0) (fun b9 => (if v1 < b9 then M_image_L89 h o0 v1 0 else Option.map Sum.inr (Option.bind (M_checked h (o0 + 68) 547 (h o0 109)) (fun b11 => Option.bind (M_writes h o0 b11) (fun b12 => some ((b12 o0 109), b12))))))
noncomputable def M_image_L79  (h : jH) (o0 : Nat) (v1 : Int) : Option (Int × jH) := jloop (fun s : (Int × jH) => M_image_B79 s.2 o0 s.1) (v1, h)
set_option maxRecDepth 20000 in
theorem t_M_image_B79 {T : jT} {xs : List Int} {d : Nat} {y : jV × jS} (hd : 2 ≤ d) {h : jH}  {o0 : Nat} {v1 : Int} {out : ((Int × jH) ⊕ (Int × jH))} (ho0 : isX12 T o0) (H : M_image_B79 h o0 v1 = some out) (HY : yk_M_image_L79 T xs d y o0 out) : jEv xs d (352, 79, [(2, Int.ofNat o0), (0, v1), (3, 0)], []) (T, h) y := by
  unfold M_image_B79 at H
  refine jEv.blk [(.iload_n 1, 1, []), (.aload_n 0, 1, [])] (by decide +kernel) (pc' := 81) (ls' := [(2, Int.ofNat o0), (0, v1), (3, 0)]) (st' := [(2, Int.ofNat o0), (0, v1)]) rfl ?_
  refine jbind H (fun b9 Hb9 H => ?_)
  refine jEv.calV (st' := [(0, b9), (0, v1)]) (show jfI 352 81 (.invokevirtual 360) 3 [1, 254, 0, 9096] = true by decide +kernel) rfl (Or.inl rfl) rfl (Nat.le_of_ble_eq_true rfl) (by decide +kernel) (by decide) (isX12_L ho0) ((t_M_segmentMany (T := T) (xs := xs) ho0 Hb9).mono (jKle 1 hd)) rfl ?_
  refine jEv.ic_ge (t := 119) (show jfI 352 84 (.if_icmp .ge 35) 3 [] = true by decide +kernel) rfl H (fun c10 H => ?_) (fun c10 H => ?_)
  · refine jEv.blk [(.iconst 0, 1, []), (.istore_n 2, 1, [])] (by decide +kernel) (pc' := 89) (ls' := [(2, Int.ofNat o0), (0, v1), (0, 0)]) (st' := []) rfl ?_
    exact t_M_image_L89 (T := T) (xs := xs) (y := y) hd ho0 H HY
  · refine jmapr H HY (fun out H (HY : ykI T y out) => ?_)
    refine jEv.blk [(.aload_n 0, 1, []), (.aload_n 0, 1, [])] (by decide +kernel) (pc' := 121) (ls' := [(2, Int.ofNat o0), (0, v1), (3, 0)]) (st' := [(2, Int.ofNat o0), (2, Int.ofNat o0)]) rfl ?_
    refine jEv.gfR (o' := (o0 + 68)) (show jfI 352 121 (.getfield 226) 3 [12, 108, 5, 0, 7144] = true by decide +kernel) (isX12_L ho0) (by decide) (isX12_r108 ho0) ?_
    refine jEv.blk [(.aload_n 0, 1, [])] (by decide +kernel) (pc' := 125) (ls' := [(2, Int.ofNat o0), (0, v1), (3, 0)]) (st' := [(2, Int.ofNat o0), (2, Int.ofNat (o0 + 68)), (2, Int.ofNat o0)]) rfl ?_
    refine jEv.gfI (show jfI 352 125 (.getfield 749) 3 [12, 109, 0, 0, 7145] = true by decide +kernel) (isX12_L ho0) (by decide) ?_
    refine jbind H (fun b11 Hb11 H => ?_)
    refine jEv.calS (st' := [(0, b11), (2, Int.ofNat o0)]) (show jfI 352 128 (.invokestatic 761) 3 [3, 355, 2, 11040] = true by decide +kernel) rfl (Or.inl rfl) rfl (Nat.le_of_ble_eq_true rfl) ((t_M_checked (T := T) (xs := xs) (isX12_a108 ho0) Hb11).mono (jKle 1 hd)) rfl ?_
    refine jbind H (fun b12 Hb12 H => ?_)
    refine jEv.calV (st' := []) (show jfI 352 131 (.invokevirtual 752) 3 [1, 354, 1, 11036] = true by decide +kernel) rfl (Or.inl rfl) rfl (Nat.le_of_ble_eq_true rfl) (by decide +kernel) (by decide) (isX12_L ho0) ((t_M_writes (T := T) (xs := xs) ho0 Hb12).mono (jKle 1 hd)) rfl ?_
    refine jEv.blk [(.aload_n 0, 1, [])] (by decide +kernel) (pc' := 135) (ls' := [(2, Int.ofNat o0), (0, v1), (3, 0)]) (st' := [(2, Int.ofNat o0)]) rfl ?_
    refine jEv.gfI (show jfI 352 135 (.getfield 749) 3 [12, 109, 0, 0, 7145] = true by decide +kernel) (isX12_L ho0) (by decide) ?_
    exact jEv.retI (show jfI 352 138 (.ireturn) 1 [] = true by decide +kernel) (by decide +kernel) (by cases H; exact HY)
theorem t_M_image_L79 {T : jT} {xs : List Int} {d : Nat} {y : jV × jS} (hd : 2 ≤ d) {h : jH}  {o0 : Nat} {v1 : Int} {out : (Int × jH)} (ho0 : isX12 T o0) (H : M_image_L79 h o0 v1 = some out) (HY : ykI T y out) : jEv xs d (352, 79, [(2, Int.ofNat o0), (0, v1), (3, 0)], []) (T, h) y :=
  jloop_sound (G := fun s : (Int × jH) => jEv xs d (352, 79, [(2, Int.ofNat o0), (0, s.1), (3, 0)], []) (T, s.2) y) (K := yk_M_image_L79 T xs d y o0) (fun s out H HY => t_M_image_B79 hd ho0 H HY) (fun s' hg => hg) (s := (v1, h)) H HY
set_option maxRecDepth 20000 in
noncomputable def M_image_B31  (h : jH) (o0 : Nat) (v1 : Int) : Option ((Int × jH) ⊕ (Int × jH)) := (if v1 < 16 then (if (0 : Int) ≤ (wr (160 + v1)) ∧ ((wr (160 + v1)) : Int).toNat < 2365 then (if (h (o0 + 33) ((wr (160 + v1)) : Int).toNat) = (-1) then M_image_p68 h o0 v1 o0 65535 else (if (0 : Int) ≤ (wr (160 + v1)) ∧ ((wr (160 + v1)) : Int).toNat < 2365 then M_image_p68 h o0 v1 o0 (h (o0 + 33) ((wr (160 + v1)) : Int).toNat) else none)) else none) else Option.map Sum.inr (M_image_L79 h o0 0))
noncomputable def M_image_L31  (h : jH) (o0 : Nat) (v1 : Int) : Option (Int × jH) := jloop (fun s : (Int × jH) => M_image_B31 s.2 o0 s.1) (v1, h)
set_option maxRecDepth 20000 in
theorem t_M_image_B31 {T : jT} {xs : List Int} {d : Nat} {y : jV × jS} (hd : 2 ≤ d) {h : jH}  {o0 : Nat} {v1 : Int} {out : ((Int × jH) ⊕ (Int × jH))} (ho0 : isX12 T o0) (H : M_image_B31 h o0 v1 = some out) (HY : yk_M_image_L31 T xs d y o0 out) : jEv xs d (352, 31, [(2, Int.ofNat o0), (0, v1), (3, 0)], []) (T, h) y := by
  unfold M_image_B31 at H
  refine jEv.blk [(.iload_n 1, 1, []), (.bipush 16, 2, [])] (by decide +kernel) (pc' := 34) (ls' := [(2, Int.ofNat o0), (0, v1), (3, 0)]) (st' := [(0, 16), (0, v1)]) rfl ?_
  refine jEv.ic_ge (t := 77) (show jfI 352 34 (.if_icmp .ge 43) 3 [] = true by decide +kernel) rfl H (fun c4 H => ?_) (fun c4 H => ?_)
  · refine jEv.blk [(.aload_n 0, 1, []), (.aload_n 0, 1, [])] (by decide +kernel) (pc' := 39) (ls' := [(2, Int.ofNat o0), (0, v1), (3, 0)]) (st' := [(2, Int.ofNat o0), (2, Int.ofNat o0)]) rfl ?_
    refine jEv.gfR (o' := (o0 + 33)) (show jfI 352 39 (.getfield 111) 3 [12, 45, 5, 0, 7081] = true by decide +kernel) (isX12_L ho0) (by decide) (isX12_r45 ho0) ?_
    refine jEv.blk [(.sipush 160, 3, []), (.iload_n 1, 1, []), (.iadd, 1, [])] (by decide +kernel) (pc' := 47) (ls' := [(2, Int.ofNat o0), (0, v1), (3, 0)]) (st' := [(0, (wr (160 + v1))), (2, Int.ofNat (o0 + 33)), (2, Int.ofNat o0)]) rfl ?_
    refine jEv.ald (Or.inl ⟨rfl, rfl, rfl⟩) (show jfI 352 47 (.iaload) 1 [] = true by decide +kernel) (isX12_a45 ho0) H (fun c5 H => ?_)
    refine jEv.blk [(.iconst (-1), 1, [])] (by decide +kernel) (pc' := 49) (ls' := [(2, Int.ofNat o0), (0, v1), (3, 0)]) (st' := [(0, (-1)), (0, (h (o0 + 33) ((wr (160 + v1)) : Int).toNat)), (2, Int.ofNat o0)]) rfl ?_
    refine jEv.ic_ne (t := 58) (show jfI 352 49 (.if_icmp .ne 9) 3 [] = true by decide +kernel) rfl H (fun c6 H => ?_) (fun c6 H => ?_)
    · refine jEv.blk [(.ldc_w 506, 3, [0, 0, 65535, 9156])] (by decide +kernel) (pc' := 55) (ls' := [(2, Int.ofNat o0), (0, v1), (3, 0)]) (st' := [(0, 65535), (2, Int.ofNat o0)]) rfl ?_
      refine jEv.goto (t := 68) (show jfI 352 55 (.goto 13) 3 [] = true by decide +kernel) rfl ?_
      exact t_M_image_p68 (T := T) (xs := xs) (y := y) hd ho0 ho0 H HY
    · refine jEv.blk [(.aload_n 0, 1, [])] (by decide +kernel) (pc' := 59) (ls' := [(2, Int.ofNat o0), (0, v1), (3, 0)]) (st' := [(2, Int.ofNat o0), (2, Int.ofNat o0)]) rfl ?_
      refine jEv.gfR (o' := (o0 + 33)) (show jfI 352 59 (.getfield 111) 3 [12, 45, 5, 0, 7081] = true by decide +kernel) (isX12_L ho0) (by decide) (isX12_r45 ho0) ?_
      refine jEv.blk [(.sipush 160, 3, []), (.iload_n 1, 1, []), (.iadd, 1, [])] (by decide +kernel) (pc' := 67) (ls' := [(2, Int.ofNat o0), (0, v1), (3, 0)]) (st' := [(0, (wr (160 + v1))), (2, Int.ofNat (o0 + 33)), (2, Int.ofNat o0)]) rfl ?_
      refine jEv.ald (Or.inl ⟨rfl, rfl, rfl⟩) (show jfI 352 67 (.iaload) 1 [] = true by decide +kernel) (isX12_a45 ho0) H (fun c7 H => ?_)
      exact t_M_image_p68 (T := T) (xs := xs) (y := y) hd ho0 ho0 H HY
  · refine jmapr H HY (fun out H (HY : ykI T y out) => ?_)
    refine jEv.blk [(.iconst 0, 1, []), (.istore_n 1, 1, [])] (by decide +kernel) (pc' := 79) (ls' := [(2, Int.ofNat o0), (0, 0), (3, 0)]) (st' := []) rfl ?_
    exact t_M_image_L79 (T := T) (xs := xs) (y := y) hd ho0 H HY
theorem t_M_image_L31 {T : jT} {xs : List Int} {d : Nat} {y : jV × jS} (hd : 2 ≤ d) {h : jH}  {o0 : Nat} {v1 : Int} {out : (Int × jH)} (ho0 : isX12 T o0) (H : M_image_L31 h o0 v1 = some out) (HY : ykI T y out) : jEv xs d (352, 31, [(2, Int.ofNat o0), (0, v1), (3, 0)], []) (T, h) y :=
  jloop_sound (G := fun s : (Int × jH) => jEv xs d (352, 31, [(2, Int.ofNat o0), (0, s.1), (3, 0)], []) (T, s.2) y) (K := yk_M_image_L31 T xs d y o0) (fun s out H HY => t_M_image_B31 hd ho0 H HY) (fun s' hg => hg) (s := (v1, h)) H HY
set_option maxRecDepth 20000 in
noncomputable def M_image  (h : jH) (o0 : Nat) : Option (Int × jH) := (if (h o0 43) = 0 then some ((-1), h) else (if (0 : Int) ≤ 9 ∧ (9 : Int).toNat < 2365 then Option.bind (M_writesTwo (jup h o0 109 0) o0 (Int.tmod ((jup h o0 109 0) (o0 + 33) (9 : Int).toNat) 65536)) (fun b3 => M_image_L31 b3 o0 0) else none))
set_option maxRecDepth 20000 in
theorem t_M_image {T : jT} {xs : List Int} {h : jH}  {o0 : Nat} {out : (Int × jH)} (ho0 : isX12 T o0) (H : M_image h o0 = some out) : jEm xs 3 352 [(2, Int.ofNat o0)] (T, h) ((0, out.1), (T, out.2)) := by
  have hd : 2 ≤ 2 := Nat.le_refl _
  obtain ⟨y, ey⟩ : ∃ y : jV × jS, y = ((0, out.1), (T, out.2)) := ⟨_, rfl⟩
  rw [← ey]
  have HY : ykI T y out := ey
  refine jEm.ent (n := 3) (by decide +kernel) (Nat.le_of_ble_eq_true rfl) ?_
  show jEv xs 2 (352, 0, [(2, Int.ofNat o0), (3, 0), (3, 0)], []) (T, h) y
  unfold M_image at H
  refine jEv.blk [(.aload_n 0, 1, [])] (by decide +kernel) (pc' := 1) (ls' := [(2, Int.ofNat o0), (3, 0), (3, 0)]) (st' := [(2, Int.ofNat o0)]) rfl ?_
  refine jEv.gfI (show jfI 352 1 (.getfield 340) 3 [12, 43, 0, 1, 7079] = true by decide +kernel) (isX12_L ho0) (by decide) ?_
  refine jEv.if_ne (t := 9) (show jfI 352 4 (.ifCond .ne 5) 3 [] = true by decide +kernel) rfl H (fun c1 H => ?_) (fun c1 H => ?_)
  · refine jEv.blk [(.iconst (-1), 1, [])] (by decide +kernel) (pc' := 8) (ls' := [(2, Int.ofNat o0), (3, 0), (3, 0)]) (st' := [(0, (-1))]) rfl ?_
    exact jEv.retI (show jfI 352 8 (.ireturn) 1 [] = true by decide +kernel) (by decide +kernel) (by cases H; exact HY)
  · refine jEv.blk [(.aload_n 0, 1, []), (.iconst 0, 1, [])] (by decide +kernel) (pc' := 11) (ls' := [(2, Int.ofNat o0), (3, 0), (3, 0)]) (st' := [(0, 0), (2, Int.ofNat o0)]) rfl ?_
    refine jEv.pfI (show jfI 352 11 (.putfield 749) 3 [12, 109, 0, 0, 7145] = true by decide +kernel) (isX12_L ho0) (by decide) ?_
    refine jEv.blk [(.aload_n 0, 1, []), (.aload_n 0, 1, [])] (by decide +kernel) (pc' := 16) (ls' := [(2, Int.ofNat o0), (3, 0), (3, 0)]) (st' := [(2, Int.ofNat o0), (2, Int.ofNat o0)]) rfl ?_
    refine jEv.gfR (o' := (o0 + 33)) (show jfI 352 16 (.getfield 111) 3 [12, 45, 5, 0, 7081] = true by decide +kernel) (isX12_L ho0) (by decide) (isX12_r45 ho0) ?_
    refine jEv.blk [(.bipush 9, 2, [])] (by decide +kernel) (pc' := 21) (ls' := [(2, Int.ofNat o0), (3, 0), (3, 0)]) (st' := [(0, 9), (2, Int.ofNat (o0 + 33)), (2, Int.ofNat o0)]) rfl ?_
    refine jEv.ald (Or.inl ⟨rfl, rfl, rfl⟩) (show jfI 352 21 (.iaload) 1 [] = true by decide +kernel) (isX12_a45 ho0) H (fun c2 H => ?_)
    refine jEv.blk [(.ldc_w 757, 3, [0, 0, 65536, 11031])] (by decide +kernel) (pc' := 25) (ls' := [(2, Int.ofNat o0), (3, 0), (3, 0)]) (st' := [(0, 65536), (0, ((jup h o0 109 0) (o0 + 33) (9 : Int).toNat)), (2, Int.ofNat o0)]) rfl ?_
    refine jEv.irem (show jfI 352 25 (.irem) 1 [] = true by decide +kernel) (by decide) ?_
    refine jbind H (fun b3 Hb3 H => ?_)
    refine jEv.calV (st' := []) (show jfI 352 26 (.invokevirtual 758) 3 [1, 353, 1, 11032] = true by decide +kernel) rfl (Or.inl rfl) rfl (Nat.le_of_ble_eq_true rfl) (by decide +kernel) (by decide) (isX12_L ho0) ((t_M_writesTwo (T := T) (xs := xs) ho0 Hb3).mono (jKle 2 hd)) rfl ?_
    refine jEv.blk [(.iconst 0, 1, []), (.istore_n 1, 1, [])] (by decide +kernel) (pc' := 31) (ls' := [(2, Int.ofNat o0), (0, 0), (3, 0)]) (st' := []) rfl ?_
    exact t_M_image_L31 (T := T) (xs := xs) (y := y) hd ho0 H HY
set_option maxRecDepth 20000 in
noncomputable def M_twoAt  (h : jH) (o0 : Nat) (v1 : Int) : Option Int := (if (0 : Int) ≤ v1 ∧ (v1 : Int).toNat < 1600 then (if (0 : Int) ≤ (wr (v1 + 1)) ∧ ((wr (v1 + 1)) : Int).toNat < 1600 then some (wr ((wr (256 * (h (o0 + 1) (v1 : Int).toNat))) + (h (o0 + 1) ((wr (v1 + 1)) : Int).toNat))) else none) else none)
set_option maxRecDepth 20000 in
theorem t_M_twoAt {T : jT} {xs : List Int} {h : jH}  {o0 : Nat} {v1 : Int} {out : Int} (ho0 : isX12 T o0) (H : M_twoAt h o0 v1 = some out) : jEm xs 1 358 [(2, Int.ofNat o0), (0, v1)] (T, h) ((0, out), (T, h)) := by
  have hd : 0 ≤ 0 := Nat.le_refl _
  obtain ⟨y, ey⟩ : ∃ y : jV × jS, y = ((0, out), (T, h)) := ⟨_, rfl⟩
  rw [← ey]
  have HY : ykIp T h y out := ey
  refine jEm.ent (n := 2) (by decide +kernel) (Nat.le_of_ble_eq_true rfl) ?_
  show jEv xs 0 (358, 0, [(2, Int.ofNat o0), (0, v1)], []) (T, h) y
  unfold M_twoAt at H
  refine jEv.blk [(.sipush 256, 3, []), (.aload_n 0, 1, [])] (by decide +kernel) (pc' := 4) (ls' := [(2, Int.ofNat o0), (0, v1)]) (st' := [(2, Int.ofNat o0), (0, 256)]) rfl ?_
  refine jEv.gfR (o' := (o0 + 1)) (show jfI 358 4 (.getfield 7) 3 [12, 0, 5, 0, 7036] = true by decide +kernel) (isX12_L ho0) (by decide) (isX12_r0 ho0) ?_
  refine jEv.blk [(.iload_n 1, 1, [])] (by decide +kernel) (pc' := 8) (ls' := [(2, Int.ofNat o0), (0, v1)]) (st' := [(0, v1), (2, Int.ofNat (o0 + 1)), (0, 256)]) rfl ?_
  refine jEv.ald (Or.inl ⟨rfl, rfl, rfl⟩) (show jfI 358 8 (.iaload) 1 [] = true by decide +kernel) (isX12_a0 ho0) H (fun c1 H => ?_)
  refine jEv.blk [(.imul, 1, []), (.aload_n 0, 1, [])] (by decide +kernel) (pc' := 11) (ls' := [(2, Int.ofNat o0), (0, v1)]) (st' := [(2, Int.ofNat o0), (0, (wr (256 * (h (o0 + 1) (v1 : Int).toNat))))]) rfl ?_
  refine jEv.gfR (o' := (o0 + 1)) (show jfI 358 11 (.getfield 7) 3 [12, 0, 5, 0, 7036] = true by decide +kernel) (isX12_L ho0) (by decide) (isX12_r0 ho0) ?_
  refine jEv.blk [(.iload_n 1, 1, []), (.iconst 1, 1, []), (.iadd, 1, [])] (by decide +kernel) (pc' := 17) (ls' := [(2, Int.ofNat o0), (0, v1)]) (st' := [(0, (wr (v1 + 1))), (2, Int.ofNat (o0 + 1)), (0, (wr (256 * (h (o0 + 1) (v1 : Int).toNat))))]) rfl ?_
  refine jEv.ald (Or.inl ⟨rfl, rfl, rfl⟩) (show jfI 358 17 (.iaload) 1 [] = true by decide +kernel) (isX12_a0 ho0) H (fun c2 H => ?_)
  refine jEv.blk [(.iadd, 1, [])] (by decide +kernel) (pc' := 19) (ls' := [(2, Int.ofNat o0), (0, v1)]) (st' := [(0, (wr ((wr (256 * (h (o0 + 1) (v1 : Int).toNat))) + (h (o0 + 1) ((wr (v1 + 1)) : Int).toNat))))]) rfl ?_
  exact jEv.retI (show jfI 358 19 (.ireturn) 1 [] = true by decide +kernel) (by decide +kernel) (by cases H; exact HY)
def yk_M_isImage_L48 (T : jT) (xs : List Int) (d : Nat) (y : jV × jS) (h : jH)  (o0 : Nat) : (Int ⊕ Int) → Prop
  | .inl v2 => jEv xs d (357, 48, [(2, Int.ofNat o0), (3, 0), (0, v2)], []) (T, h) y
  | .inr o => ykIp T h y o
set_option maxRecDepth 20000 in
noncomputable def M_isImage_B48  (h : jH) (o0 : Nat) (v2 : Int) : Option (Int ⊕ Int) := (if v2 < 16 then Option.bind (M_twoAt h o0 (wr (2 + (wr (2 * v2))))) (fun b9 => (if 999 < b9 then Option.bind (M_twoAt h o0 (wr (2 + (wr (2 * v2))))) (fun b11 => (if b11 = 65535 then some (.inl ((wr (v2 + 1)))) else Option.map Sum.inr (some 0))) else some (.inl ((wr (v2 + 1)))))) else Option.map Sum.inr (some 1))
noncomputable def M_isImage_L48  (h : jH) (o0 : Nat) (v2 : Int) : Option Int := jloop (fun s : Int => M_isImage_B48 h o0 s) (v2)
set_option maxRecDepth 20000 in
theorem t_M_isImage_B48 {T : jT} {xs : List Int} {d : Nat} {y : jV × jS} (hd : 1 ≤ d) {h : jH}  {o0 : Nat} {v2 : Int} {out : (Int ⊕ Int)} (ho0 : isX12 T o0) (H : M_isImage_B48 h o0 v2 = some out) (HY : yk_M_isImage_L48 T xs d y h o0 out) : jEv xs d (357, 48, [(2, Int.ofNat o0), (3, 0), (0, v2)], []) (T, h) y := by
  unfold M_isImage_B48 at H
  refine jEv.blk [(.iload_n 2, 1, []), (.bipush 16, 2, [])] (by decide +kernel) (pc' := 51) (ls' := [(2, Int.ofNat o0), (3, 0), (0, v2)]) (st' := [(0, 16), (0, v2)]) rfl ?_
  refine jEv.ic_ge (t := 92) (show jfI 357 51 (.if_icmp .ge 41) 3 [] = true by decide +kernel) rfl H (fun c8 H => ?_) (fun c8 H => ?_)
  · refine jEv.blk [(.aload_n 0, 1, []), (.iconst 2, 1, []), (.iconst 2, 1, []), (.iload_n 2, 1, []), (.imul, 1, []), (.iadd, 1, [])] (by decide +kernel) (pc' := 60) (ls' := [(2, Int.ofNat o0), (3, 0), (0, v2)]) (st' := [(0, (wr (2 + (wr (2 * v2))))), (2, Int.ofNat o0)]) rfl ?_
    refine jbind H (fun b9 Hb9 H => ?_)
    refine jEv.calV (st' := [(0, b9)]) (show jfI 357 60 (.invokevirtual 765) 3 [1, 358, 1, 11051] = true by decide +kernel) rfl (Or.inl rfl) rfl (Nat.le_of_ble_eq_true rfl) (by decide +kernel) (by decide) (isX12_L ho0) ((t_M_twoAt (T := T) (xs := xs) ho0 Hb9).mono (jKle 1 hd)) rfl ?_
    refine jEv.blk [(.sipush 999, 3, [])] (by decide +kernel) (pc' := 66) (ls' := [(2, Int.ofNat o0), (3, 0), (0, v2)]) (st' := [(0, 999), (0, b9)]) rfl ?_
    refine jEv.ic_le (t := 86) (show jfI 357 66 (.if_icmp .le 20) 3 [] = true by decide +kernel) rfl H (fun c10 H => ?_) (fun c10 H => ?_)
    · refine jEv.blk [(.aload_n 0, 1, []), (.iconst 2, 1, []), (.iconst 2, 1, []), (.iload_n 2, 1, []), (.imul, 1, []), (.iadd, 1, [])] (by decide +kernel) (pc' := 75) (ls' := [(2, Int.ofNat o0), (3, 0), (0, v2)]) (st' := [(0, (wr (2 + (wr (2 * v2))))), (2, Int.ofNat o0)]) rfl ?_
      refine jbind H (fun b11 Hb11 H => ?_)
      refine jEv.calV (st' := [(0, b11)]) (show jfI 357 75 (.invokevirtual 765) 3 [1, 358, 1, 11051] = true by decide +kernel) rfl (Or.inl rfl) rfl (Nat.le_of_ble_eq_true rfl) (by decide +kernel) (by decide) (isX12_L ho0) ((t_M_twoAt (T := T) (xs := xs) ho0 Hb11).mono (jKle 1 hd)) rfl ?_
      refine jEv.blk [(.ldc_w 506, 3, [0, 0, 65535, 9156])] (by decide +kernel) (pc' := 81) (ls' := [(2, Int.ofNat o0), (3, 0), (0, v2)]) (st' := [(0, 65535), (0, b11)]) rfl ?_
      refine jEv.ic_eq (t := 86) (show jfI 357 81 (.if_icmp .eq 5) 3 [] = true by decide +kernel) rfl H (fun c12 H => ?_) (fun c12 H => ?_)
      · refine jEv.blk [(.iinc 2 1, 3, [])] (by decide +kernel) (pc' := 89) (ls' := [(2, Int.ofNat o0), (3, 0), (0, (wr (v2 + 1)))]) (st' := []) rfl ?_
        refine jEv.goto (t := 48) (show jfI 357 89 (.goto (-41)) 3 [] = true by decide +kernel) rfl ?_
        exact (by cases H; exact HY)
      · refine jmapr H HY (fun out H (HY : ykIp T h y out) => ?_)
        refine jEv.blk [(.iconst 0, 1, [])] (by decide +kernel) (pc' := 85) (ls' := [(2, Int.ofNat o0), (3, 0), (0, v2)]) (st' := [(0, 0)]) rfl ?_
        exact jEv.retZ (show jfI 357 85 (.ireturn) 1 [] = true by decide +kernel) (by decide +kernel) (by decide) (by cases H; exact HY)
    · refine jEv.blk [(.iinc 2 1, 3, [])] (by decide +kernel) (pc' := 89) (ls' := [(2, Int.ofNat o0), (3, 0), (0, (wr (v2 + 1)))]) (st' := []) rfl ?_
      refine jEv.goto (t := 48) (show jfI 357 89 (.goto (-41)) 3 [] = true by decide +kernel) rfl ?_
      exact (by cases H; exact HY)
  · refine jmapr H HY (fun out H (HY : ykIp T h y out) => ?_)
    refine jEv.blk [(.iconst 1, 1, [])] (by decide +kernel) (pc' := 93) (ls' := [(2, Int.ofNat o0), (3, 0), (0, v2)]) (st' := [(0, 1)]) rfl ?_
    exact jEv.retZ (show jfI 357 93 (.ireturn) 1 [] = true by decide +kernel) (by decide +kernel) (by decide) (by cases H; exact HY)
theorem t_M_isImage_L48 {T : jT} {xs : List Int} {d : Nat} {y : jV × jS} (hd : 1 ≤ d) {h : jH}  {o0 : Nat} {v2 : Int} {out : Int} (ho0 : isX12 T o0) (H : M_isImage_L48 h o0 v2 = some out) (HY : ykIp T h y out) : jEv xs d (357, 48, [(2, Int.ofNat o0), (3, 0), (0, v2)], []) (T, h) y :=
  jloop_sound (G := fun s : Int => jEv xs d (357, 48, [(2, Int.ofNat o0), (3, 0), (0, s)], []) (T, h) y) (K := yk_M_isImage_L48 T xs d y h o0) (fun s out H HY => t_M_isImage_B48 hd ho0 H HY) (fun s' hg => hg) (s := (v2)) H HY
set_option maxRecDepth 20000 in
noncomputable def M_isImage  (h : jH) (o0 : Nat) (v1 : Int) : Option Int := (if (h o0 43) = 0 then some 0 else Option.bind (M_segmentMany h o0) (fun b2 => Option.bind (M_length h o0) (fun b3 => (if v1 = (wr (35 + (wr (b2 * b3)))) then (if (0 : Int) ≤ (wr (v1 - 1)) ∧ ((wr (v1 - 1)) : Int).toNat < 1600 then Option.bind (M_checked h (o0 + 1) 1600 (wr (v1 - 1))) (fun b6 => (if (h (o0 + 1) ((wr (v1 - 1)) : Int).toNat) = b6 then M_isImage_L48 h o0 0 else some 0)) else none) else some 0))))
set_option maxRecDepth 20000 in
theorem t_M_isImage {T : jT} {xs : List Int} {h : jH}  {o0 : Nat} {v1 : Int} {out : Int} (ho0 : isX12 T o0) (H : M_isImage h o0 v1 = some out) : jEm xs 2 357 [(2, Int.ofNat o0), (0, v1)] (T, h) ((0, out), (T, h)) := by
  have hd : 1 ≤ 1 := Nat.le_refl _
  obtain ⟨y, ey⟩ : ∃ y : jV × jS, y = ((0, out), (T, h)) := ⟨_, rfl⟩
  rw [← ey]
  have HY : ykIp T h y out := ey
  refine jEm.ent (n := 3) (by decide +kernel) (Nat.le_of_ble_eq_true rfl) ?_
  show jEv xs 1 (357, 0, [(2, Int.ofNat o0), (0, v1), (3, 0)], []) (T, h) y
  unfold M_isImage at H
  refine jEv.blk [(.aload_n 0, 1, [])] (by decide +kernel) (pc' := 1) (ls' := [(2, Int.ofNat o0), (0, v1), (3, 0)]) (st' := [(2, Int.ofNat o0)]) rfl ?_
  refine jEv.gfI (show jfI 357 1 (.getfield 340) 3 [12, 43, 0, 1, 7079] = true by decide +kernel) (isX12_L ho0) (by decide) ?_
  refine jEv.if_eq (t := 44) (show jfI 357 4 (.ifCond .eq 40) 3 [] = true by decide +kernel) rfl H (fun c1 H => ?_) (fun c1 H => ?_)
  · refine jEv.blk [(.iconst 0, 1, [])] (by decide +kernel) (pc' := 45) (ls' := [(2, Int.ofNat o0), (0, v1), (3, 0)]) (st' := [(0, 0)]) rfl ?_
    exact jEv.retZ (show jfI 357 45 (.ireturn) 1 [] = true by decide +kernel) (by decide +kernel) (by decide) (by cases H; exact HY)
  · refine jEv.blk [(.iload_n 1, 1, []), (.bipush 35, 2, []), (.aload_n 0, 1, [])] (by decide +kernel) (pc' := 11) (ls' := [(2, Int.ofNat o0), (0, v1), (3, 0)]) (st' := [(2, Int.ofNat o0), (0, 35), (0, v1)]) rfl ?_
    refine jbind H (fun b2 Hb2 H => ?_)
    refine jEv.calV (st' := [(0, b2), (0, 35), (0, v1)]) (show jfI 357 11 (.invokevirtual 360) 3 [1, 254, 0, 9096] = true by decide +kernel) rfl (Or.inl rfl) rfl (Nat.le_of_ble_eq_true rfl) (by decide +kernel) (by decide) (isX12_L ho0) ((t_M_segmentMany (T := T) (xs := xs) ho0 Hb2).mono (jKle 1 hd)) rfl ?_
    refine jEv.blk [(.aload_n 0, 1, [])] (by decide +kernel) (pc' := 15) (ls' := [(2, Int.ofNat o0), (0, v1), (3, 0)]) (st' := [(2, Int.ofNat o0), (0, b2), (0, 35), (0, v1)]) rfl ?_
    refine jbind H (fun b3 Hb3 H => ?_)
    refine jEv.calV (st' := [(0, b3), (0, b2), (0, 35), (0, v1)]) (show jfI 357 15 (.invokevirtual 402) 3 [1, 249, 0, 9076] = true by decide +kernel) rfl (Or.inl rfl) rfl (Nat.le_of_ble_eq_true rfl) (by decide +kernel) (by decide) (isX12_L ho0) ((t_M_length (T := T) (xs := xs) ho0 Hb3).mono (jKle 1 hd)) rfl ?_
    refine jEv.blk [(.imul, 1, []), (.iadd, 1, [])] (by decide +kernel) (pc' := 20) (ls' := [(2, Int.ofNat o0), (0, v1), (3, 0)]) (st' := [(0, (wr (35 + (wr (b2 * b3))))), (0, v1)]) rfl ?_
    refine jEv.ic_ne (t := 44) (show jfI 357 20 (.if_icmp .ne 24) 3 [] = true by decide +kernel) rfl H (fun c4 H => ?_) (fun c4 H => ?_)
    · refine jEv.blk [(.aload_n 0, 1, [])] (by decide +kernel) (pc' := 24) (ls' := [(2, Int.ofNat o0), (0, v1), (3, 0)]) (st' := [(2, Int.ofNat o0)]) rfl ?_
      refine jEv.gfR (o' := (o0 + 1)) (show jfI 357 24 (.getfield 7) 3 [12, 0, 5, 0, 7036] = true by decide +kernel) (isX12_L ho0) (by decide) (isX12_r0 ho0) ?_
      refine jEv.blk [(.iload_n 1, 1, []), (.iconst 1, 1, []), (.isub, 1, [])] (by decide +kernel) (pc' := 30) (ls' := [(2, Int.ofNat o0), (0, v1), (3, 0)]) (st' := [(0, (wr (v1 - 1))), (2, Int.ofNat (o0 + 1))]) rfl ?_
      refine jEv.ald (Or.inl ⟨rfl, rfl, rfl⟩) (show jfI 357 30 (.iaload) 1 [] = true by decide +kernel) (isX12_a0 ho0) H (fun c5 H => ?_)
      refine jEv.blk [(.aload_n 0, 1, [])] (by decide +kernel) (pc' := 32) (ls' := [(2, Int.ofNat o0), (0, v1), (3, 0)]) (st' := [(2, Int.ofNat o0), (0, (h (o0 + 1) ((wr (v1 - 1)) : Int).toNat))]) rfl ?_
      refine jEv.gfR (o' := (o0 + 1)) (show jfI 357 32 (.getfield 7) 3 [12, 0, 5, 0, 7036] = true by decide +kernel) (isX12_L ho0) (by decide) (isX12_r0 ho0) ?_
      refine jEv.blk [(.iload_n 1, 1, []), (.iconst 1, 1, []), (.isub, 1, [])] (by decide +kernel) (pc' := 38) (ls' := [(2, Int.ofNat o0), (0, v1), (3, 0)]) (st' := [(0, (wr (v1 - 1))), (2, Int.ofNat (o0 + 1)), (0, (h (o0 + 1) ((wr (v1 - 1)) : Int).toNat))]) rfl ?_
      refine jbind H (fun b6 Hb6 H => ?_)
      refine jEv.calS (st' := [(0, b6), (0, (h (o0 + 1) ((wr (v1 - 1)) : Int).toNat))]) (show jfI 357 38 (.invokestatic 761) 3 [3, 355, 2, 11040] = true by decide +kernel) rfl (Or.inl rfl) rfl (Nat.le_of_ble_eq_true rfl) ((t_M_checked (T := T) (xs := xs) (isX12_a0 ho0) Hb6).mono (jKle 1 hd)) rfl ?_
      refine jEv.ic_eq (t := 46) (show jfI 357 41 (.if_icmp .eq 5) 3 [] = true by decide +kernel) rfl H (fun c7 H => ?_) (fun c7 H => ?_)
      · refine jEv.blk [(.iconst 0, 1, []), (.istore_n 2, 1, [])] (by decide +kernel) (pc' := 48) (ls' := [(2, Int.ofNat o0), (0, v1), (0, 0)]) (st' := []) rfl ?_
        exact jEv.weak (a := [(2, Int.ofNat o0), (3, 0), (0, 0)]) (jles.c1 (jles.c0 (jles.c1 jles.nl))) (t_M_isImage_L48 (T := T) (xs := xs) (y := y) hd ho0 H HY)
      · refine jEv.blk [(.iconst 0, 1, [])] (by decide +kernel) (pc' := 45) (ls' := [(2, Int.ofNat o0), (0, v1), (3, 0)]) (st' := [(0, 0)]) rfl ?_
        exact jEv.retZ (show jfI 357 45 (.ireturn) 1 [] = true by decide +kernel) (by decide +kernel) (by decide) (by cases H; exact HY)
    · refine jEv.blk [(.iconst 0, 1, [])] (by decide +kernel) (pc' := 45) (ls' := [(2, Int.ofNat o0), (0, v1), (3, 0)]) (st' := [(0, 0)]) rfl ?_
      exact jEv.retZ (show jfI 357 45 (.ireturn) 1 [] = true by decide +kernel) (by decide +kernel) (by decide) (by cases H; exact HY)
def yk_M_on_L112 (T : jT) (xs : List Int) (d : Nat) (y : jV × jS)  (o0 : Nat) : ((Int × jH) ⊕ (Int × jH)) → Prop
  | .inl (v2, h) => jEv xs d (356, 112, [(2, Int.ofNat o0), (3, 0), (0, v2), (3, 0)], []) (T, h) y
  | .inr o => ykI T y o
def yk_M_on_L122 (T : jT) (xs : List Int) (d : Nat) (y : jV × jS)  (o0 : Nat) (v2 : Int) : ((Int × jH) ⊕ ((Int × jH) ⊕ (Int × jH))) → Prop
  | .inl (v3, h) => jEv xs d (356, 122, [(2, Int.ofNat o0), (3, 0), (0, v2), (0, v3)], []) (T, h) y
  | .inr o => yk_M_on_L112 T xs d y o0 o
def yk_M_on_L171 (T : jT) (xs : List Int) (d : Nat) (y : jV × jS)  (o0 : Nat) : ((Int × jH) ⊕ (Int × jH)) → Prop
  | .inl (v2, h) => jEv xs d (356, 171, [(2, Int.ofNat o0), (3, 0), (0, v2), (3, 0)], []) (T, h) y
  | .inr o => ykI T y o
def yk_M_on_L60 (T : jT) (xs : List Int) (d : Nat) (y : jV × jS)  (o0 : Nat) : ((Int × jH) ⊕ (Int × jH)) → Prop
  | .inl (v2, h) => jEv xs d (356, 60, [(2, Int.ofNat o0), (3, 0), (0, v2), (3, 0)], []) (T, h) y
  | .inr o => ykI T y o
def yk_M_on_L27 (T : jT) (xs : List Int) (d : Nat) (y : jV × jS)  (o0 : Nat) : ((Int × jH) ⊕ (Int × jH)) → Prop
  | .inl (v2, h) => jEv xs d (356, 27, [(2, Int.ofNat o0), (3, 0), (0, v2), (3, 0)], []) (T, h) y
  | .inr o => ykI T y o
set_option maxRecDepth 20000 in
noncomputable def M_on_B122  (h : jH) (o0 : Nat) (v2 : Int) (v3 : Int) : Option ((Int × jH) ⊕ ((Int × jH) ⊕ (Int × jH))) := Option.bind (M_length h o0) (fun b17 => (if v3 < b17 then Option.bind (M_length h o0) (fun b19 => (if (0 : Int) ≤ (wr ((wr (34 + (wr (b19 * v2)))) + v3)) ∧ ((wr ((wr (34 + (wr (b19 * v2)))) + v3)) : Int).toNat < 1600 then Option.bind (M_lands h o0 (wr ((wr (128 * v2)) + v3)) (h (o0 + 1) ((wr ((wr (34 + (wr (b19 * v2)))) + v3)) : Int).toNat)) (fun b21 => some (.inl ((wr (v3 + 1)), b21))) else none)) else Option.map Sum.inr (some (.inl ((wr (v2 + 1)), h)))))
noncomputable def M_on_L122  (h : jH) (o0 : Nat) (v2 : Int) (v3 : Int) : Option ((Int × jH) ⊕ (Int × jH)) := jloop (fun s : (Int × jH) => M_on_B122 s.2 o0 v2 s.1) (v3, h)
set_option maxRecDepth 20000 in
theorem t_M_on_B122 {T : jT} {xs : List Int} {d : Nat} {y : jV × jS} (hd : 6 ≤ d) {h : jH}  {o0 : Nat} {v2 : Int} {v3 : Int} {out : ((Int × jH) ⊕ ((Int × jH) ⊕ (Int × jH)))} (ho0 : isX12 T o0) (H : M_on_B122 h o0 v2 v3 = some out) (HY : yk_M_on_L122 T xs d y o0 v2 out) : jEv xs d (356, 122, [(2, Int.ofNat o0), (3, 0), (0, v2), (0, v3)], []) (T, h) y := by
  unfold M_on_B122 at H
  refine jEv.blk [(.iload_n 3, 1, []), (.aload_n 0, 1, [])] (by decide +kernel) (pc' := 124) (ls' := [(2, Int.ofNat o0), (3, 0), (0, v2), (0, v3)]) (st' := [(2, Int.ofNat o0), (0, v3)]) rfl ?_
  refine jbind H (fun b17 Hb17 H => ?_)
  refine jEv.calV (st' := [(0, b17), (0, v3)]) (show jfI 356 124 (.invokevirtual 402) 3 [1, 249, 0, 9076] = true by decide +kernel) rfl (Or.inl rfl) rfl (Nat.le_of_ble_eq_true rfl) (by decide +kernel) (by decide) (isX12_L ho0) ((t_M_length (T := T) (xs := xs) ho0 Hb17).mono (jKle 1 hd)) rfl ?_
  refine jEv.ic_ge (t := 163) (show jfI 356 127 (.if_icmp .ge 36) 3 [] = true by decide +kernel) rfl H (fun c18 H => ?_) (fun c18 H => ?_)
  · refine jEv.blk [(.aload_n 0, 1, []), (.sipush 128, 3, []), (.iload_n 2, 1, []), (.imul, 1, []), (.iload_n 3, 1, []), (.iadd, 1, []), (.aload_n 0, 1, [])] (by decide +kernel) (pc' := 139) (ls' := [(2, Int.ofNat o0), (3, 0), (0, v2), (0, v3)]) (st' := [(2, Int.ofNat o0), (0, (wr ((wr (128 * v2)) + v3))), (2, Int.ofNat o0)]) rfl ?_
    refine jEv.gfR (o' := (o0 + 1)) (show jfI 356 139 (.getfield 7) 3 [12, 0, 5, 0, 7036] = true by decide +kernel) (isX12_L ho0) (by decide) (isX12_r0 ho0) ?_
    refine jEv.blk [(.bipush 34, 2, []), (.aload_n 0, 1, [])] (by decide +kernel) (pc' := 145) (ls' := [(2, Int.ofNat o0), (3, 0), (0, v2), (0, v3)]) (st' := [(2, Int.ofNat o0), (0, 34), (2, Int.ofNat (o0 + 1)), (0, (wr ((wr (128 * v2)) + v3))), (2, Int.ofNat o0)]) rfl ?_
    refine jbind H (fun b19 Hb19 H => ?_)
    refine jEv.calV (st' := [(0, b19), (0, 34), (2, Int.ofNat (o0 + 1)), (0, (wr ((wr (128 * v2)) + v3))), (2, Int.ofNat o0)]) (show jfI 356 145 (.invokevirtual 402) 3 [1, 249, 0, 9076] = true by decide +kernel) rfl (Or.inl rfl) rfl (Nat.le_of_ble_eq_true rfl) (by decide +kernel) (by decide) (isX12_L ho0) ((t_M_length (T := T) (xs := xs) ho0 Hb19).mono (jKle 1 hd)) rfl ?_
    refine jEv.blk [(.iload_n 2, 1, []), (.imul, 1, []), (.iadd, 1, []), (.iload_n 3, 1, []), (.iadd, 1, [])] (by decide +kernel) (pc' := 153) (ls' := [(2, Int.ofNat o0), (3, 0), (0, v2), (0, v3)]) (st' := [(0, (wr ((wr (34 + (wr (b19 * v2)))) + v3))), (2, Int.ofNat (o0 + 1)), (0, (wr ((wr (128 * v2)) + v3))), (2, Int.ofNat o0)]) rfl ?_
    refine jEv.ald (Or.inl ⟨rfl, rfl, rfl⟩) (show jfI 356 153 (.iaload) 1 [] = true by decide +kernel) (isX12_a0 ho0) H (fun c20 H => ?_)
    refine jbind H (fun b21 Hb21 H => ?_)
    refine jEv.calV (st' := []) (show jfI 356 154 (.invokevirtual 393) 3 [1, 246, 2, 9064] = true by decide +kernel) rfl (Or.inl rfl) rfl (Nat.le_of_ble_eq_true rfl) (by decide +kernel) (by decide) (isX12_L ho0) ((t_M_lands (T := T) (xs := xs) ho0 Hb21).mono (jKle 1 hd)) rfl ?_
    refine jEv.blk [(.iinc 3 1, 3, [])] (by decide +kernel) (pc' := 160) (ls' := [(2, Int.ofNat o0), (3, 0), (0, v2), (0, (wr (v3 + 1)))]) (st' := []) rfl ?_
    refine jEv.goto (t := 122) (show jfI 356 160 (.goto (-38)) 3 [] = true by decide +kernel) rfl ?_
    exact (by cases H; exact HY)
  · refine jmapr H HY (fun out H (HY : yk_M_on_L112 T xs d y o0 out) => ?_)
    refine jEv.blk [(.iinc 2 1, 3, [])] (by decide +kernel) (pc' := 166) (ls' := [(2, Int.ofNat o0), (3, 0), (0, (wr (v2 + 1))), (0, v3)]) (st' := []) rfl ?_
    refine jEv.goto (t := 112) (show jfI 356 166 (.goto (-54)) 3 [] = true by decide +kernel) rfl ?_
    exact jEv.weak (a := [(2, Int.ofNat o0), (3, 0), (0, (wr (v2 + 1))), (3, 0)]) (jles.c1 (jles.c0 (jles.c1 (jles.c0 jles.nl)))) ((by cases H; exact HY))
theorem t_M_on_L122 {T : jT} {xs : List Int} {d : Nat} {y : jV × jS} (hd : 6 ≤ d) {h : jH}  {o0 : Nat} {v2 : Int} {v3 : Int} {out : ((Int × jH) ⊕ (Int × jH))} (ho0 : isX12 T o0) (H : M_on_L122 h o0 v2 v3 = some out) (HY : yk_M_on_L112 T xs d y o0 out) : jEv xs d (356, 122, [(2, Int.ofNat o0), (3, 0), (0, v2), (0, v3)], []) (T, h) y :=
  jloop_sound (G := fun s : (Int × jH) => jEv xs d (356, 122, [(2, Int.ofNat o0), (3, 0), (0, v2), (0, s.1)], []) (T, s.2) y) (K := yk_M_on_L122 T xs d y o0 v2) (fun s out H HY => t_M_on_B122 hd ho0 H HY) (fun s' hg => hg) (s := (v3, h)) H HY
set_option maxRecDepth 20000 in
noncomputable def M_on_B171  (h : jH) (o0 : Nat) (v2 : Int) : Option ((Int × jH) ⊕ (Int × jH)) := Option.bind (M_segmentMany h o0) (fun b22 => (if v2 < b22 then Option.bind (M_isHead h o0 v2) (fun b24 => (if b24 = 0 then some (.inl ((wr (v2 + 1)), h)) else Option.bind (M_serialOf h o0 v2) (fun b26 => (if (0 : Int) ≤ 8 ∧ (8 : Int).toNat < 2365 then (if (h (o0 + 33) (8 : Int).toNat) < b26 then Option.bind (M_serialOf h o0 v2) (fun b29 => (if (0 : Int) ≤ 8 ∧ (8 : Int).toNat < 2365 then some (.inl ((wr (v2 + 1)), (jup h (o0 + 33) (8 : Int).toNat b29))) else none)) else some (.inl ((wr (v2 + 1)), h))) else none)))) else Option.map Sum.inr (Option.bind (M_recovering h o0) (fun b31 => (if (0 : Int) ≤ 2244 ∧ (2244 : Int).toNat < 2365 then some (1, (jup (jup b31 (o0 + 33) (2244 : Int).toNat 0) o0 73 0)) else none)))))
noncomputable def M_on_L171  (h : jH) (o0 : Nat) (v2 : Int) : Option (Int × jH) := jloop (fun s : (Int × jH) => M_on_B171 s.2 o0 s.1) (v2, h)
set_option maxRecDepth 20000 in
theorem t_M_on_B171 {T : jT} {xs : List Int} {d : Nat} {y : jV × jS} (hd : 6 ≤ d) {h : jH}  {o0 : Nat} {v2 : Int} {out : ((Int × jH) ⊕ (Int × jH))} (ho0 : isX12 T o0) (H : M_on_B171 h o0 v2 = some out) (HY : yk_M_on_L171 T xs d y o0 out) : jEv xs d (356, 171, [(2, Int.ofNat o0), (3, 0), (0, v2), (3, 0)], []) (T, h) y := by
  unfold M_on_B171 at H
  refine jEv.blk [(.iload_n 2, 1, []), (.aload_n 0, 1, [])] (by decide +kernel) (pc' := 173) (ls' := [(2, Int.ofNat o0), (3, 0), (0, v2), (3, 0)]) (st' := [(2, Int.ofNat o0), (0, v2)]) rfl ?_
  refine jbind H (fun b22 Hb22 H => ?_)
  refine jEv.calV (st' := [(0, b22), (0, v2)]) (show jfI 356 173 (.invokevirtual 360) 3 [1, 254, 0, 9096] = true by decide +kernel) rfl (Or.inl rfl) rfl (Nat.le_of_ble_eq_true rfl) (by decide +kernel) (by decide) (isX12_L ho0) ((t_M_segmentMany (T := T) (xs := xs) ho0 Hb22).mono (jKle 1 hd)) rfl ?_
  refine jEv.ic_ge (t := 220) (show jfI 356 176 (.if_icmp .ge 44) 3 [] = true by decide +kernel) rfl H (fun c23 H => ?_) (fun c23 H => ?_)
  · refine jEv.blk [(.aload_n 0, 1, []), (.iload_n 2, 1, [])] (by decide +kernel) (pc' := 181) (ls' := [(2, Int.ofNat o0), (3, 0), (0, v2), (3, 0)]) (st' := [(0, v2), (2, Int.ofNat o0)]) rfl ?_
    refine jbind H (fun b24 Hb24 H => ?_)
    refine jEv.calV (st' := [(0, b24)]) (show jfI 356 181 (.invokevirtual 535) 3 [1, 258, 1, 9112] = true by decide +kernel) rfl (Or.inl rfl) rfl (Nat.le_of_ble_eq_true rfl) (by decide +kernel) (by decide) (isX12_L ho0) ((t_M_isHead (T := T) (xs := xs) ho0 Hb24).mono (jKle 3 hd)) rfl ?_
    refine jEv.if_eq (t := 214) (show jfI 356 184 (.ifCond .eq 30) 3 [] = true by decide +kernel) rfl H (fun c25 H => ?_) (fun c25 H => ?_)
    · refine jEv.blk [(.iinc 2 1, 3, [])] (by decide +kernel) (pc' := 217) (ls' := [(2, Int.ofNat o0), (3, 0), (0, (wr (v2 + 1))), (3, 0)]) (st' := []) rfl ?_
      refine jEv.goto (t := 171) (show jfI 356 217 (.goto (-46)) 3 [] = true by decide +kernel) rfl ?_
      exact (by cases H; exact HY)
    · refine jEv.blk [(.aload_n 0, 1, []), (.iload_n 2, 1, [])] (by decide +kernel) (pc' := 189) (ls' := [(2, Int.ofNat o0), (3, 0), (0, v2), (3, 0)]) (st' := [(0, v2), (2, Int.ofNat o0)]) rfl ?_
      refine jbind H (fun b26 Hb26 H => ?_)
      refine jEv.calV (st' := [(0, b26)]) (show jfI 356 189 (.invokevirtual 497) 3 [1, 260, 1, 9120] = true by decide +kernel) rfl (Or.inl rfl) rfl (Nat.le_of_ble_eq_true rfl) (by decide +kernel) (by decide) (isX12_L ho0) ((t_M_serialOf (T := T) (xs := xs) ho0 Hb26).mono (jKle 2 hd)) rfl ?_
      refine jEv.blk [(.aload_n 0, 1, [])] (by decide +kernel) (pc' := 193) (ls' := [(2, Int.ofNat o0), (3, 0), (0, v2), (3, 0)]) (st' := [(2, Int.ofNat o0), (0, b26)]) rfl ?_
      refine jEv.gfR (o' := (o0 + 33)) (show jfI 356 193 (.getfield 111) 3 [12, 45, 5, 0, 7081] = true by decide +kernel) (isX12_L ho0) (by decide) (isX12_r45 ho0) ?_
      refine jEv.blk [(.bipush 8, 2, [])] (by decide +kernel) (pc' := 198) (ls' := [(2, Int.ofNat o0), (3, 0), (0, v2), (3, 0)]) (st' := [(0, 8), (2, Int.ofNat (o0 + 33)), (0, b26)]) rfl ?_
      refine jEv.ald (Or.inl ⟨rfl, rfl, rfl⟩) (show jfI 356 198 (.iaload) 1 [] = true by decide +kernel) (isX12_a45 ho0) H (fun c27 H => ?_)
      refine jEv.ic_le (t := 214) (show jfI 356 199 (.if_icmp .le 15) 3 [] = true by decide +kernel) rfl H (fun c28 H => ?_) (fun c28 H => ?_)
      · refine jEv.blk [(.aload_n 0, 1, [])] (by decide +kernel) (pc' := 203) (ls' := [(2, Int.ofNat o0), (3, 0), (0, v2), (3, 0)]) (st' := [(2, Int.ofNat o0)]) rfl ?_
        refine jEv.gfR (o' := (o0 + 33)) (show jfI 356 203 (.getfield 111) 3 [12, 45, 5, 0, 7081] = true by decide +kernel) (isX12_L ho0) (by decide) (isX12_r45 ho0) ?_
        refine jEv.blk [(.bipush 8, 2, []), (.aload_n 0, 1, []), (.iload_n 2, 1, [])] (by decide +kernel) (pc' := 210) (ls' := [(2, Int.ofNat o0), (3, 0), (0, v2), (3, 0)]) (st' := [(0, v2), (2, Int.ofNat o0), (0, 8), (2, Int.ofNat (o0 + 33))]) rfl ?_
        refine jbind H (fun b29 Hb29 H => ?_)
        refine jEv.calV (st' := [(0, b29), (0, 8), (2, Int.ofNat (o0 + 33))]) (show jfI 356 210 (.invokevirtual 497) 3 [1, 260, 1, 9120] = true by decide +kernel) rfl (Or.inl rfl) rfl (Nat.le_of_ble_eq_true rfl) (by decide +kernel) (by decide) (isX12_L ho0) ((t_M_serialOf (T := T) (xs := xs) ho0 Hb29).mono (jKle 2 hd)) rfl ?_
        refine jEv.ast (Or.inl ⟨rfl, rfl, rfl⟩) (show jfI 356 213 (.iastore) 1 [] = true by decide +kernel) (isX12_a45 ho0) rfl H (fun c30 H => ?_)
        refine jEv.blk [(.iinc 2 1, 3, [])] (by decide +kernel) (pc' := 217) (ls' := [(2, Int.ofNat o0), (3, 0), (0, (wr (v2 + 1))), (3, 0)]) (st' := []) rfl ?_
        refine jEv.goto (t := 171) (show jfI 356 217 (.goto (-46)) 3 [] = true by decide +kernel) rfl ?_
        exact (by cases H; exact HY)
      · refine jEv.blk [(.iinc 2 1, 3, [])] (by decide +kernel) (pc' := 217) (ls' := [(2, Int.ofNat o0), (3, 0), (0, (wr (v2 + 1))), (3, 0)]) (st' := []) rfl ?_
        refine jEv.goto (t := 171) (show jfI 356 217 (.goto (-46)) 3 [] = true by decide +kernel) rfl ?_
        exact (by cases H; exact HY)
  · refine jmapr H HY (fun out H (HY : ykI T y out) => ?_)
    refine jEv.blk [(.aload_n 0, 1, [])] (by decide +kernel) (pc' := 221) (ls' := [(2, Int.ofNat o0), (3, 0), (0, v2), (3, 0)]) (st' := [(2, Int.ofNat o0)]) rfl ?_
    refine jbind H (fun b31 Hb31 H => ?_)
    refine jEv.calV (st' := []) (show jfI 356 221 (.invokevirtual 564) 3 [1, 316, 0, 10115] = true by decide +kernel) rfl (Or.inl rfl) rfl (Nat.le_of_ble_eq_true rfl) (by decide +kernel) (by decide) (isX12_L ho0) ((t_M_recovering (T := T) (xs := xs) ho0 Hb31).mono (jKle 6 hd)) rfl ?_
    refine jEv.blk [(.aload_n 0, 1, [])] (by decide +kernel) (pc' := 225) (ls' := [(2, Int.ofNat o0), (3, 0), (0, v2), (3, 0)]) (st' := [(2, Int.ofNat o0)]) rfl ?_
    refine jEv.gfR (o' := (o0 + 33)) (show jfI 356 225 (.getfield 111) 3 [12, 45, 5, 0, 7081] = true by decide +kernel) (isX12_L ho0) (by decide) (isX12_r45 ho0) ?_
    refine jEv.blk [(.sipush 2244, 3, []), (.iconst 0, 1, [])] (by decide +kernel) (pc' := 232) (ls' := [(2, Int.ofNat o0), (3, 0), (0, v2), (3, 0)]) (st' := [(0, 0), (0, 2244), (2, Int.ofNat (o0 + 33))]) rfl ?_
    refine jEv.ast (Or.inl ⟨rfl, rfl, rfl⟩) (show jfI 356 232 (.iastore) 1 [] = true by decide +kernel) (isX12_a45 ho0) rfl H (fun c32 H => ?_)
    refine jEv.blk [(.aload_n 0, 1, []), (.iconst 0, 1, [])] (by decide +kernel) (pc' := 235) (ls' := [(2, Int.ofNat o0), (3, 0), (0, v2), (3, 0)]) (st' := [(0, 0), (2, Int.ofNat o0)]) rfl ?_
    refine jEv.pfI (show jfI 356 235 (.putfield 347) 3 [12, 73, 0, 0, 7109] = true by decide +kernel) (isX12_L ho0) (by decide) ?_
    refine jEv.blk [(.iconst 1, 1, [])] (by decide +kernel) (pc' := 239) (ls' := [(2, Int.ofNat o0), (3, 0), (0, v2), (3, 0)]) (st' := [(0, 1)]) rfl ?_
    exact jEv.retZ (show jfI 356 239 (.ireturn) 1 [] = true by decide +kernel) (by decide +kernel) (by decide) (by cases H; exact HY)
theorem t_M_on_L171 {T : jT} {xs : List Int} {d : Nat} {y : jV × jS} (hd : 6 ≤ d) {h : jH}  {o0 : Nat} {v2 : Int} {out : (Int × jH)} (ho0 : isX12 T o0) (H : M_on_L171 h o0 v2 = some out) (HY : ykI T y out) : jEv xs d (356, 171, [(2, Int.ofNat o0), (3, 0), (0, v2), (3, 0)], []) (T, h) y :=
  jloop_sound (G := fun s : (Int × jH) => jEv xs d (356, 171, [(2, Int.ofNat o0), (3, 0), (0, s.1), (3, 0)], []) (T, s.2) y) (K := yk_M_on_L171 T xs d y o0) (fun s out H HY => t_M_on_B171 hd ho0 H HY) (fun s' hg => hg) (s := (v2, h)) H HY
set_option maxRecDepth 20000 in
noncomputable def M_on_B112  (h : jH) (o0 : Nat) (v2 : Int) : Option ((Int × jH) ⊕ (Int × jH)) := Option.bind (M_segmentMany h o0) (fun b15 => (if v2 < b15 then M_on_L122 h o0 v2 0 else Option.map Sum.inr (M_on_L171 h o0 0)))
noncomputable def M_on_L112  (h : jH) (o0 : Nat) (v2 : Int) : Option (Int × jH) := jloop (fun s : (Int × jH) => M_on_B112 s.2 o0 s.1) (v2, h)
set_option maxRecDepth 20000 in
theorem t_M_on_B112 {T : jT} {xs : List Int} {d : Nat} {y : jV × jS} (hd : 6 ≤ d) {h : jH}  {o0 : Nat} {v2 : Int} {out : ((Int × jH) ⊕ (Int × jH))} (ho0 : isX12 T o0) (H : M_on_B112 h o0 v2 = some out) (HY : yk_M_on_L112 T xs d y o0 out) : jEv xs d (356, 112, [(2, Int.ofNat o0), (3, 0), (0, v2), (3, 0)], []) (T, h) y := by
  unfold M_on_B112 at H
  refine jEv.blk [(.iload_n 2, 1, []), (.aload_n 0, 1, [])] (by decide +kernel) (pc' := 114) (ls' := [(2, Int.ofNat o0), (3, 0), (0, v2), (3, 0)]) (st' := [(2, Int.ofNat o0), (0, v2)]) rfl ?_
  refine jbind H (fun b15 Hb15 H => ?_)
  refine jEv.calV (st' := [(0, b15), (0, v2)]) (show jfI 356 114 (.invokevirtual 360) 3 [1, 254, 0, 9096] = true by decide +kernel) rfl (Or.inl rfl) rfl (Nat.le_of_ble_eq_true rfl) (by decide +kernel) (by decide) (isX12_L ho0) ((t_M_segmentMany (T := T) (xs := xs) ho0 Hb15).mono (jKle 1 hd)) rfl ?_
  refine jEv.ic_ge (t := 169) (show jfI 356 117 (.if_icmp .ge 52) 3 [] = true by decide +kernel) rfl H (fun c16 H => ?_) (fun c16 H => ?_)
  · refine jEv.blk [(.iconst 0, 1, []), (.istore_n 3, 1, [])] (by decide +kernel) (pc' := 122) (ls' := [(2, Int.ofNat o0), (3, 0), (0, v2), (0, 0)]) (st' := []) rfl ?_
    exact t_M_on_L122 (T := T) (xs := xs) (y := y) hd ho0 H HY
  · refine jmapr H HY (fun out H (HY : ykI T y out) => ?_)
    refine jEv.blk [(.iconst 0, 1, []), (.istore_n 2, 1, [])] (by decide +kernel) (pc' := 171) (ls' := [(2, Int.ofNat o0), (3, 0), (0, 0), (3, 0)]) (st' := []) rfl ?_
    exact t_M_on_L171 (T := T) (xs := xs) (y := y) hd ho0 H HY
theorem t_M_on_L112 {T : jT} {xs : List Int} {d : Nat} {y : jV × jS} (hd : 6 ≤ d) {h : jH}  {o0 : Nat} {v2 : Int} {out : (Int × jH)} (ho0 : isX12 T o0) (H : M_on_L112 h o0 v2 = some out) (HY : ykI T y out) : jEv xs d (356, 112, [(2, Int.ofNat o0), (3, 0), (0, v2), (3, 0)], []) (T, h) y :=
  jloop_sound (G := fun s : (Int × jH) => jEv xs d (356, 112, [(2, Int.ofNat o0), (3, 0), (0, s.1), (3, 0)], []) (T, s.2) y) (K := yk_M_on_L112 T xs d y o0) (fun s out H HY => t_M_on_B112 hd ho0 H HY) (fun s' hg => hg) (s := (v2, h)) H HY
set_option maxRecDepth 20000 in
noncomputable def M_on_B60  (h : jH) (o0 : Nat) (v2 : Int) : Option ((Int × jH) ⊕ (Int × jH)) := (if v2 < 16 then Option.bind (M_twoAt h o0 (wr (2 + (wr (2 * v2))))) (fun b10 => (if b10 = 65535 then (if (0 : Int) ≤ (wr (160 + v2)) ∧ ((wr (160 + v2)) : Int).toNat < 2365 then some (.inl ((wr (v2 + 1)), (jup h (o0 + 33) ((wr (160 + v2)) : Int).toNat (-1)))) else none) else Option.bind (M_twoAt h o0 (wr (2 + (wr (2 * v2))))) (fun b13 => (if (0 : Int) ≤ (wr (160 + v2)) ∧ ((wr (160 + v2)) : Int).toNat < 2365 then some (.inl ((wr (v2 + 1)), (jup h (o0 + 33) ((wr (160 + v2)) : Int).toNat b13))) else none)))) else Option.map Sum.inr (M_on_L112 h o0 0))
noncomputable def M_on_L60  (h : jH) (o0 : Nat) (v2 : Int) : Option (Int × jH) := jloop (fun s : (Int × jH) => M_on_B60 s.2 o0 s.1) (v2, h)
set_option maxRecDepth 20000 in
theorem t_M_on_B60 {T : jT} {xs : List Int} {d : Nat} {y : jV × jS} (hd : 6 ≤ d) {h : jH}  {o0 : Nat} {v2 : Int} {out : ((Int × jH) ⊕ (Int × jH))} (ho0 : isX12 T o0) (H : M_on_B60 h o0 v2 = some out) (HY : yk_M_on_L60 T xs d y o0 out) : jEv xs d (356, 60, [(2, Int.ofNat o0), (3, 0), (0, v2), (3, 0)], []) (T, h) y := by
  unfold M_on_B60 at H
  refine jEv.blk [(.iload_n 2, 1, []), (.bipush 16, 2, [])] (by decide +kernel) (pc' := 63) (ls' := [(2, Int.ofNat o0), (3, 0), (0, v2), (3, 0)]) (st' := [(0, 16), (0, v2)]) rfl ?_
  refine jEv.ic_ge (t := 110) (show jfI 356 63 (.if_icmp .ge 47) 3 [] = true by decide +kernel) rfl H (fun c9 H => ?_) (fun c9 H => ?_)
  · refine jEv.blk [(.aload_n 0, 1, [])] (by decide +kernel) (pc' := 67) (ls' := [(2, Int.ofNat o0), (3, 0), (0, v2), (3, 0)]) (st' := [(2, Int.ofNat o0)]) rfl ?_
    refine jEv.gfR (o' := (o0 + 33)) (show jfI 356 67 (.getfield 111) 3 [12, 45, 5, 0, 7081] = true by decide +kernel) (isX12_L ho0) (by decide) (isX12_r45 ho0) ?_
    refine jEv.blk [(.sipush 160, 3, []), (.iload_n 2, 1, []), (.iadd, 1, []), (.aload_n 0, 1, []), (.iconst 2, 1, []), (.iconst 2, 1, []), (.iload_n 2, 1, []), (.imul, 1, []), (.iadd, 1, [])] (by decide +kernel) (pc' := 81) (ls' := [(2, Int.ofNat o0), (3, 0), (0, v2), (3, 0)]) (st' := [(0, (wr (2 + (wr (2 * v2))))), (2, Int.ofNat o0), (0, (wr (160 + v2))), (2, Int.ofNat (o0 + 33))]) rfl ?_
    refine jbind H (fun b10 Hb10 H => ?_)
    refine jEv.calV (st' := [(0, b10), (0, (wr (160 + v2))), (2, Int.ofNat (o0 + 33))]) (show jfI 356 81 (.invokevirtual 765) 3 [1, 358, 1, 11051] = true by decide +kernel) rfl (Or.inl rfl) rfl (Nat.le_of_ble_eq_true rfl) (by decide +kernel) (by decide) (isX12_L ho0) ((t_M_twoAt (T := T) (xs := xs) ho0 Hb10).mono (jKle 1 hd)) rfl ?_
    refine jEv.blk [(.ldc_w 506, 3, [0, 0, 65535, 9156])] (by decide +kernel) (pc' := 87) (ls' := [(2, Int.ofNat o0), (3, 0), (0, v2), (3, 0)]) (st' := [(0, 65535), (0, b10), (0, (wr (160 + v2))), (2, Int.ofNat (o0 + 33))]) rfl ?_
    refine jEv.ic_ne (t := 94) (show jfI 356 87 (.if_icmp .ne 7) 3 [] = true by decide +kernel) rfl H (fun c11 H => ?_) (fun c11 H => ?_)
    · refine jEv.blk [(.iconst (-1), 1, [])] (by decide +kernel) (pc' := 91) (ls' := [(2, Int.ofNat o0), (3, 0), (0, v2), (3, 0)]) (st' := [(0, (-1)), (0, (wr (160 + v2))), (2, Int.ofNat (o0 + 33))]) rfl ?_
      refine jEv.goto (t := 103) (show jfI 356 91 (.goto 12) 3 [] = true by decide +kernel) rfl ?_
      refine jEv.ast (Or.inl ⟨rfl, rfl, rfl⟩) (show jfI 356 103 (.iastore) 1 [] = true by decide +kernel) (isX12_a45 ho0) rfl H (fun c12 H => ?_)
      refine jEv.blk [(.iinc 2 1, 3, [])] (by decide +kernel) (pc' := 107) (ls' := [(2, Int.ofNat o0), (3, 0), (0, (wr (v2 + 1))), (3, 0)]) (st' := []) rfl ?_
      refine jEv.goto (t := 60) (show jfI 356 107 (.goto (-47)) 3 [] = true by decide +kernel) rfl ?_
      exact (by cases H; exact HY)
    · refine jEv.blk [(.aload_n 0, 1, []), (.iconst 2, 1, []), (.iconst 2, 1, []), (.iload_n 2, 1, []), (.imul, 1, []), (.iadd, 1, [])] (by decide +kernel) (pc' := 100) (ls' := [(2, Int.ofNat o0), (3, 0), (0, v2), (3, 0)]) (st' := [(0, (wr (2 + (wr (2 * v2))))), (2, Int.ofNat o0), (0, (wr (160 + v2))), (2, Int.ofNat (o0 + 33))]) rfl ?_
      refine jbind H (fun b13 Hb13 H => ?_)
      refine jEv.calV (st' := [(0, b13), (0, (wr (160 + v2))), (2, Int.ofNat (o0 + 33))]) (show jfI 356 100 (.invokevirtual 765) 3 [1, 358, 1, 11051] = true by decide +kernel) rfl (Or.inl rfl) rfl (Nat.le_of_ble_eq_true rfl) (by decide +kernel) (by decide) (isX12_L ho0) ((t_M_twoAt (T := T) (xs := xs) ho0 Hb13).mono (jKle 1 hd)) rfl ?_
      refine jEv.ast (Or.inl ⟨rfl, rfl, rfl⟩) (show jfI 356 103 (.iastore) 1 [] = true by decide +kernel) (isX12_a45 ho0) rfl H (fun c14 H => ?_)
      refine jEv.blk [(.iinc 2 1, 3, [])] (by decide +kernel) (pc' := 107) (ls' := [(2, Int.ofNat o0), (3, 0), (0, (wr (v2 + 1))), (3, 0)]) (st' := []) rfl ?_
      refine jEv.goto (t := 60) (show jfI 356 107 (.goto (-47)) 3 [] = true by decide +kernel) rfl ?_
      exact (by cases H; exact HY)
  · refine jmapr H HY (fun out H (HY : ykI T y out) => ?_)
    refine jEv.blk [(.iconst 0, 1, []), (.istore_n 2, 1, [])] (by decide +kernel) (pc' := 112) (ls' := [(2, Int.ofNat o0), (3, 0), (0, 0), (3, 0)]) (st' := []) rfl ?_
    exact t_M_on_L112 (T := T) (xs := xs) (y := y) hd ho0 H HY
theorem t_M_on_L60 {T : jT} {xs : List Int} {d : Nat} {y : jV × jS} (hd : 6 ≤ d) {h : jH}  {o0 : Nat} {v2 : Int} {out : (Int × jH)} (ho0 : isX12 T o0) (H : M_on_L60 h o0 v2 = some out) (HY : ykI T y out) : jEv xs d (356, 60, [(2, Int.ofNat o0), (3, 0), (0, v2), (3, 0)], []) (T, h) y :=
  jloop_sound (G := fun s : (Int × jH) => jEv xs d (356, 60, [(2, Int.ofNat o0), (3, 0), (0, s.1), (3, 0)], []) (T, s.2) y) (K := yk_M_on_L60 T xs d y o0) (fun s out H HY => t_M_on_B60 hd ho0 H HY) (fun s' hg => hg) (s := (v2, h)) H HY
set_option maxRecDepth 20000 in
noncomputable def M_on_B27  (h : jH) (o0 : Nat) (v2 : Int) : Option ((Int × jH) ⊕ (Int × jH)) := (if v2 < 16 then (if (0 : Int) ≤ v2 ∧ (v2 : Int).toNat < 2365 then some (.inl ((wr (v2 + 1)), (jup h (o0 + 33) (v2 : Int).toNat 0))) else none) else Option.map Sum.inr (Option.bind (M_twoAt h o0 0) (fun b7 => (if (0 : Int) ≤ 9 ∧ (9 : Int).toNat < 2365 then M_on_L60 (jup h (o0 + 33) (9 : Int).toNat b7) o0 0 else none))))
noncomputable def M_on_L27  (h : jH) (o0 : Nat) (v2 : Int) : Option (Int × jH) := jloop (fun s : (Int × jH) => M_on_B27 s.2 o0 s.1) (v2, h)
set_option maxRecDepth 20000 in
theorem t_M_on_B27 {T : jT} {xs : List Int} {d : Nat} {y : jV × jS} (hd : 6 ≤ d) {h : jH}  {o0 : Nat} {v2 : Int} {out : ((Int × jH) ⊕ (Int × jH))} (ho0 : isX12 T o0) (H : M_on_B27 h o0 v2 = some out) (HY : yk_M_on_L27 T xs d y o0 out) : jEv xs d (356, 27, [(2, Int.ofNat o0), (3, 0), (0, v2), (3, 0)], []) (T, h) y := by
  unfold M_on_B27 at H
  refine jEv.blk [(.iload_n 2, 1, []), (.bipush 16, 2, [])] (by decide +kernel) (pc' := 30) (ls' := [(2, Int.ofNat o0), (3, 0), (0, v2), (3, 0)]) (st' := [(0, 16), (0, v2)]) rfl ?_
  refine jEv.ic_ge (t := 46) (show jfI 356 30 (.if_icmp .ge 16) 3 [] = true by decide +kernel) rfl H (fun c5 H => ?_) (fun c5 H => ?_)
  · refine jEv.blk [(.aload_n 0, 1, [])] (by decide +kernel) (pc' := 34) (ls' := [(2, Int.ofNat o0), (3, 0), (0, v2), (3, 0)]) (st' := [(2, Int.ofNat o0)]) rfl ?_
    refine jEv.gfR (o' := (o0 + 33)) (show jfI 356 34 (.getfield 111) 3 [12, 45, 5, 0, 7081] = true by decide +kernel) (isX12_L ho0) (by decide) (isX12_r45 ho0) ?_
    refine jEv.blk [(.iload_n 2, 1, []), (.iconst 0, 1, [])] (by decide +kernel) (pc' := 39) (ls' := [(2, Int.ofNat o0), (3, 0), (0, v2), (3, 0)]) (st' := [(0, 0), (0, v2), (2, Int.ofNat (o0 + 33))]) rfl ?_
    refine jEv.ast (Or.inl ⟨rfl, rfl, rfl⟩) (show jfI 356 39 (.iastore) 1 [] = true by decide +kernel) (isX12_a45 ho0) rfl H (fun c6 H => ?_)
    refine jEv.blk [(.iinc 2 1, 3, [])] (by decide +kernel) (pc' := 43) (ls' := [(2, Int.ofNat o0), (3, 0), (0, (wr (v2 + 1))), (3, 0)]) (st' := []) rfl ?_
    refine jEv.goto (t := 27) (show jfI 356 43 (.goto (-16)) 3 [] = true by decide +kernel) rfl ?_
    exact (by cases H; exact HY)
  · refine jmapr H HY (fun out H (HY : ykI T y out) => ?_)
    refine jEv.blk [(.aload_n 0, 1, [])] (by decide +kernel) (pc' := 47) (ls' := [(2, Int.ofNat o0), (3, 0), (0, v2), (3, 0)]) (st' := [(2, Int.ofNat o0)]) rfl ?_
    refine jEv.gfR (o' := (o0 + 33)) (show jfI 356 47 (.getfield 111) 3 [12, 45, 5, 0, 7081] = true by decide +kernel) (isX12_L ho0) (by decide) (isX12_r45 ho0) ?_
    refine jEv.blk [(.bipush 9, 2, []), (.aload_n 0, 1, []), (.iconst 0, 1, [])] (by decide +kernel) (pc' := 54) (ls' := [(2, Int.ofNat o0), (3, 0), (0, v2), (3, 0)]) (st' := [(0, 0), (2, Int.ofNat o0), (0, 9), (2, Int.ofNat (o0 + 33))]) rfl ?_
    refine jbind H (fun b7 Hb7 H => ?_)
    refine jEv.calV (st' := [(0, b7), (0, 9), (2, Int.ofNat (o0 + 33))]) (show jfI 356 54 (.invokevirtual 765) 3 [1, 358, 1, 11051] = true by decide +kernel) rfl (Or.inl rfl) rfl (Nat.le_of_ble_eq_true rfl) (by decide +kernel) (by decide) (isX12_L ho0) ((t_M_twoAt (T := T) (xs := xs) ho0 Hb7).mono (jKle 1 hd)) rfl ?_
    refine jEv.ast (Or.inl ⟨rfl, rfl, rfl⟩) (show jfI 356 57 (.iastore) 1 [] = true by decide +kernel) (isX12_a45 ho0) rfl H (fun c8 H => ?_)
    refine jEv.blk [(.iconst 0, 1, []), (.istore_n 2, 1, [])] (by decide +kernel) (pc' := 60) (ls' := [(2, Int.ofNat o0), (3, 0), (0, 0), (3, 0)]) (st' := []) rfl ?_
    exact t_M_on_L60 (T := T) (xs := xs) (y := y) hd ho0 H HY
theorem t_M_on_L27 {T : jT} {xs : List Int} {d : Nat} {y : jV × jS} (hd : 6 ≤ d) {h : jH}  {o0 : Nat} {v2 : Int} {out : (Int × jH)} (ho0 : isX12 T o0) (H : M_on_L27 h o0 v2 = some out) (HY : ykI T y out) : jEv xs d (356, 27, [(2, Int.ofNat o0), (3, 0), (0, v2), (3, 0)], []) (T, h) y :=
  jloop_sound (G := fun s : (Int × jH) => jEv xs d (356, 27, [(2, Int.ofNat o0), (3, 0), (0, s.1), (3, 0)], []) (T, s.2) y) (K := yk_M_on_L27 T xs d y o0) (fun s out H HY => t_M_on_B27 hd ho0 H HY) (fun s' hg => hg) (s := (v2, h)) H HY
set_option maxRecDepth 20000 in
noncomputable def M_on  (h : jH) (o0 : Nat) : Option (Int × jH) := Option.bind (M_isImage (jup h o0 1 0) o0 (h o0 1)) (fun b1 => (if b1 = 0 then Option.bind (M_isRefused (jup h o0 1 0) o0 6) (fun b3 => (if b3.1 = 0 ∨ b3.1 = 1 then some (b3.1, b3.2) else none)) else M_on_L27 (jup h o0 1 0) o0 0))
set_option maxRecDepth 20000 in
theorem t_M_on {T : jT} {xs : List Int} {h : jH}  {o0 : Nat} {out : (Int × jH)} (ho0 : isX12 T o0) (H : M_on h o0 = some out) : jEm xs 7 356 [(2, Int.ofNat o0)] (T, h) ((0, out.1), (T, out.2)) := by
  have hd : 6 ≤ 6 := Nat.le_refl _
  obtain ⟨y, ey⟩ : ∃ y : jV × jS, y = ((0, out.1), (T, out.2)) := ⟨_, rfl⟩
  rw [← ey]
  have HY : ykI T y out := ey
  refine jEm.ent (n := 4) (by decide +kernel) (Nat.le_of_ble_eq_true rfl) ?_
  show jEv xs 6 (356, 0, [(2, Int.ofNat o0), (3, 0), (3, 0), (3, 0)], []) (T, h) y
  unfold M_on at H
  refine jEv.blk [(.aload_n 0, 1, [])] (by decide +kernel) (pc' := 1) (ls' := [(2, Int.ofNat o0), (3, 0), (3, 0), (3, 0)]) (st' := [(2, Int.ofNat o0)]) rfl ?_
  refine jEv.gfI (show jfI 356 1 (.getfield 229) 3 [12, 1, 0, 0, 7037] = true by decide +kernel) (isX12_L ho0) (by decide) ?_
  refine jEv.blk [(.istore_n 1, 1, []), (.aload_n 0, 1, []), (.iconst 0, 1, [])] (by decide +kernel) (pc' := 7) (ls' := [(2, Int.ofNat o0), (0, (h o0 1)), (3, 0), (3, 0)]) (st' := [(0, 0), (2, Int.ofNat o0)]) rfl ?_
  refine jEv.pfI (show jfI 356 7 (.putfield 229) 3 [12, 1, 0, 0, 7037] = true by decide +kernel) (isX12_L ho0) (by decide) ?_
  refine jEv.blk [(.aload_n 0, 1, []), (.iload_n 1, 1, [])] (by decide +kernel) (pc' := 12) (ls' := [(2, Int.ofNat o0), (0, (h o0 1)), (3, 0), (3, 0)]) (st' := [(0, (h o0 1)), (2, Int.ofNat o0)]) rfl ?_
  refine jbind H (fun b1 Hb1 H => ?_)
  refine jEv.calV (st' := [(0, b1)]) (show jfI 356 12 (.invokevirtual 768) 3 [1, 357, 1, 11047] = true by decide +kernel) rfl (Or.inl rfl) rfl (Nat.le_of_ble_eq_true rfl) (by decide +kernel) (by decide) (isX12_L ho0) ((t_M_isImage (T := T) (xs := xs) ho0 Hb1).mono (jKle 2 hd)) rfl ?_
  refine jEv.if_ne (t := 25) (show jfI 356 15 (.ifCond .ne 10) 3 [] = true by decide +kernel) rfl H (fun c2 H => ?_) (fun c2 H => ?_)
  · refine jEv.blk [(.aload_n 0, 1, []), (.bipush 6, 2, [])] (by decide +kernel) (pc' := 21) (ls' := [(2, Int.ofNat o0), (0, (h o0 1)), (3, 0), (3, 0)]) (st' := [(0, 6), (2, Int.ofNat o0)]) rfl ?_
    refine jbind H (fun b3 Hb3 H => ?_)
    refine jEv.calV (st' := [(0, b3.1)]) (show jfI 356 21 (.invokevirtual 642) 3 [1, 336, 1, 10196] = true by decide +kernel) rfl (Or.inl rfl) rfl (Nat.le_of_ble_eq_true rfl) (by decide +kernel) (by decide) (isX12_L ho0) ((t_M_isRefused (T := T) (xs := xs) ho0 Hb3).mono (jKle 1 hd)) rfl ?_
    refine jchk H (fun c4 H => ?_)
    exact jEv.retZ (show jfI 356 24 (.ireturn) 1 [] = true by decide +kernel) (by decide +kernel) c4 (by cases H; exact HY)
  · refine jEv.blk [(.iconst 0, 1, []), (.istore_n 2, 1, [])] (by decide +kernel) (pc' := 27) (ls' := [(2, Int.ofNat o0), (0, (h o0 1)), (0, 0), (3, 0)]) (st' := []) rfl ?_
    exact jEv.weak (a := [(2, Int.ofNat o0), (3, 0), (0, 0), (3, 0)]) (jles.c1 (jles.c0 (jles.c1 (jles.c0 jles.nl)))) (t_M_on_L27 (T := T) (xs := xs) (y := y) hd ho0 H HY)
