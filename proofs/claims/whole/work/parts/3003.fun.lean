/-! methods as functions -/
set_option maxRecDepth 20000 in
noncomputable def M_checkBy  (v0 : Int) (v1 : Int) : Option Int := some (Int.tmod (wr ((wr (3 * v0)) + v1)) 251)
set_option maxRecDepth 20000 in
theorem t_M_checkBy {T : jT} {xs : List Int} {h : jH}  {v0 : Int} {v1 : Int} {out : Int}  (H : M_checkBy v0 v1 = some out) : jEm xs 1 245 [(0, v0), (0, v1)] (T, h) ((0, out), (T, h)) := by
  have hd : 0 ≤ 0 := Nat.le_refl _
  obtain ⟨y, ey⟩ : ∃ y : jV × jS, y = ((0, out), (T, h)) := ⟨_, rfl⟩
  rw [← ey]
  have HY : ykIp T h y out := ey
  refine jEm.ent (n := 2) (by decide +kernel) (Nat.le_of_ble_eq_true rfl) ?_
  show jEv xs 0 (245, 0, [(0, v0), (0, v1)], []) (T, h) y
  unfold M_checkBy at H
  refine jEv.blk [(.iconst 3, 1, []), (.iload_n 0, 1, []), (.imul, 1, []), (.iload_n 1, 1, []), (.iadd, 1, []), (.sipush 251, 3, [])] (by decide +kernel) (pc' := 8) (ls' := [(0, v0), (0, v1)]) (st' := [(0, 251), (0, (wr ((wr (3 * v0)) + v1)))]) rfl ?_
  refine jEv.irem (show jfI 245 8 (.irem) 1 [] = true by decide +kernel) (by decide) ?_
  exact jEv.retI (show jfI 245 9 (.ireturn) 1 [] = true by decide +kernel) (by decide +kernel) (by cases H; exact HY)
def yk_M_headByte_L7 (T : jT) (xs : List Int) (d : Nat) (y : jV × jS) (h : jH)  (v1 : Int) (v2 : Int) (v3 : Int) : ((Int × Int) ⊕ Int) → Prop
  | .inl (v4, v5) => jEv xs d (243, 7, [(3, 0), (0, v1), (0, v2), (0, v3), (0, v4), (0, v5)], []) (T, h) y
  | .inr o => ykIp T h y o
set_option maxRecDepth 20000 in
noncomputable def M_headByte_B7  (v1 : Int) (v2 : Int) (v3 : Int) (v4 : Int) (v5 : Int) : Option ((Int × Int) ⊕ Int) := (if v5 < v3 then Option.bind (M_headByteAt v1 v2 v5) (fun b2 => Option.bind (M_checkBy v4 b2) (fun b3 => some (.inl (b3, (wr (v5 + 1)))))) else Option.map Sum.inr ((if v3 = 4 then some v4 else Option.bind (M_headByteAt v1 v2 v3) (fun b5 => some b5))))
noncomputable def M_headByte_L7  (v1 : Int) (v2 : Int) (v3 : Int) (v4 : Int) (v5 : Int) : Option Int := jloop (fun s : (Int × Int) => M_headByte_B7 v1 v2 v3 s.1 s.2) (v4, v5)
set_option maxRecDepth 20000 in
theorem t_M_headByte_B7 {T : jT} {xs : List Int} {d : Nat} {y : jV × jS} (hd : 1 ≤ d) {h : jH}  {v1 : Int} {v2 : Int} {v3 : Int} {v4 : Int} {v5 : Int} {out : ((Int × Int) ⊕ Int)}  (H : M_headByte_B7 v1 v2 v3 v4 v5 = some out) (HY : yk_M_headByte_L7 T xs d y h v1 v2 v3 out) : jEv xs d (243, 7, [(3, 0), (0, v1), (0, v2), (0, v3), (0, v4), (0, v5)], []) (T, h) y := by
  unfold M_headByte_B7 at H
  refine jEv.blk [(.iload 5, 2, []), (.iload_n 3, 1, [])] (by decide +kernel) (pc' := 10) (ls' := [(3, 0), (0, v1), (0, v2), (0, v3), (0, v4), (0, v5)]) (st' := [(0, v3), (0, v5)]) rfl ?_
  refine jEv.ic_ge (t := 33) (show jfI 243 10 (.if_icmp .ge 23) 3 [] = true by decide +kernel) rfl H (fun c1 H => ?_) (fun c1 H => ?_)
  · refine jEv.blk [(.iload 4, 2, []), (.iload_n 1, 1, []), (.iload_n 2, 1, []), (.iload 5, 2, [])] (by decide +kernel) (pc' := 19) (ls' := [(3, 0), (0, v1), (0, v2), (0, v3), (0, v4), (0, v5)]) (st' := [(0, v5), (0, v2), (0, v1), (0, v4)]) rfl ?_
    refine jbind H (fun b2 Hb2 H => ?_)
    refine jEv.calS (st' := [(0, b2), (0, v4)]) (show jfI 243 19 (.invokestatic 380) 3 [3, 244, 3, 9058] = true by decide +kernel) rfl (Or.inl rfl) rfl (Nat.le_of_ble_eq_true rfl) ((t_M_headByteAt (T := T) (xs := xs)  Hb2).mono (jKle 1 hd)) rfl ?_
    refine jbind H (fun b3 Hb3 H => ?_)
    refine jEv.calS (st' := [(0, b3)]) (show jfI 243 22 (.invokestatic 384) 3 [3, 245, 2, 9061] = true by decide +kernel) rfl (Or.inl rfl) rfl (Nat.le_of_ble_eq_true rfl) ((t_M_checkBy (T := T) (xs := xs)  Hb3).mono (jKle 1 hd)) rfl ?_
    refine jEv.blk [(.istore 4, 2, []), (.iinc 5 1, 3, [])] (by decide +kernel) (pc' := 30) (ls' := [(3, 0), (0, v1), (0, v2), (0, v3), (0, b3), (0, (wr (v5 + 1)))]) (st' := []) rfl ?_
    refine jEv.goto (t := 7) (show jfI 243 30 (.goto (-23)) 3 [] = true by decide +kernel) rfl ?_
    exact (by cases H; exact HY)
  · refine jmapr H HY (fun out H (HY : ykIp T h y out) => ?_)
    refine jEv.blk [(.iload_n 3, 1, []), (.iconst 4, 1, [])] (by decide +kernel) (pc' := 35) (ls' := [(3, 0), (0, v1), (0, v2), (0, v3), (0, v4), (0, v5)]) (st' := [(0, 4), (0, v3)]) rfl ?_
    refine jEv.ic_ne (t := 43) (show jfI 243 35 (.if_icmp .ne 8) 3 [] = true by decide +kernel) rfl H (fun c4 H => ?_) (fun c4 H => ?_)
    · refine jEv.blk [(.iload 4, 2, [])] (by decide +kernel) (pc' := 40) (ls' := [(3, 0), (0, v1), (0, v2), (0, v3), (0, v4), (0, v5)]) (st' := [(0, v4)]) rfl ?_
      refine jEv.goto (t := 49) (show jfI 243 40 (.goto 9) 3 [] = true by decide +kernel) rfl ?_
      exact jEv.retI (show jfI 243 49 (.ireturn) 1 [] = true by decide +kernel) (by decide +kernel) (by cases H; exact HY)
    · refine jEv.blk [(.iload_n 1, 1, []), (.iload_n 2, 1, []), (.iload_n 3, 1, [])] (by decide +kernel) (pc' := 46) (ls' := [(3, 0), (0, v1), (0, v2), (0, v3), (0, v4), (0, v5)]) (st' := [(0, v3), (0, v2), (0, v1)]) rfl ?_
      refine jbind H (fun b5 Hb5 H => ?_)
      refine jEv.calS (st' := [(0, b5)]) (show jfI 243 46 (.invokestatic 380) 3 [3, 244, 3, 9058] = true by decide +kernel) rfl (Or.inl rfl) rfl (Nat.le_of_ble_eq_true rfl) ((t_M_headByteAt (T := T) (xs := xs)  Hb5).mono (jKle 1 hd)) rfl ?_
      exact jEv.retI (show jfI 243 49 (.ireturn) 1 [] = true by decide +kernel) (by decide +kernel) (by cases H; exact HY)
theorem t_M_headByte_L7 {T : jT} {xs : List Int} {d : Nat} {y : jV × jS} (hd : 1 ≤ d) {h : jH}  {v1 : Int} {v2 : Int} {v3 : Int} {v4 : Int} {v5 : Int} {out : Int}  (H : M_headByte_L7 v1 v2 v3 v4 v5 = some out) (HY : ykIp T h y out) : jEv xs d (243, 7, [(3, 0), (0, v1), (0, v2), (0, v3), (0, v4), (0, v5)], []) (T, h) y :=
  jloop_sound (G := fun s : (Int × Int) => jEv xs d (243, 7, [(3, 0), (0, v1), (0, v2), (0, v3), (0, s.1), (0, s.2)], []) (T, h) y) (K := yk_M_headByte_L7 T xs d y h v1 v2 v3) (fun s out H HY => t_M_headByte_B7 hd  H HY) (fun s' hg => hg) (s := (v4, v5)) H HY
set_option maxRecDepth 20000 in
noncomputable def M_headByte  (o0 : Nat) (v1 : Int) (v2 : Int) (v3 : Int) : Option Int := M_headByte_L7 v1 v2 v3 7 0
set_option maxRecDepth 20000 in
theorem t_M_headByte {T : jT} {xs : List Int} {h : jH}  {o0 : Nat} {v1 : Int} {v2 : Int} {v3 : Int} {out : Int} (ho0 : isX12 T o0) (H : M_headByte o0 v1 v2 v3 = some out) : jEm xs 2 243 [(2, Int.ofNat o0), (0, v1), (0, v2), (0, v3)] (T, h) ((0, out), (T, h)) := by
  have hd : 1 ≤ 1 := Nat.le_refl _
  obtain ⟨y, ey⟩ : ∃ y : jV × jS, y = ((0, out), (T, h)) := ⟨_, rfl⟩
  rw [← ey]
  have HY : ykIp T h y out := ey
  refine jEm.ent (n := 6) (by decide +kernel) (Nat.le_of_ble_eq_true rfl) ?_
  show jEv xs 1 (243, 0, [(2, Int.ofNat o0), (0, v1), (0, v2), (0, v3), (3, 0), (3, 0)], []) (T, h) y
  unfold M_headByte at H
  refine jEv.blk [(.bipush 7, 2, []), (.istore 4, 2, []), (.iconst 0, 1, []), (.istore 5, 2, [])] (by decide +kernel) (pc' := 7) (ls' := [(2, Int.ofNat o0), (0, v1), (0, v2), (0, v3), (0, 7), (0, 0)]) (st' := []) rfl ?_
  exact jEv.weak (a := [(3, 0), (0, v1), (0, v2), (0, v3), (0, 7), (0, 0)]) (jles.c0 (jles.c1 (jles.c1 (jles.c1 (jles.c1 (jles.c1 jles.nl)))))) (t_M_headByte_L7 (T := T) (xs := xs) (y := y) hd H HY)
set_option maxRecDepth 20000 in
noncomputable def M_lands  (h : jH) (o0 : Nat) (v1 : Int) (v2 : Int) : Option jH := (if (0 : Int) ≤ (wr (708 + v1)) ∧ ((wr (708 + v1)) : Int).toNat < 2365 then (if (0 : Int) ≤ (wr (196 + v1)) ∧ ((wr (196 + v1)) : Int).toNat < 2365 then some (jup (jup h (o0 + 33) ((wr (708 + v1)) : Int).toNat v2) (o0 + 33) ((wr (196 + v1)) : Int).toNat 0) else none) else none)
set_option maxRecDepth 20000 in
theorem t_M_lands {T : jT} {xs : List Int} {h : jH}  {o0 : Nat} {v1 : Int} {v2 : Int} {out : jH} (ho0 : isX12 T o0) (H : M_lands h o0 v1 v2 = some out) : jEm xs 1 246 [(2, Int.ofNat o0), (0, v1), (0, v2)] (T, h) ((3, 0), (T, out)) := by
  have hd : 0 ≤ 0 := Nat.le_refl _
  obtain ⟨y, ey⟩ : ∃ y : jV × jS, y = ((3, 0), (T, out)) := ⟨_, rfl⟩
  rw [← ey]
  have HY : ykV T y out := ey
  refine jEm.ent (n := 3) (by decide +kernel) (Nat.le_of_ble_eq_true rfl) ?_
  show jEv xs 0 (246, 0, [(2, Int.ofNat o0), (0, v1), (0, v2)], []) (T, h) y
  unfold M_lands at H
  refine jEv.blk [(.aload_n 0, 1, [])] (by decide +kernel) (pc' := 1) (ls' := [(2, Int.ofNat o0), (0, v1), (0, v2)]) (st' := [(2, Int.ofNat o0)]) rfl ?_
  refine jEv.gfR (o' := (o0 + 33)) (show jfI 246 1 (.getfield 111) 3 [12, 45, 5, 0, 7081] = true by decide +kernel) (isX12_L ho0) (by decide) (isX12_r45 ho0) ?_
  refine jEv.blk [(.sipush 708, 3, []), (.iload_n 1, 1, []), (.iadd, 1, []), (.iload_n 2, 1, [])] (by decide +kernel) (pc' := 10) (ls' := [(2, Int.ofNat o0), (0, v1), (0, v2)]) (st' := [(0, v2), (0, (wr (708 + v1))), (2, Int.ofNat (o0 + 33))]) rfl ?_
  refine jEv.ast (Or.inl ⟨rfl, rfl, rfl⟩) (show jfI 246 10 (.iastore) 1 [] = true by decide +kernel) (isX12_a45 ho0) rfl H (fun c1 H => ?_)
  refine jEv.blk [(.aload_n 0, 1, [])] (by decide +kernel) (pc' := 12) (ls' := [(2, Int.ofNat o0), (0, v1), (0, v2)]) (st' := [(2, Int.ofNat o0)]) rfl ?_
  refine jEv.gfR (o' := (o0 + 33)) (show jfI 246 12 (.getfield 111) 3 [12, 45, 5, 0, 7081] = true by decide +kernel) (isX12_L ho0) (by decide) (isX12_r45 ho0) ?_
  refine jEv.blk [(.sipush 196, 3, []), (.iload_n 1, 1, []), (.iadd, 1, []), (.iconst 0, 1, [])] (by decide +kernel) (pc' := 21) (ls' := [(2, Int.ofNat o0), (0, v1), (0, v2)]) (st' := [(0, 0), (0, (wr (196 + v1))), (2, Int.ofNat (o0 + 33))]) rfl ?_
  refine jEv.ast (Or.inl ⟨rfl, rfl, rfl⟩) (show jfI 246 21 (.iastore) 1 [] = true by decide +kernel) (isX12_a45 ho0) rfl H (fun c2 H => ?_)
  exact jEv.retV (show jfI 246 22 (.return_) 1 [] = true by decide +kernel) (by decide +kernel) (by cases H; exact HY)
def yk_M_opensOnDisk_L7 (T : jT) (xs : List Int) (d : Nat) (y : jV × jS)  (o0 : Nat) (v1 : Int) (v2 : Int) : ((Int × jH) ⊕ jH) → Prop
  | .inl (v3, h) => jEv xs d (241, 7, [(2, Int.ofNat o0), (0, v1), (0, v2), (0, v3)], []) (T, h) y
  | .inr o => ykV T y o
set_option maxRecDepth 20000 in
noncomputable def M_opensOnDisk_B7  (h : jH) (o0 : Nat) (v1 : Int) (v2 : Int) (v3 : Int) : Option ((Int × jH) ⊕ jH) := (if v3 < 5 then (if (0 : Int) ≤ 7 ∧ (7 : Int).toNat < 2365 then Option.bind (M_headByte o0 (h (o0 + 33) (7 : Int).toNat) v2 v3) (fun b4 => Option.bind (M_lands h o0 (wr ((wr (128 * v1)) + v3)) b4) (fun b5 => some (.inl ((wr (v3 + 1)), b5)))) else none) else Option.map Sum.inr ((if (0 : Int) ≤ 6 ∧ (6 : Int).toNat < 2365 then some (jup h (o0 + 33) (6 : Int).toNat 5) else none)))
noncomputable def M_opensOnDisk_L7  (h : jH) (o0 : Nat) (v1 : Int) (v2 : Int) (v3 : Int) : Option jH := jloop (fun s : (Int × jH) => M_opensOnDisk_B7 s.2 o0 v1 v2 s.1) (v3, h)
set_option maxRecDepth 20000 in
theorem t_M_opensOnDisk_B7 {T : jT} {xs : List Int} {d : Nat} {y : jV × jS} (hd : 2 ≤ d) {h : jH}  {o0 : Nat} {v1 : Int} {v2 : Int} {v3 : Int} {out : ((Int × jH) ⊕ jH)} (ho0 : isX12 T o0) (H : M_opensOnDisk_B7 h o0 v1 v2 v3 = some out) (HY : yk_M_opensOnDisk_L7 T xs d y o0 v1 v2 out) : jEv xs d (241, 7, [(2, Int.ofNat o0), (0, v1), (0, v2), (0, v3)], []) (T, h) y := by
  unfold M_opensOnDisk_B7 at H
  refine jEv.blk [(.iload_n 3, 1, []), (.iconst 5, 1, [])] (by decide +kernel) (pc' := 9) (ls' := [(2, Int.ofNat o0), (0, v1), (0, v2), (0, v3)]) (st' := [(0, 5), (0, v3)]) rfl ?_
  refine jEv.ic_ge (t := 42) (show jfI 241 9 (.if_icmp .ge 33) 3 [] = true by decide +kernel) rfl H (fun c2 H => ?_) (fun c2 H => ?_)
  · refine jEv.blk [(.aload_n 0, 1, []), (.sipush 128, 3, []), (.iload_n 1, 1, []), (.imul, 1, []), (.iload_n 3, 1, []), (.iadd, 1, []), (.aload_n 0, 1, []), (.aload_n 0, 1, [])] (by decide +kernel) (pc' := 22) (ls' := [(2, Int.ofNat o0), (0, v1), (0, v2), (0, v3)]) (st' := [(2, Int.ofNat o0), (2, Int.ofNat o0), (0, (wr ((wr (128 * v1)) + v3))), (2, Int.ofNat o0)]) rfl ?_
    refine jEv.gfR (o' := (o0 + 33)) (show jfI 241 22 (.getfield 111) 3 [12, 45, 5, 0, 7081] = true by decide +kernel) (isX12_L ho0) (by decide) (isX12_r45 ho0) ?_
    refine jEv.blk [(.bipush 7, 2, [])] (by decide +kernel) (pc' := 27) (ls' := [(2, Int.ofNat o0), (0, v1), (0, v2), (0, v3)]) (st' := [(0, 7), (2, Int.ofNat (o0 + 33)), (2, Int.ofNat o0), (0, (wr ((wr (128 * v1)) + v3))), (2, Int.ofNat o0)]) rfl ?_
    refine jEv.ald (Or.inl ⟨rfl, rfl, rfl⟩) (show jfI 241 27 (.iaload) 1 [] = true by decide +kernel) (isX12_a45 ho0) H (fun c3 H => ?_)
    refine jEv.blk [(.iload_n 2, 1, []), (.iload_n 3, 1, [])] (by decide +kernel) (pc' := 30) (ls' := [(2, Int.ofNat o0), (0, v1), (0, v2), (0, v3)]) (st' := [(0, v3), (0, v2), (0, (h (o0 + 33) (7 : Int).toNat)), (2, Int.ofNat o0), (0, (wr ((wr (128 * v1)) + v3))), (2, Int.ofNat o0)]) rfl ?_
    refine jbind H (fun b4 Hb4 H => ?_)
    refine jEv.calV (st' := [(0, b4), (0, (wr ((wr (128 * v1)) + v3))), (2, Int.ofNat o0)]) (show jfI 241 30 (.invokevirtual 390) 3 [1, 243, 3, 9054] = true by decide +kernel) rfl (Or.inl rfl) rfl (Nat.le_of_ble_eq_true rfl) (by decide +kernel) (by decide) (isX12_L ho0) ((t_M_headByte (T := T) (xs := xs) ho0 Hb4).mono (jKle 2 hd)) rfl ?_
    refine jbind H (fun b5 Hb5 H => ?_)
    refine jEv.calV (st' := []) (show jfI 241 33 (.invokevirtual 393) 3 [1, 246, 2, 9064] = true by decide +kernel) rfl (Or.inl rfl) rfl (Nat.le_of_ble_eq_true rfl) (by decide +kernel) (by decide) (isX12_L ho0) ((t_M_lands (T := T) (xs := xs) ho0 Hb5).mono (jKle 1 hd)) rfl ?_
    refine jEv.blk [(.iinc 3 1, 3, [])] (by decide +kernel) (pc' := 39) (ls' := [(2, Int.ofNat o0), (0, v1), (0, v2), (0, (wr (v3 + 1)))]) (st' := []) rfl ?_
    refine jEv.goto (t := 7) (show jfI 241 39 (.goto (-32)) 3 [] = true by decide +kernel) rfl ?_
    exact (by cases H; exact HY)
  · refine jmapr H HY (fun out H (HY : ykV T y out) => ?_)
    refine jEv.blk [(.aload_n 0, 1, [])] (by decide +kernel) (pc' := 43) (ls' := [(2, Int.ofNat o0), (0, v1), (0, v2), (0, v3)]) (st' := [(2, Int.ofNat o0)]) rfl ?_
    refine jEv.gfR (o' := (o0 + 33)) (show jfI 241 43 (.getfield 111) 3 [12, 45, 5, 0, 7081] = true by decide +kernel) (isX12_L ho0) (by decide) (isX12_r45 ho0) ?_
    refine jEv.blk [(.bipush 6, 2, []), (.iconst 5, 1, [])] (by decide +kernel) (pc' := 49) (ls' := [(2, Int.ofNat o0), (0, v1), (0, v2), (0, v3)]) (st' := [(0, 5), (0, 6), (2, Int.ofNat (o0 + 33))]) rfl ?_
    refine jEv.ast (Or.inl ⟨rfl, rfl, rfl⟩) (show jfI 241 49 (.iastore) 1 [] = true by decide +kernel) (isX12_a45 ho0) rfl H (fun c6 H => ?_)
    exact jEv.retV (show jfI 241 50 (.return_) 1 [] = true by decide +kernel) (by decide +kernel) (by cases H; exact HY)
theorem t_M_opensOnDisk_L7 {T : jT} {xs : List Int} {d : Nat} {y : jV × jS} (hd : 2 ≤ d) {h : jH}  {o0 : Nat} {v1 : Int} {v2 : Int} {v3 : Int} {out : jH} (ho0 : isX12 T o0) (H : M_opensOnDisk_L7 h o0 v1 v2 v3 = some out) (HY : ykV T y out) : jEv xs d (241, 7, [(2, Int.ofNat o0), (0, v1), (0, v2), (0, v3)], []) (T, h) y :=
  jloop_sound (G := fun s : (Int × jH) => jEv xs d (241, 7, [(2, Int.ofNat o0), (0, v1), (0, v2), (0, s.1)], []) (T, s.2) y) (K := yk_M_opensOnDisk_L7 T xs d y o0 v1 v2) (fun s out H HY => t_M_opensOnDisk_B7 hd ho0 H HY) (fun s' hg => hg) (s := (v3, h)) H HY
set_option maxRecDepth 20000 in
noncomputable def M_opensOnDisk  (h : jH) (o0 : Nat) (v1 : Int) (v2 : Int) : Option jH := Option.bind (M_opens h o0 v1) (fun b1 => M_opensOnDisk_L7 b1 o0 v1 v2 0)
set_option maxRecDepth 20000 in
theorem t_M_opensOnDisk {T : jT} {xs : List Int} {h : jH}  {o0 : Nat} {v1 : Int} {v2 : Int} {out : jH} (ho0 : isX12 T o0) (H : M_opensOnDisk h o0 v1 v2 = some out) : jEm xs 3 241 [(2, Int.ofNat o0), (0, v1), (0, v2)] (T, h) ((3, 0), (T, out)) := by
  have hd : 2 ≤ 2 := Nat.le_refl _
  obtain ⟨y, ey⟩ : ∃ y : jV × jS, y = ((3, 0), (T, out)) := ⟨_, rfl⟩
  rw [← ey]
  have HY : ykV T y out := ey
  refine jEm.ent (n := 4) (by decide +kernel) (Nat.le_of_ble_eq_true rfl) ?_
  show jEv xs 2 (241, 0, [(2, Int.ofNat o0), (0, v1), (0, v2), (3, 0)], []) (T, h) y
  unfold M_opensOnDisk at H
  refine jEv.blk [(.aload_n 0, 1, []), (.iload_n 1, 1, [])] (by decide +kernel) (pc' := 2) (ls' := [(2, Int.ofNat o0), (0, v1), (0, v2), (3, 0)]) (st' := [(0, v1), (2, Int.ofNat o0)]) rfl ?_
  refine jbind H (fun b1 Hb1 H => ?_)
  refine jEv.calV (st' := []) (show jfI 241 2 (.invokevirtual 387) 3 [1, 242, 1, 9050] = true by decide +kernel) rfl (Or.inl rfl) rfl (Nat.le_of_ble_eq_true rfl) (by decide +kernel) (by decide) (isX12_L ho0) ((t_M_opens (T := T) (xs := xs) ho0 Hb1).mono (jKle 1 hd)) rfl ?_
  refine jEv.blk [(.iconst 0, 1, []), (.istore_n 3, 1, [])] (by decide +kernel) (pc' := 7) (ls' := [(2, Int.ofNat o0), (0, v1), (0, v2), (0, 0)]) (st' := []) rfl ?_
  exact t_M_opensOnDisk_L7 (T := T) (xs := xs) (y := y) hd ho0 H HY
set_option maxRecDepth 20000 in
noncomputable def M_length  (h : jH) (o0 : Nat) : Option Int := (if (0 : Int) ≤ 6 ∧ (6 : Int).toNat < 10 then (if (0 : Int) ≤ 7 ∧ (7 : Int).toNat < 10 then some (wr ((h (o0 + 28) (6 : Int).toNat) * (h (o0 + 28) (7 : Int).toNat))) else none) else none)
set_option maxRecDepth 20000 in
theorem t_M_length {T : jT} {xs : List Int} {h : jH}  {o0 : Nat} {out : Int} (ho0 : isX12 T o0) (H : M_length h o0 = some out) : jEm xs 1 249 [(2, Int.ofNat o0)] (T, h) ((0, out), (T, h)) := by
  have hd : 0 ≤ 0 := Nat.le_refl _
  obtain ⟨y, ey⟩ : ∃ y : jV × jS, y = ((0, out), (T, h)) := ⟨_, rfl⟩
  rw [← ey]
  have HY : ykIp T h y out := ey
  refine jEm.ent (n := 1) (by decide +kernel) (Nat.le_of_ble_eq_true rfl) ?_
  show jEv xs 0 (249, 0, [(2, Int.ofNat o0)], []) (T, h) y
  unfold M_length at H
  refine jEv.blk [(.aload_n 0, 1, [])] (by decide +kernel) (pc' := 1) (ls' := [(2, Int.ofNat o0)]) (st' := [(2, Int.ofNat o0)]) rfl ?_
  refine jEv.gfR (o' := (o0 + 28)) (show jfI 249 1 (.getfield 96) 3 [12, 36, 5, 0, 7072] = true by decide +kernel) (isX12_L ho0) (by decide) (isX12_r36 ho0) ?_
  refine jEv.blk [(.bipush 6, 2, [])] (by decide +kernel) (pc' := 6) (ls' := [(2, Int.ofNat o0)]) (st' := [(0, 6), (2, Int.ofNat (o0 + 28))]) rfl ?_
  refine jEv.ald (Or.inl ⟨rfl, rfl, rfl⟩) (show jfI 249 6 (.iaload) 1 [] = true by decide +kernel) (isX12_a36 ho0) H (fun c1 H => ?_)
  refine jEv.blk [(.aload_n 0, 1, [])] (by decide +kernel) (pc' := 8) (ls' := [(2, Int.ofNat o0)]) (st' := [(2, Int.ofNat o0), (0, (h (o0 + 28) (6 : Int).toNat))]) rfl ?_
  refine jEv.gfR (o' := (o0 + 28)) (show jfI 249 8 (.getfield 96) 3 [12, 36, 5, 0, 7072] = true by decide +kernel) (isX12_L ho0) (by decide) (isX12_r36 ho0) ?_
  refine jEv.blk [(.bipush 7, 2, [])] (by decide +kernel) (pc' := 13) (ls' := [(2, Int.ofNat o0)]) (st' := [(0, 7), (2, Int.ofNat (o0 + 28)), (0, (h (o0 + 28) (6 : Int).toNat))]) rfl ?_
  refine jEv.ald (Or.inl ⟨rfl, rfl, rfl⟩) (show jfI 249 13 (.iaload) 1 [] = true by decide +kernel) (isX12_a36 ho0) H (fun c2 H => ?_)
  refine jEv.blk [(.imul, 1, [])] (by decide +kernel) (pc' := 15) (ls' := [(2, Int.ofNat o0)]) (st' := [(0, (wr ((h (o0 + 28) (6 : Int).toNat) * (h (o0 + 28) (7 : Int).toNat))))]) rfl ?_
  exact jEv.retI (show jfI 249 15 (.ireturn) 1 [] = true by decide +kernel) (by decide +kernel) (by cases H; exact HY)
set_option maxRecDepth 20000 in
noncomputable def M_blockBytes  (h : jH) (o0 : Nat) : Option Int := (if (0 : Int) ≤ 7 ∧ (7 : Int).toNat < 10 then some (h (o0 + 28) (7 : Int).toNat) else none)
set_option maxRecDepth 20000 in
theorem t_M_blockBytes {T : jT} {xs : List Int} {h : jH}  {o0 : Nat} {out : Int} (ho0 : isX12 T o0) (H : M_blockBytes h o0 = some out) : jEm xs 1 250 [(2, Int.ofNat o0)] (T, h) ((0, out), (T, h)) := by
  have hd : 0 ≤ 0 := Nat.le_refl _
  obtain ⟨y, ey⟩ : ∃ y : jV × jS, y = ((0, out), (T, h)) := ⟨_, rfl⟩
  rw [← ey]
  have HY : ykIp T h y out := ey
  refine jEm.ent (n := 1) (by decide +kernel) (Nat.le_of_ble_eq_true rfl) ?_
  show jEv xs 0 (250, 0, [(2, Int.ofNat o0)], []) (T, h) y
  unfold M_blockBytes at H
  refine jEv.blk [(.aload_n 0, 1, [])] (by decide +kernel) (pc' := 1) (ls' := [(2, Int.ofNat o0)]) (st' := [(2, Int.ofNat o0)]) rfl ?_
  refine jEv.gfR (o' := (o0 + 28)) (show jfI 250 1 (.getfield 96) 3 [12, 36, 5, 0, 7072] = true by decide +kernel) (isX12_L ho0) (by decide) (isX12_r36 ho0) ?_
  refine jEv.blk [(.bipush 7, 2, [])] (by decide +kernel) (pc' := 6) (ls' := [(2, Int.ofNat o0)]) (st' := [(0, 7), (2, Int.ofNat (o0 + 28))]) rfl ?_
  refine jEv.ald (Or.inl ⟨rfl, rfl, rfl⟩) (show jfI 250 6 (.iaload) 1 [] = true by decide +kernel) (isX12_a36 ho0) H (fun c1 H => ?_)
  exact jEv.retI (show jfI 250 7 (.ireturn) 1 [] = true by decide +kernel) (by decide +kernel) (by cases H; exact HY)
def yk_M_hasRoom_L5 (T : jT) (xs : List Int) (d : Nat) (y : jV × jS) (h : jH)  (o0 : Nat) : ((Int × Int) ⊕ Int) → Prop
  | .inl (v3, v4) => jEv xs d (248, 5, [(2, Int.ofNat o0), (3, 0), (3, 0), (0, v3), (0, v4), (3, 0), (3, 0)], []) (T, h) y
  | .inr o => ykIp T h y o
set_option maxRecDepth 20000 in
noncomputable def M_hasRoom_p64  (h : jH) (o0 : Nat) (v3 : Int) (v4 : Int) (vs0 : Int) : Option ((Int × Int) ⊕ Int) := some (.inl ((wr (v3 - vs0)), (wr (v4 + (wr (4 + vs0))))))
set_option maxRecDepth 20000 in
theorem t_M_hasRoom_p64 {T : jT} {xs : List Int} {d : Nat} {y : jV × jS} (hd : 1 ≤ d) {h : jH}  {o0 : Nat} {v3 : Int} {v4 : Int} {vs0 : Int} {out : ((Int × Int) ⊕ Int)} (ho0 : isX12 T o0) (H : M_hasRoom_p64 h o0 v3 v4 vs0 = some out) (HY : yk_M_hasRoom_L5 T xs d y h o0 out) : jEv xs d (248, 64, [(2, Int.ofNat o0), (3, 0), (3, 0), (0, v3), (0, v4), (3, 0), (3, 0)], [(0, vs0)]) (T, h) y := by
  unfold M_hasRoom_p64 at H
  refine jEv.blk [(.istore 6, 2, []), (.iload 4, 2, []), (.iconst 4, 1, []), (.iload 6, 2, []), (.iadd, 1, []), (.iadd, 1, []), (.istore 4, 2, []), (.iload_n 3, 1, []), (.iload 6, 2, []), (.isub, 1, []), (.istore_n 3, 1, [])] (by decide +kernel) (pc' := 80) (ls' := [(2, Int.ofNat o0), (3, 0), (3, 0), (0, (wr (v3 - vs0))), (0, (wr (v4 + (wr (4 + vs0))))), (3, 0), (0, vs0)]) (st' := []) rfl ?_
  refine jEv.goto (t := 5) (show jfI 248 80 (.goto (-75)) 3 [] = true by decide +kernel) rfl ?_
  exact jEv.weak (a := [(2, Int.ofNat o0), (3, 0), (3, 0), (0, (wr (v3 - vs0))), (0, (wr (v4 + (wr (4 + vs0))))), (3, 0), (3, 0)]) (jles.c1 (jles.c0 (jles.c0 (jles.c1 (jles.c1 (jles.c0 (jles.c0 jles.nl))))))) ((by cases H; exact HY))
set_option maxRecDepth 20000 in
noncomputable def M_hasRoom_p83  (h : jH) (v3 : Int) : Option Int := (if v3 = 0 then some 1 else some 0)
set_option maxRecDepth 20000 in
theorem t_M_hasRoom_p83 {T : jT} {xs : List Int} {d : Nat} {y : jV × jS} (hd : 1 ≤ d) {h : jH}  {v3 : Int} {out : Int}  (H : M_hasRoom_p83 h v3 = some out) (HY : ykIp T h y out) : jEv xs d (248, 83, [(3, 0), (3, 0), (3, 0), (0, v3), (3, 0), (3, 0), (3, 0)], []) (T, h) y := by
  unfold M_hasRoom_p83 at H
  refine jEv.blk [(.iload_n 3, 1, [])] (by decide +kernel) (pc' := 84) (ls' := [(3, 0), (3, 0), (3, 0), (0, v3), (3, 0), (3, 0), (3, 0)]) (st' := [(0, v3)]) rfl ?_
  refine jEv.if_ne (t := 91) (show jfI 248 84 (.ifCond .ne 7) 3 [] = true by decide +kernel) rfl H (fun c9 H => ?_) (fun c9 H => ?_)
  · refine jEv.blk [(.iconst 1, 1, [])] (by decide +kernel) (pc' := 88) (ls' := [(3, 0), (3, 0), (3, 0), (0, v3), (3, 0), (3, 0), (3, 0)]) (st' := [(0, 1)]) rfl ?_
    refine jEv.goto (t := 92) (show jfI 248 88 (.goto 4) 3 [] = true by decide +kernel) rfl ?_
    exact jEv.retZ (show jfI 248 92 (.ireturn) 1 [] = true by decide +kernel) (by decide +kernel) (by decide) (by cases H; exact HY)
  · refine jEv.blk [(.iconst 0, 1, [])] (by decide +kernel) (pc' := 92) (ls' := [(3, 0), (3, 0), (3, 0), (0, v3), (3, 0), (3, 0), (3, 0)]) (st' := [(0, 0)]) rfl ?_
    exact jEv.retZ (show jfI 248 92 (.ireturn) 1 [] = true by decide +kernel) (by decide +kernel) (by decide) (by cases H; exact HY)
set_option maxRecDepth 20000 in
noncomputable def M_hasRoom_B5  (h : jH) (o0 : Nat) (v3 : Int) (v4 : Int) : Option ((Int × Int) ⊕ Int) := (if 0 < v3 then Option.bind (M_length h o0) (fun b2 => (if v4 < b2 then Option.bind (M_blockBytes h o0) (fun b4 => Option.bind (M_blockBytes h o0) (fun b5 => (if b5 ≠ 0 then (if 4 < (wr (b4 - (Int.tmod v4 b5))) then (if v3 < (wr ((wr (b4 - (Int.tmod v4 b5))) - 4)) then M_hasRoom_p64 h o0 v3 v4 v3 else M_hasRoom_p64 h o0 v3 v4 (wr ((wr (b4 - (Int.tmod v4 b5))) - 4))) else some (.inl (v3, (wr (v4 + (wr (b4 - (Int.tmod v4 b5)))))))) else none))) else Option.map Sum.inr (M_hasRoom_p83 h v3))) else Option.map Sum.inr (M_hasRoom_p83 h v3))
noncomputable def M_hasRoom_L5  (h : jH) (o0 : Nat) (v3 : Int) (v4 : Int) : Option Int := jloop (fun s : (Int × Int) => M_hasRoom_B5 h o0 s.1 s.2) (v3, v4)
set_option maxRecDepth 20000 in
theorem t_M_hasRoom_B5 {T : jT} {xs : List Int} {d : Nat} {y : jV × jS} (hd : 1 ≤ d) {h : jH}  {o0 : Nat} {v3 : Int} {v4 : Int} {out : ((Int × Int) ⊕ Int)} (ho0 : isX12 T o0) (H : M_hasRoom_B5 h o0 v3 v4 = some out) (HY : yk_M_hasRoom_L5 T xs d y h o0 out) : jEv xs d (248, 5, [(2, Int.ofNat o0), (3, 0), (3, 0), (0, v3), (0, v4), (3, 0), (3, 0)], []) (T, h) y := by
  unfold M_hasRoom_B5 at H
  refine jEv.blk [(.iload_n 3, 1, [])] (by decide +kernel) (pc' := 6) (ls' := [(2, Int.ofNat o0), (3, 0), (3, 0), (0, v3), (0, v4), (3, 0), (3, 0)]) (st' := [(0, v3)]) rfl ?_
  refine jEv.if_le (t := 83) (show jfI 248 6 (.ifCond .le 77) 3 [] = true by decide +kernel) rfl H (fun c1 H => ?_) (fun c1 H => ?_)
  · refine jEv.blk [(.iload 4, 2, []), (.aload_n 0, 1, [])] (by decide +kernel) (pc' := 12) (ls' := [(2, Int.ofNat o0), (3, 0), (3, 0), (0, v3), (0, v4), (3, 0), (3, 0)]) (st' := [(2, Int.ofNat o0), (0, v4)]) rfl ?_
    refine jbind H (fun b2 Hb2 H => ?_)
    refine jEv.calV (st' := [(0, b2), (0, v4)]) (show jfI 248 12 (.invokevirtual 402) 3 [1, 249, 0, 9076] = true by decide +kernel) rfl (Or.inl rfl) rfl (Nat.le_of_ble_eq_true rfl) (by decide +kernel) (by decide) (isX12_L ho0) ((t_M_length (T := T) (xs := xs) ho0 Hb2).mono (jKle 1 hd)) rfl ?_
    refine jEv.ic_ge (t := 83) (show jfI 248 15 (.if_icmp .ge 68) 3 [] = true by decide +kernel) rfl H (fun c3 H => ?_) (fun c3 H => ?_)
    · refine jEv.blk [(.aload_n 0, 1, [])] (by decide +kernel) (pc' := 19) (ls' := [(2, Int.ofNat o0), (3, 0), (3, 0), (0, v3), (0, v4), (3, 0), (3, 0)]) (st' := [(2, Int.ofNat o0)]) rfl ?_
      refine jbind H (fun b4 Hb4 H => ?_)
      refine jEv.calV (st' := [(0, b4)]) (show jfI 248 19 (.invokevirtual 405) 3 [1, 250, 0, 9080] = true by decide +kernel) rfl (Or.inl rfl) rfl (Nat.le_of_ble_eq_true rfl) (by decide +kernel) (by decide) (isX12_L ho0) ((t_M_blockBytes (T := T) (xs := xs) ho0 Hb4).mono (jKle 1 hd)) rfl ?_
      refine jEv.blk [(.iload 4, 2, []), (.aload_n 0, 1, [])] (by decide +kernel) (pc' := 25) (ls' := [(2, Int.ofNat o0), (3, 0), (3, 0), (0, v3), (0, v4), (3, 0), (3, 0)]) (st' := [(2, Int.ofNat o0), (0, v4), (0, b4)]) rfl ?_
      refine jbind H (fun b5 Hb5 H => ?_)
      refine jEv.calV (st' := [(0, b5), (0, v4), (0, b4)]) (show jfI 248 25 (.invokevirtual 405) 3 [1, 250, 0, 9080] = true by decide +kernel) rfl (Or.inl rfl) rfl (Nat.le_of_ble_eq_true rfl) (by decide +kernel) (by decide) (isX12_L ho0) ((t_M_blockBytes (T := T) (xs := xs) ho0 Hb5).mono (jKle 1 hd)) rfl ?_
      refine jchk H (fun c6 H => ?_)
      refine jEv.irem (show jfI 248 28 (.irem) 1 [] = true by decide +kernel) c6 ?_
      refine jEv.blk [(.isub, 1, []), (.istore 5, 2, []), (.iload 5, 2, []), (.iconst 4, 1, [])] (by decide +kernel) (pc' := 35) (ls' := [(2, Int.ofNat o0), (3, 0), (3, 0), (0, v3), (0, v4), (0, (wr (b4 - (Int.tmod v4 b5)))), (3, 0)]) (st' := [(0, 4), (0, (wr (b4 - (Int.tmod v4 b5))))]) rfl ?_
      refine jEv.ic_gt (t := 48) (show jfI 248 35 (.if_icmp .gt 13) 3 [] = true by decide +kernel) rfl H (fun c7 H => ?_) (fun c7 H => ?_)
      · refine jEv.blk [(.iload_n 3, 1, []), (.iload 5, 2, []), (.iconst 4, 1, []), (.isub, 1, [])] (by decide +kernel) (pc' := 53) (ls' := [(2, Int.ofNat o0), (3, 0), (3, 0), (0, v3), (0, v4), (0, (wr (b4 - (Int.tmod v4 b5)))), (3, 0)]) (st' := [(0, (wr ((wr (b4 - (Int.tmod v4 b5))) - 4))), (0, v3)]) rfl ?_
        refine jEv.ic_ge (t := 60) (show jfI 248 53 (.if_icmp .ge 7) 3 [] = true by decide +kernel) rfl H (fun c8 H => ?_) (fun c8 H => ?_)
        · refine jEv.blk [(.iload_n 3, 1, [])] (by decide +kernel) (pc' := 57) (ls' := [(2, Int.ofNat o0), (3, 0), (3, 0), (0, v3), (0, v4), (0, (wr (b4 - (Int.tmod v4 b5)))), (3, 0)]) (st' := [(0, v3)]) rfl ?_
          refine jEv.goto (t := 64) (show jfI 248 57 (.goto 7) 3 [] = true by decide +kernel) rfl ?_
          exact jEv.weak (a := [(2, Int.ofNat o0), (3, 0), (3, 0), (0, v3), (0, v4), (3, 0), (3, 0)]) (jles.c1 (jles.c0 (jles.c0 (jles.c1 (jles.c1 (jles.c0 (jles.c0 jles.nl))))))) (t_M_hasRoom_p64 (T := T) (xs := xs) (y := y) hd ho0 H HY)
        · refine jEv.blk [(.iload 5, 2, []), (.iconst 4, 1, []), (.isub, 1, [])] (by decide +kernel) (pc' := 64) (ls' := [(2, Int.ofNat o0), (3, 0), (3, 0), (0, v3), (0, v4), (0, (wr (b4 - (Int.tmod v4 b5)))), (3, 0)]) (st' := [(0, (wr ((wr (b4 - (Int.tmod v4 b5))) - 4)))]) rfl ?_
          exact jEv.weak (a := [(2, Int.ofNat o0), (3, 0), (3, 0), (0, v3), (0, v4), (3, 0), (3, 0)]) (jles.c1 (jles.c0 (jles.c0 (jles.c1 (jles.c1 (jles.c0 (jles.c0 jles.nl))))))) (t_M_hasRoom_p64 (T := T) (xs := xs) (y := y) hd ho0 H HY)
      · refine jEv.blk [(.iload 4, 2, []), (.iload 5, 2, []), (.iadd, 1, []), (.istore 4, 2, [])] (by decide +kernel) (pc' := 45) (ls' := [(2, Int.ofNat o0), (3, 0), (3, 0), (0, v3), (0, (wr (v4 + (wr (b4 - (Int.tmod v4 b5)))))), (0, (wr (b4 - (Int.tmod v4 b5)))), (3, 0)]) (st' := []) rfl ?_
        refine jEv.goto (t := 80) (show jfI 248 45 (.goto 35) 3 [] = true by decide +kernel) rfl ?_
        refine jEv.goto (t := 5) (show jfI 248 80 (.goto (-75)) 3 [] = true by decide +kernel) rfl ?_
        exact jEv.weak (a := [(2, Int.ofNat o0), (3, 0), (3, 0), (0, v3), (0, (wr (v4 + (wr (b4 - (Int.tmod v4 b5)))))), (3, 0), (3, 0)]) (jles.c1 (jles.c0 (jles.c0 (jles.c1 (jles.c1 (jles.c0 (jles.c0 jles.nl))))))) ((by cases H; exact HY))
    · refine jmapr H HY (fun out H (HY : ykIp T h y out) => ?_)
      exact jEv.weak (a := [(3, 0), (3, 0), (3, 0), (0, v3), (3, 0), (3, 0), (3, 0)]) (jles.c0 (jles.c0 (jles.c0 (jles.c1 (jles.c0 (jles.c0 (jles.c0 jles.nl))))))) (t_M_hasRoom_p83 (T := T) (xs := xs) (y := y) hd H HY)
  · refine jmapr H HY (fun out H (HY : ykIp T h y out) => ?_)
    exact jEv.weak (a := [(3, 0), (3, 0), (3, 0), (0, v3), (3, 0), (3, 0), (3, 0)]) (jles.c0 (jles.c0 (jles.c0 (jles.c1 (jles.c0 (jles.c0 (jles.c0 jles.nl))))))) (t_M_hasRoom_p83 (T := T) (xs := xs) (y := y) hd H HY)
theorem t_M_hasRoom_L5 {T : jT} {xs : List Int} {d : Nat} {y : jV × jS} (hd : 1 ≤ d) {h : jH}  {o0 : Nat} {v3 : Int} {v4 : Int} {out : Int} (ho0 : isX12 T o0) (H : M_hasRoom_L5 h o0 v3 v4 = some out) (HY : ykIp T h y out) : jEv xs d (248, 5, [(2, Int.ofNat o0), (3, 0), (3, 0), (0, v3), (0, v4), (3, 0), (3, 0)], []) (T, h) y :=
  jloop_sound (G := fun s : (Int × Int) => jEv xs d (248, 5, [(2, Int.ofNat o0), (3, 0), (3, 0), (0, s.1), (0, s.2), (3, 0), (3, 0)], []) (T, h) y) (K := yk_M_hasRoom_L5 T xs d y h o0) (fun s out H HY => t_M_hasRoom_B5 hd ho0 H HY) (fun s' hg => hg) (s := (v3, v4)) H HY
set_option maxRecDepth 20000 in
noncomputable def M_hasRoom  (h : jH) (o0 : Nat) (v1 : Int) (v2 : Int) : Option Int := M_hasRoom_L5 h o0 v2 v1
set_option maxRecDepth 20000 in
theorem t_M_hasRoom {T : jT} {xs : List Int} {h : jH}  {o0 : Nat} {v1 : Int} {v2 : Int} {out : Int} (ho0 : isX12 T o0) (H : M_hasRoom h o0 v1 v2 = some out) : jEm xs 2 248 [(2, Int.ofNat o0), (0, v1), (0, v2)] (T, h) ((0, out), (T, h)) := by
  have hd : 1 ≤ 1 := Nat.le_refl _
  obtain ⟨y, ey⟩ : ∃ y : jV × jS, y = ((0, out), (T, h)) := ⟨_, rfl⟩
  rw [← ey]
  have HY : ykIp T h y out := ey
  refine jEm.ent (n := 7) (by decide +kernel) (Nat.le_of_ble_eq_true rfl) ?_
  show jEv xs 1 (248, 0, [(2, Int.ofNat o0), (0, v1), (0, v2), (3, 0), (3, 0), (3, 0), (3, 0)], []) (T, h) y
  unfold M_hasRoom at H
  refine jEv.blk [(.iload_n 2, 1, []), (.istore_n 3, 1, []), (.iload_n 1, 1, []), (.istore 4, 2, [])] (by decide +kernel) (pc' := 5) (ls' := [(2, Int.ofNat o0), (0, v1), (0, v2), (0, v2), (0, v1), (3, 0), (3, 0)]) (st' := []) rfl ?_
  exact jEv.weak (a := [(2, Int.ofNat o0), (3, 0), (3, 0), (0, v2), (0, v1), (3, 0), (3, 0)]) (jles.c1 (jles.c0 (jles.c0 (jles.c1 (jles.c1 (jles.c0 (jles.c0 jles.nl))))))) (t_M_hasRoom_L5 (T := T) (xs := xs) (y := y) hd ho0 H HY)
set_option maxRecDepth 20000 in
noncomputable def M_canAppend_p37  (h : jH)  : Option Int := some 0
set_option maxRecDepth 20000 in
theorem t_M_canAppend_p37 {T : jT} {xs : List Int} {d : Nat} {y : jV × jS} (hd : 2 ≤ d) {h : jH}   {out : Int}  (H : M_canAppend_p37 h = some out) (HY : ykIp T h y out) : jEv xs d (247, 37, [(3, 0), (3, 0)], []) (T, h) y := by
  unfold M_canAppend_p37 at H
  refine jEv.blk [(.iconst 0, 1, [])] (by decide +kernel) (pc' := 38) (ls' := [(3, 0), (3, 0)]) (st' := [(0, 0)]) rfl ?_
  exact jEv.retZ (show jfI 247 38 (.ireturn) 1 [] = true by decide +kernel) (by decide +kernel) (by decide) (by cases H; exact HY)
set_option maxRecDepth 20000 in
noncomputable def M_canAppend  (h : jH) (o0 : Nat) (v1 : Int) : Option Int := (if (0 : Int) ≤ 11 ∧ (11 : Int).toNat < 2365 then (if (h (o0 + 33) (11 : Int).toNat) < 16 then (if (0 : Int) ≤ 10 ∧ (10 : Int).toNat < 2365 then (if (h (o0 + 33) (10 : Int).toNat) = 0 then Option.bind (M_hasRoom h o0 5 (wr (3 + v1))) (fun b5 => (if b5 = 0 then M_canAppend_p37 h else some 1)) else M_canAppend_p37 h) else none) else M_canAppend_p37 h) else none)
set_option maxRecDepth 20000 in
theorem t_M_canAppend {T : jT} {xs : List Int} {h : jH}  {o0 : Nat} {v1 : Int} {out : Int} (ho0 : isX12 T o0) (H : M_canAppend h o0 v1 = some out) : jEm xs 3 247 [(2, Int.ofNat o0), (0, v1)] (T, h) ((0, out), (T, h)) := by
  have hd : 2 ≤ 2 := Nat.le_refl _
  obtain ⟨y, ey⟩ : ∃ y : jV × jS, y = ((0, out), (T, h)) := ⟨_, rfl⟩
  rw [← ey]
  have HY : ykIp T h y out := ey
  refine jEm.ent (n := 2) (by decide +kernel) (Nat.le_of_ble_eq_true rfl) ?_
  show jEv xs 2 (247, 0, [(2, Int.ofNat o0), (0, v1)], []) (T, h) y
  unfold M_canAppend at H
  refine jEv.blk [(.aload_n 0, 1, [])] (by decide +kernel) (pc' := 1) (ls' := [(2, Int.ofNat o0), (0, v1)]) (st' := [(2, Int.ofNat o0)]) rfl ?_
  refine jEv.gfR (o' := (o0 + 33)) (show jfI 247 1 (.getfield 111) 3 [12, 45, 5, 0, 7081] = true by decide +kernel) (isX12_L ho0) (by decide) (isX12_r45 ho0) ?_
  refine jEv.blk [(.bipush 11, 2, [])] (by decide +kernel) (pc' := 6) (ls' := [(2, Int.ofNat o0), (0, v1)]) (st' := [(0, 11), (2, Int.ofNat (o0 + 33))]) rfl ?_
  refine jEv.ald (Or.inl ⟨rfl, rfl, rfl⟩) (show jfI 247 6 (.iaload) 1 [] = true by decide +kernel) (isX12_a45 ho0) H (fun c1 H => ?_)
  refine jEv.blk [(.bipush 16, 2, [])] (by decide +kernel) (pc' := 9) (ls' := [(2, Int.ofNat o0), (0, v1)]) (st' := [(0, 16), (0, (h (o0 + 33) (11 : Int).toNat))]) rfl ?_
  refine jEv.ic_ge (t := 37) (show jfI 247 9 (.if_icmp .ge 28) 3 [] = true by decide +kernel) rfl H (fun c2 H => ?_) (fun c2 H => ?_)
  · refine jEv.blk [(.aload_n 0, 1, [])] (by decide +kernel) (pc' := 13) (ls' := [(2, Int.ofNat o0), (0, v1)]) (st' := [(2, Int.ofNat o0)]) rfl ?_
    refine jEv.gfR (o' := (o0 + 33)) (show jfI 247 13 (.getfield 111) 3 [12, 45, 5, 0, 7081] = true by decide +kernel) (isX12_L ho0) (by decide) (isX12_r45 ho0) ?_
    refine jEv.blk [(.bipush 10, 2, [])] (by decide +kernel) (pc' := 18) (ls' := [(2, Int.ofNat o0), (0, v1)]) (st' := [(0, 10), (2, Int.ofNat (o0 + 33))]) rfl ?_
    refine jEv.ald (Or.inl ⟨rfl, rfl, rfl⟩) (show jfI 247 18 (.iaload) 1 [] = true by decide +kernel) (isX12_a45 ho0) H (fun c3 H => ?_)
    refine jEv.if_ne (t := 37) (show jfI 247 19 (.ifCond .ne 18) 3 [] = true by decide +kernel) rfl H (fun c4 H => ?_) (fun c4 H => ?_)
    · refine jEv.blk [(.aload_n 0, 1, []), (.iconst 5, 1, []), (.iconst 3, 1, []), (.iload_n 1, 1, []), (.iadd, 1, [])] (by decide +kernel) (pc' := 27) (ls' := [(2, Int.ofNat o0), (0, v1)]) (st' := [(0, (wr (3 + v1))), (0, 5), (2, Int.ofNat o0)]) rfl ?_
      refine jbind H (fun b5 Hb5 H => ?_)
      refine jEv.calV (st' := [(0, b5)]) (show jfI 247 27 (.invokevirtual 423) 3 [1, 248, 2, 9072] = true by decide +kernel) rfl (Or.inl rfl) rfl (Nat.le_of_ble_eq_true rfl) (by decide +kernel) (by decide) (isX12_L ho0) ((t_M_hasRoom (T := T) (xs := xs) ho0 Hb5).mono (jKle 2 hd)) rfl ?_
      refine jEv.if_eq (t := 37) (show jfI 247 30 (.ifCond .eq 7) 3 [] = true by decide +kernel) rfl H (fun c6 H => ?_) (fun c6 H => ?_)
      · exact jEv.weak (a := [(3, 0), (3, 0)]) (jles.c0 (jles.c0 jles.nl)) (t_M_canAppend_p37 (T := T) (xs := xs) (y := y) hd H HY)
      · refine jEv.blk [(.iconst 1, 1, [])] (by decide +kernel) (pc' := 34) (ls' := [(2, Int.ofNat o0), (0, v1)]) (st' := [(0, 1)]) rfl ?_
        refine jEv.goto (t := 38) (show jfI 247 34 (.goto 4) 3 [] = true by decide +kernel) rfl ?_
        exact jEv.retZ (show jfI 247 38 (.ireturn) 1 [] = true by decide +kernel) (by decide +kernel) (by decide) (by cases H; exact HY)
    · exact jEv.weak (a := [(3, 0), (3, 0)]) (jles.c0 (jles.c0 jles.nl)) (t_M_canAppend_p37 (T := T) (xs := xs) (y := y) hd H HY)
  · exact jEv.weak (a := [(3, 0), (3, 0)]) (jles.c0 (jles.c0 jles.nl)) (t_M_canAppend_p37 (T := T) (xs := xs) (y := y) hd H HY)
set_option maxRecDepth 20000 in
noncomputable def M_appends  (h : jH) (o0 : Nat) (v1 : Int) (v2 : Int) (v3 : Int) : Option jH := (if (0 : Int) ≤ 1 ∧ (1 : Int).toNat < 2365 then (if (0 : Int) ≤ (wr (16 + (wr (4 * (jand (h (o0 + 33) (1 : Int).toNat) 31))))) ∧ ((wr (16 + (wr (4 * (jand (h (o0 + 33) (1 : Int).toNat) 31))))) : Int).toNat < 2365 then (if (0 : Int) ≤ (wr ((wr (16 + (wr (4 * (jand (h (o0 + 33) (1 : Int).toNat) 31))))) + 1)) ∧ ((wr ((wr (16 + (wr (4 * (jand (h (o0 + 33) (1 : Int).toNat) 31))))) + 1)) : Int).toNat < 2365 then (if (0 : Int) ≤ (wr ((wr (16 + (wr (4 * (jand (h (o0 + 33) (1 : Int).toNat) 31))))) + 2)) ∧ ((wr ((wr (16 + (wr (4 * (jand (h (o0 + 33) (1 : Int).toNat) 31))))) + 2)) : Int).toNat < 2365 then (if (0 : Int) ≤ 0 ∧ (0 : Int).toNat < 2365 then (if (0 : Int) ≤ (wr ((wr (16 + (wr (4 * (jand (h (o0 + 33) (1 : Int).toNat) 31))))) + 3)) ∧ ((wr ((wr (16 + (wr (4 * (jand (h (o0 + 33) (1 : Int).toNat) 31))))) + 3)) : Int).toNat < 2365 then (if (0 : Int) ≤ 1 ∧ (1 : Int).toNat < 2365 then (if (0 : Int) ≤ 1 ∧ (1 : Int).toNat < 2365 then (if (0 : Int) ≤ 11 ∧ (11 : Int).toNat < 2365 then (if (0 : Int) ≤ 11 ∧ (11 : Int).toNat < 2365 then some (jup (jup (jup (jup (jup (jup h (o0 + 33) ((wr (16 + (wr (4 * (jand (h (o0 + 33) (1 : Int).toNat) 31))))) : Int).toNat v1) (o0 + 33) ((wr ((wr (16 + (wr (4 * (jand (h (o0 + 33) (1 : Int).toNat) 31))))) + 1)) : Int).toNat v2) (o0 + 33) ((wr ((wr (16 + (wr (4 * (jand (h (o0 + 33) (1 : Int).toNat) 31))))) + 2)) : Int).toNat v3) (o0 + 33) ((wr ((wr (16 + (wr (4 * (jand (h (o0 + 33) (1 : Int).toNat) 31))))) + 3)) : Int).toNat ((jup (jup (jup h (o0 + 33) ((wr (16 + (wr (4 * (jand (h (o0 + 33) (1 : Int).toNat) 31))))) : Int).toNat v1) (o0 + 33) ((wr ((wr (16 + (wr (4 * (jand (h (o0 + 33) (1 : Int).toNat) 31))))) + 1)) : Int).toNat v2) (o0 + 33) ((wr ((wr (16 + (wr (4 * (jand (h (o0 + 33) (1 : Int).toNat) 31))))) + 2)) : Int).toNat v3) (o0 + 33) (0 : Int).toNat)) (o0 + 33) (1 : Int).toNat (wr (((jup (jup (jup (jup h (o0 + 33) ((wr (16 + (wr (4 * (jand (h (o0 + 33) (1 : Int).toNat) 31))))) : Int).toNat v1) (o0 + 33) ((wr ((wr (16 + (wr (4 * (jand (h (o0 + 33) (1 : Int).toNat) 31))))) + 1)) : Int).toNat v2) (o0 + 33) ((wr ((wr (16 + (wr (4 * (jand (h (o0 + 33) (1 : Int).toNat) 31))))) + 2)) : Int).toNat v3) (o0 + 33) ((wr ((wr (16 + (wr (4 * (jand (h (o0 + 33) (1 : Int).toNat) 31))))) + 3)) : Int).toNat ((jup (jup (jup h (o0 + 33) ((wr (16 + (wr (4 * (jand (h (o0 + 33) (1 : Int).toNat) 31))))) : Int).toNat v1) (o0 + 33) ((wr ((wr (16 + (wr (4 * (jand (h (o0 + 33) (1 : Int).toNat) 31))))) + 1)) : Int).toNat v2) (o0 + 33) ((wr ((wr (16 + (wr (4 * (jand (h (o0 + 33) (1 : Int).toNat) 31))))) + 2)) : Int).toNat v3) (o0 + 33) (0 : Int).toNat)) (o0 + 33) (1 : Int).toNat) + 1))) (o0 + 33) (11 : Int).toNat (wr (((jup (jup (jup (jup (jup h (o0 + 33) ((wr (16 + (wr (4 * (jand (h (o0 + 33) (1 : Int).toNat) 31))))) : Int).toNat v1) (o0 + 33) ((wr ((wr (16 + (wr (4 * (jand (h (o0 + 33) (1 : Int).toNat) 31))))) + 1)) : Int).toNat v2) (o0 + 33) ((wr ((wr (16 + (wr (4 * (jand (h (o0 + 33) (1 : Int).toNat) 31))))) + 2)) : Int).toNat v3) (o0 + 33) ((wr ((wr (16 + (wr (4 * (jand (h (o0 + 33) (1 : Int).toNat) 31))))) + 3)) : Int).toNat ((jup (jup (jup h (o0 + 33) ((wr (16 + (wr (4 * (jand (h (o0 + 33) (1 : Int).toNat) 31))))) : Int).toNat v1) (o0 + 33) ((wr ((wr (16 + (wr (4 * (jand (h (o0 + 33) (1 : Int).toNat) 31))))) + 1)) : Int).toNat v2) (o0 + 33) ((wr ((wr (16 + (wr (4 * (jand (h (o0 + 33) (1 : Int).toNat) 31))))) + 2)) : Int).toNat v3) (o0 + 33) (0 : Int).toNat)) (o0 + 33) (1 : Int).toNat (wr (((jup (jup (jup (jup h (o0 + 33) ((wr (16 + (wr (4 * (jand (h (o0 + 33) (1 : Int).toNat) 31))))) : Int).toNat v1) (o0 + 33) ((wr ((wr (16 + (wr (4 * (jand (h (o0 + 33) (1 : Int).toNat) 31))))) + 1)) : Int).toNat v2) (o0 + 33) ((wr ((wr (16 + (wr (4 * (jand (h (o0 + 33) (1 : Int).toNat) 31))))) + 2)) : Int).toNat v3) (o0 + 33) ((wr ((wr (16 + (wr (4 * (jand (h (o0 + 33) (1 : Int).toNat) 31))))) + 3)) : Int).toNat ((jup (jup (jup h (o0 + 33) ((wr (16 + (wr (4 * (jand (h (o0 + 33) (1 : Int).toNat) 31))))) : Int).toNat v1) (o0 + 33) ((wr ((wr (16 + (wr (4 * (jand (h (o0 + 33) (1 : Int).toNat) 31))))) + 1)) : Int).toNat v2) (o0 + 33) ((wr ((wr (16 + (wr (4 * (jand (h (o0 + 33) (1 : Int).toNat) 31))))) + 2)) : Int).toNat v3) (o0 + 33) (0 : Int).toNat)) (o0 + 33) (1 : Int).toNat) + 1))) (o0 + 33) (11 : Int).toNat) + 1))) else none) else none) else none) else none) else none) else none) else none) else none) else none) else none)
set_option maxRecDepth 20000 in
theorem t_M_appends {T : jT} {xs : List Int} {h : jH}  {o0 : Nat} {v1 : Int} {v2 : Int} {v3 : Int} {out : jH} (ho0 : isX12 T o0) (H : M_appends h o0 v1 v2 v3 = some out) : jEm xs 1 251 [(2, Int.ofNat o0), (0, v1), (0, v2), (0, v3)] (T, h) ((3, 0), (T, out)) := by
  have hd : 0 ≤ 0 := Nat.le_refl _
  obtain ⟨y, ey⟩ : ∃ y : jV × jS, y = ((3, 0), (T, out)) := ⟨_, rfl⟩
  rw [← ey]
  have HY : ykV T y out := ey
  refine jEm.ent (n := 5) (by decide +kernel) (Nat.le_of_ble_eq_true rfl) ?_
  show jEv xs 0 (251, 0, [(2, Int.ofNat o0), (0, v1), (0, v2), (0, v3), (3, 0)], []) (T, h) y
  unfold M_appends at H
  refine jEv.blk [(.bipush 16, 2, []), (.iconst 4, 1, []), (.aload_n 0, 1, [])] (by decide +kernel) (pc' := 4) (ls' := [(2, Int.ofNat o0), (0, v1), (0, v2), (0, v3), (3, 0)]) (st' := [(2, Int.ofNat o0), (0, 4), (0, 16)]) rfl ?_
  refine jEv.gfR (o' := (o0 + 33)) (show jfI 251 4 (.getfield 111) 3 [12, 45, 5, 0, 7081] = true by decide +kernel) (isX12_L ho0) (by decide) (isX12_r45 ho0) ?_
  refine jEv.blk [(.iconst 1, 1, [])] (by decide +kernel) (pc' := 8) (ls' := [(2, Int.ofNat o0), (0, v1), (0, v2), (0, v3), (3, 0)]) (st' := [(0, 1), (2, Int.ofNat (o0 + 33)), (0, 4), (0, 16)]) rfl ?_
  refine jEv.ald (Or.inl ⟨rfl, rfl, rfl⟩) (show jfI 251 8 (.iaload) 1 [] = true by decide +kernel) (isX12_a45 ho0) H (fun c1 H => ?_)
  refine jEv.blk [(.bipush 31, 2, []), (.iand, 1, []), (.imul, 1, []), (.iadd, 1, []), (.istore 4, 2, []), (.aload_n 0, 1, [])] (by decide +kernel) (pc' := 17) (ls' := [(2, Int.ofNat o0), (0, v1), (0, v2), (0, v3), (0, (wr (16 + (wr (4 * (jand (h (o0 + 33) (1 : Int).toNat) 31))))))]) (st' := [(2, Int.ofNat o0)]) rfl ?_
  refine jEv.gfR (o' := (o0 + 33)) (show jfI 251 17 (.getfield 111) 3 [12, 45, 5, 0, 7081] = true by decide +kernel) (isX12_L ho0) (by decide) (isX12_r45 ho0) ?_
  refine jEv.blk [(.iload 4, 2, []), (.iload_n 1, 1, [])] (by decide +kernel) (pc' := 23) (ls' := [(2, Int.ofNat o0), (0, v1), (0, v2), (0, v3), (0, (wr (16 + (wr (4 * (jand (h (o0 + 33) (1 : Int).toNat) 31))))))]) (st' := [(0, v1), (0, (wr (16 + (wr (4 * (jand (h (o0 + 33) (1 : Int).toNat) 31)))))), (2, Int.ofNat (o0 + 33))]) rfl ?_
  refine jEv.ast (Or.inl ⟨rfl, rfl, rfl⟩) (show jfI 251 23 (.iastore) 1 [] = true by decide +kernel) (isX12_a45 ho0) rfl H (fun c2 H => ?_)
  refine jEv.blk [(.aload_n 0, 1, [])] (by decide +kernel) (pc' := 25) (ls' := [(2, Int.ofNat o0), (0, v1), (0, v2), (0, v3), (0, (wr (16 + (wr (4 * (jand (h (o0 + 33) (1 : Int).toNat) 31))))))]) (st' := [(2, Int.ofNat o0)]) rfl ?_
  refine jEv.gfR (o' := (o0 + 33)) (show jfI 251 25 (.getfield 111) 3 [12, 45, 5, 0, 7081] = true by decide +kernel) (isX12_L ho0) (by decide) (isX12_r45 ho0) ?_
  refine jEv.blk [(.iload 4, 2, []), (.iconst 1, 1, []), (.iadd, 1, []), (.iload_n 2, 1, [])] (by decide +kernel) (pc' := 33) (ls' := [(2, Int.ofNat o0), (0, v1), (0, v2), (0, v3), (0, (wr (16 + (wr (4 * (jand (h (o0 + 33) (1 : Int).toNat) 31))))))]) (st' := [(0, v2), (0, (wr ((wr (16 + (wr (4 * (jand (h (o0 + 33) (1 : Int).toNat) 31))))) + 1))), (2, Int.ofNat (o0 + 33))]) rfl ?_
  refine jEv.ast (Or.inl ⟨rfl, rfl, rfl⟩) (show jfI 251 33 (.iastore) 1 [] = true by decide +kernel) (isX12_a45 ho0) rfl H (fun c3 H => ?_)
  refine jEv.blk [(.aload_n 0, 1, [])] (by decide +kernel) (pc' := 35) (ls' := [(2, Int.ofNat o0), (0, v1), (0, v2), (0, v3), (0, (wr (16 + (wr (4 * (jand (h (o0 + 33) (1 : Int).toNat) 31))))))]) (st' := [(2, Int.ofNat o0)]) rfl ?_
  refine jEv.gfR (o' := (o0 + 33)) (show jfI 251 35 (.getfield 111) 3 [12, 45, 5, 0, 7081] = true by decide +kernel) (isX12_L ho0) (by decide) (isX12_r45 ho0) ?_
  refine jEv.blk [(.iload 4, 2, []), (.iconst 2, 1, []), (.iadd, 1, []), (.iload_n 3, 1, [])] (by decide +kernel) (pc' := 43) (ls' := [(2, Int.ofNat o0), (0, v1), (0, v2), (0, v3), (0, (wr (16 + (wr (4 * (jand (h (o0 + 33) (1 : Int).toNat) 31))))))]) (st' := [(0, v3), (0, (wr ((wr (16 + (wr (4 * (jand (h (o0 + 33) (1 : Int).toNat) 31))))) + 2))), (2, Int.ofNat (o0 + 33))]) rfl ?_
  refine jEv.ast (Or.inl ⟨rfl, rfl, rfl⟩) (show jfI 251 43 (.iastore) 1 [] = true by decide +kernel) (isX12_a45 ho0) rfl H (fun c4 H => ?_)
  refine jEv.blk [(.aload_n 0, 1, [])] (by decide +kernel) (pc' := 45) (ls' := [(2, Int.ofNat o0), (0, v1), (0, v2), (0, v3), (0, (wr (16 + (wr (4 * (jand (h (o0 + 33) (1 : Int).toNat) 31))))))]) (st' := [(2, Int.ofNat o0)]) rfl ?_
  refine jEv.gfR (o' := (o0 + 33)) (show jfI 251 45 (.getfield 111) 3 [12, 45, 5, 0, 7081] = true by decide +kernel) (isX12_L ho0) (by decide) (isX12_r45 ho0) ?_
  refine jEv.blk [(.iload 4, 2, []), (.iconst 3, 1, []), (.iadd, 1, []), (.aload_n 0, 1, [])] (by decide +kernel) (pc' := 53) (ls' := [(2, Int.ofNat o0), (0, v1), (0, v2), (0, v3), (0, (wr (16 + (wr (4 * (jand (h (o0 + 33) (1 : Int).toNat) 31))))))]) (st' := [(2, Int.ofNat o0), (0, (wr ((wr (16 + (wr (4 * (jand (h (o0 + 33) (1 : Int).toNat) 31))))) + 3))), (2, Int.ofNat (o0 + 33))]) rfl ?_
  refine jEv.gfR (o' := (o0 + 33)) (show jfI 251 53 (.getfield 111) 3 [12, 45, 5, 0, 7081] = true by decide +kernel) (isX12_L ho0) (by decide) (isX12_r45 ho0) ?_
  refine jEv.blk [(.iconst 0, 1, [])] (by decide +kernel) (pc' := 57) (ls' := [(2, Int.ofNat o0), (0, v1), (0, v2), (0, v3), (0, (wr (16 + (wr (4 * (jand (h (o0 + 33) (1 : Int).toNat) 31))))))]) (st' := [(0, 0), (2, Int.ofNat (o0 + 33)), (0, (wr ((wr (16 + (wr (4 * (jand (h (o0 + 33) (1 : Int).toNat) 31))))) + 3))), (2, Int.ofNat (o0 + 33))]) rfl ?_
  refine jEv.ald (Or.inl ⟨rfl, rfl, rfl⟩) (show jfI 251 57 (.iaload) 1 [] = true by decide +kernel) (isX12_a45 ho0) H (fun c5 H => ?_)
  refine jEv.ast (Or.inl ⟨rfl, rfl, rfl⟩) (show jfI 251 58 (.iastore) 1 [] = true by decide +kernel) (isX12_a45 ho0) rfl H (fun c6 H => ?_)
  refine jEv.blk [(.aload_n 0, 1, [])] (by decide +kernel) (pc' := 60) (ls' := [(2, Int.ofNat o0), (0, v1), (0, v2), (0, v3), (0, (wr (16 + (wr (4 * (jand (h (o0 + 33) (1 : Int).toNat) 31))))))]) (st' := [(2, Int.ofNat o0)]) rfl ?_
  refine jEv.gfR (o' := (o0 + 33)) (show jfI 251 60 (.getfield 111) 3 [12, 45, 5, 0, 7081] = true by decide +kernel) (isX12_L ho0) (by decide) (isX12_r45 ho0) ?_
  refine jEv.blk [(.iconst 1, 1, []), (.dup2, 1, [])] (by decide +kernel) (pc' := 65) (ls' := [(2, Int.ofNat o0), (0, v1), (0, v2), (0, v3), (0, (wr (16 + (wr (4 * (jand (h (o0 + 33) (1 : Int).toNat) 31))))))]) (st' := [(0, 1), (2, Int.ofNat (o0 + 33)), (0, 1), (2, Int.ofNat (o0 + 33))]) rfl ?_
  refine jEv.ald (Or.inl ⟨rfl, rfl, rfl⟩) (show jfI 251 65 (.iaload) 1 [] = true by decide +kernel) (isX12_a45 ho0) H (fun c7 H => ?_)
  refine jEv.blk [(.iconst 1, 1, []), (.iadd, 1, [])] (by decide +kernel) (pc' := 68) (ls' := [(2, Int.ofNat o0), (0, v1), (0, v2), (0, v3), (0, (wr (16 + (wr (4 * (jand (h (o0 + 33) (1 : Int).toNat) 31))))))]) (st' := [(0, (wr (((jup (jup (jup (jup h (o0 + 33) ((wr (16 + (wr (4 * (jand (h (o0 + 33) (1 : Int).toNat) 31))))) : Int).toNat v1) (o0 + 33) ((wr ((wr (16 + (wr (4 * (jand (h (o0 + 33) (1 : Int).toNat) 31))))) + 1)) : Int).toNat v2) (o0 + 33) ((wr ((wr (16 + (wr (4 * (jand (h (o0 + 33) (1 : Int).toNat) 31))))) + 2)) : Int).toNat v3) (o0 + 33) ((wr ((wr (16 + (wr (4 * (jand (h (o0 + 33) (1 : Int).toNat) 31))))) + 3)) : Int).toNat ((jup (jup (jup h (o0 + 33) ((wr (16 + (wr (4 * (jand (h (o0 + 33) (1 : Int).toNat) 31))))) : Int).toNat v1) (o0 + 33) ((wr ((wr (16 + (wr (4 * (jand (h (o0 + 33) (1 : Int).toNat) 31))))) + 1)) : Int).toNat v2) (o0 + 33) ((wr ((wr (16 + (wr (4 * (jand (h (o0 + 33) (1 : Int).toNat) 31))))) + 2)) : Int).toNat v3) (o0 + 33) (0 : Int).toNat)) (o0 + 33) (1 : Int).toNat) + 1))), (0, 1), (2, Int.ofNat (o0 + 33))]) rfl ?_
  refine jEv.ast (Or.inl ⟨rfl, rfl, rfl⟩) (show jfI 251 68 (.iastore) 1 [] = true by decide +kernel) (isX12_a45 ho0) rfl H (fun c8 H => ?_)
  refine jEv.blk [(.aload_n 0, 1, [])] (by decide +kernel) (pc' := 70) (ls' := [(2, Int.ofNat o0), (0, v1), (0, v2), (0, v3), (0, (wr (16 + (wr (4 * (jand (h (o0 + 33) (1 : Int).toNat) 31))))))]) (st' := [(2, Int.ofNat o0)]) rfl ?_
  refine jEv.gfR (o' := (o0 + 33)) (show jfI 251 70 (.getfield 111) 3 [12, 45, 5, 0, 7081] = true by decide +kernel) (isX12_L ho0) (by decide) (isX12_r45 ho0) ?_
  refine jEv.blk [(.bipush 11, 2, []), (.dup2, 1, [])] (by decide +kernel) (pc' := 76) (ls' := [(2, Int.ofNat o0), (0, v1), (0, v2), (0, v3), (0, (wr (16 + (wr (4 * (jand (h (o0 + 33) (1 : Int).toNat) 31))))))]) (st' := [(0, 11), (2, Int.ofNat (o0 + 33)), (0, 11), (2, Int.ofNat (o0 + 33))]) rfl ?_
  refine jEv.ald (Or.inl ⟨rfl, rfl, rfl⟩) (show jfI 251 76 (.iaload) 1 [] = true by decide +kernel) (isX12_a45 ho0) H (fun c9 H => ?_)
  refine jEv.blk [(.iconst 1, 1, []), (.iadd, 1, [])] (by decide +kernel) (pc' := 79) (ls' := [(2, Int.ofNat o0), (0, v1), (0, v2), (0, v3), (0, (wr (16 + (wr (4 * (jand (h (o0 + 33) (1 : Int).toNat) 31))))))]) (st' := [(0, (wr (((jup (jup (jup (jup (jup h (o0 + 33) ((wr (16 + (wr (4 * (jand (h (o0 + 33) (1 : Int).toNat) 31))))) : Int).toNat v1) (o0 + 33) ((wr ((wr (16 + (wr (4 * (jand (h (o0 + 33) (1 : Int).toNat) 31))))) + 1)) : Int).toNat v2) (o0 + 33) ((wr ((wr (16 + (wr (4 * (jand (h (o0 + 33) (1 : Int).toNat) 31))))) + 2)) : Int).toNat v3) (o0 + 33) ((wr ((wr (16 + (wr (4 * (jand (h (o0 + 33) (1 : Int).toNat) 31))))) + 3)) : Int).toNat ((jup (jup (jup h (o0 + 33) ((wr (16 + (wr (4 * (jand (h (o0 + 33) (1 : Int).toNat) 31))))) : Int).toNat v1) (o0 + 33) ((wr ((wr (16 + (wr (4 * (jand (h (o0 + 33) (1 : Int).toNat) 31))))) + 1)) : Int).toNat v2) (o0 + 33) ((wr ((wr (16 + (wr (4 * (jand (h (o0 + 33) (1 : Int).toNat) 31))))) + 2)) : Int).toNat v3) (o0 + 33) (0 : Int).toNat)) (o0 + 33) (1 : Int).toNat (wr (((jup (jup (jup (jup h (o0 + 33) ((wr (16 + (wr (4 * (jand (h (o0 + 33) (1 : Int).toNat) 31))))) : Int).toNat v1) (o0 + 33) ((wr ((wr (16 + (wr (4 * (jand (h (o0 + 33) (1 : Int).toNat) 31))))) + 1)) : Int).toNat v2) (o0 + 33) ((wr ((wr (16 + (wr (4 * (jand (h (o0 + 33) (1 : Int).toNat) 31))))) + 2)) : Int).toNat v3) (o0 + 33) ((wr ((wr (16 + (wr (4 * (jand (h (o0 + 33) (1 : Int).toNat) 31))))) + 3)) : Int).toNat ((jup (jup (jup h (o0 + 33) ((wr (16 + (wr (4 * (jand (h (o0 + 33) (1 : Int).toNat) 31))))) : Int).toNat v1) (o0 + 33) ((wr ((wr (16 + (wr (4 * (jand (h (o0 + 33) (1 : Int).toNat) 31))))) + 1)) : Int).toNat v2) (o0 + 33) ((wr ((wr (16 + (wr (4 * (jand (h (o0 + 33) (1 : Int).toNat) 31))))) + 2)) : Int).toNat v3) (o0 + 33) (0 : Int).toNat)) (o0 + 33) (1 : Int).toNat) + 1))) (o0 + 33) (11 : Int).toNat) + 1))), (0, 11), (2, Int.ofNat (o0 + 33))]) rfl ?_
  refine jEv.ast (Or.inl ⟨rfl, rfl, rfl⟩) (show jfI 251 79 (.iastore) 1 [] = true by decide +kernel) (isX12_a45 ho0) rfl H (fun c10 H => ?_)
  exact jEv.retV (show jfI 251 80 (.return_) 1 [] = true by decide +kernel) (by decide +kernel) (by cases H; exact HY)
def yk_M_stands_L230 (T : jT) (xs : List Int) (d : Nat) (y : jV × jS)  (o0 : Nat) : ((Int × jH) ⊕ jH) → Prop
  | .inl (v1, h) => jEv xs d (240, 230, [(2, Int.ofNat o0), (0, v1)], []) (T, h) y
  | .inr o => ykV T y o
def yk_M_stands_L190 (T : jT) (xs : List Int) (d : Nat) (y : jV × jS)  (o0 : Nat) : ((Int × jH) ⊕ jH) → Prop
  | .inl (v1, h) => jEv xs d (240, 190, [(2, Int.ofNat o0), (0, v1)], []) (T, h) y
  | .inr o => ykV T y o
def yk_M_stands_L165 (T : jT) (xs : List Int) (d : Nat) (y : jV × jS)  (o0 : Nat) : ((Int × jH) ⊕ jH) → Prop
  | .inl (v1, h) => jEv xs d (240, 165, [(2, Int.ofNat o0), (0, v1)], []) (T, h) y
  | .inr o => ykV T y o
def yk_M_stands_L129 (T : jT) (xs : List Int) (d : Nat) (y : jV × jS)  (o0 : Nat) : ((Int × jH) ⊕ jH) → Prop
  | .inl (v1, h) => jEv xs d (240, 129, [(2, Int.ofNat o0), (0, v1)], []) (T, h) y
  | .inr o => ykV T y o
def yk_M_stands_L107 (T : jT) (xs : List Int) (d : Nat) (y : jV × jS)  (o0 : Nat) : ((Int × jH) ⊕ jH) → Prop
  | .inl (v1, h) => jEv xs d (240, 107, [(2, Int.ofNat o0), (0, v1)], []) (T, h) y
  | .inr o => ykV T y o
def yk_M_stands_L75 (T : jT) (xs : List Int) (d : Nat) (y : jV × jS)  (o0 : Nat) : ((Int × jH) ⊕ jH) → Prop
  | .inl (v1, h) => jEv xs d (240, 75, [(2, Int.ofNat o0), (0, v1)], []) (T, h) y
  | .inr o => ykV T y o
def yk_M_stands_L34 (T : jT) (xs : List Int) (d : Nat) (y : jV × jS)  (o0 : Nat) : ((Int × jH) ⊕ jH) → Prop
  | .inl (v1, h) => jEv xs d (240, 34, [(2, Int.ofNat o0), (0, v1)], []) (T, h) y
  | .inr o => ykV T y o
def yk_M_stands_L7 (T : jT) (xs : List Int) (d : Nat) (y : jV × jS)  (o0 : Nat) : ((Int × jH) ⊕ jH) → Prop
  | .inl (v1, h) => jEv xs d (240, 7, [(2, Int.ofNat o0), (0, v1)], []) (T, h) y
  | .inr o => ykV T y o
set_option maxRecDepth 20000 in
noncomputable def M_stands_B230  (h : jH) (o0 : Nat) (v1 : Int) : Option ((Int × jH) ⊕ jH) := (if (0 : Int) ≤ 3 ∧ (3 : Int).toNat < 10 then (if v1 < (h (o0 + 28) (3 : Int).toNat) then (if (0 : Int) ≤ (wr ((wr (3 * v1)) + 2)) ∧ ((wr ((wr (3 * v1)) + 2)) : Int).toNat < 120 then Option.bind (M_canAppend h o0 (h (o0 + 29) ((wr ((wr (3 * v1)) + 2)) : Int).toNat)) (fun b25 => (if b25 = 0 then some (.inl ((wr (v1 + 1)), h)) else (if (0 : Int) ≤ (wr (3 * v1)) ∧ ((wr (3 * v1)) : Int).toNat < 120 then (if (0 : Int) ≤ (wr ((wr (3 * v1)) + 1)) ∧ ((wr ((wr (3 * v1)) + 1)) : Int).toNat < 120 then (if (0 : Int) ≤ (wr ((wr (3 * v1)) + 2)) ∧ ((wr ((wr (3 * v1)) + 2)) : Int).toNat < 120 then Option.bind (M_appends h o0 (h (o0 + 29) ((wr (3 * v1)) : Int).toNat) (h (o0 + 29) ((wr ((wr (3 * v1)) + 1)) : Int).toNat) (h (o0 + 29) ((wr ((wr (3 * v1)) + 2)) : Int).toNat)) (fun b30 => some (.inl ((wr (v1 + 1)), b30))) else none) else none) else none))) else none) else Option.map Sum.inr (some h)) else none)
noncomputable def M_stands_L230  (h : jH) (o0 : Nat) (v1 : Int) : Option jH := jloop (fun s : (Int × jH) => M_stands_B230 s.2 o0 s.1) (v1, h)
set_option maxRecDepth 20000 in
theorem t_M_stands_B230 {T : jT} {xs : List Int} {d : Nat} {y : jV × jS} (hd : 3 ≤ d) {h : jH}  {o0 : Nat} {v1 : Int} {out : ((Int × jH) ⊕ jH)} (ho0 : isX12 T o0) (H : M_stands_B230 h o0 v1 = some out) (HY : yk_M_stands_L230 T xs d y o0 out) : jEv xs d (240, 230, [(2, Int.ofNat o0), (0, v1)], []) (T, h) y := by
  unfold M_stands_B230 at H
  refine jEv.blk [(.iload_n 1, 1, []), (.aload_n 0, 1, [])] (by decide +kernel) (pc' := 232) (ls' := [(2, Int.ofNat o0), (0, v1)]) (st' := [(2, Int.ofNat o0), (0, v1)]) rfl ?_
  refine jEv.gfR (o' := (o0 + 28)) (show jfI 240 232 (.getfield 96) 3 [12, 36, 5, 0, 7072] = true by decide +kernel) (isX12_L ho0) (by decide) (isX12_r36 ho0) ?_
  refine jEv.blk [(.iconst 3, 1, [])] (by decide +kernel) (pc' := 236) (ls' := [(2, Int.ofNat o0), (0, v1)]) (st' := [(0, 3), (2, Int.ofNat (o0 + 28)), (0, v1)]) rfl ?_
  refine jEv.ald (Or.inl ⟨rfl, rfl, rfl⟩) (show jfI 240 236 (.iaload) 1 [] = true by decide +kernel) (isX12_a36 ho0) H (fun c22 H => ?_)
  refine jEv.ic_ge (t := 295) (show jfI 240 237 (.if_icmp .ge 58) 3 [] = true by decide +kernel) rfl H (fun c23 H => ?_) (fun c23 H => ?_)
  · refine jEv.blk [(.aload_n 0, 1, []), (.aload_n 0, 1, [])] (by decide +kernel) (pc' := 242) (ls' := [(2, Int.ofNat o0), (0, v1)]) (st' := [(2, Int.ofNat o0), (2, Int.ofNat o0)]) rfl ?_
    refine jEv.gfR (o' := (o0 + 29)) (show jfI 240 242 (.getfield 99) 3 [12, 37, 5, 0, 7073] = true by decide +kernel) (isX12_L ho0) (by decide) (isX12_r37 ho0) ?_
    refine jEv.blk [(.iconst 3, 1, []), (.iload_n 1, 1, []), (.imul, 1, []), (.iconst 2, 1, []), (.iadd, 1, [])] (by decide +kernel) (pc' := 250) (ls' := [(2, Int.ofNat o0), (0, v1)]) (st' := [(0, (wr ((wr (3 * v1)) + 2))), (2, Int.ofNat (o0 + 29)), (2, Int.ofNat o0)]) rfl ?_
    refine jEv.ald (Or.inl ⟨rfl, rfl, rfl⟩) (show jfI 240 250 (.iaload) 1 [] = true by decide +kernel) (isX12_a37 ho0) H (fun c24 H => ?_)
    refine jbind H (fun b25 Hb25 H => ?_)
    refine jEv.calV (st' := [(0, b25)]) (show jfI 240 251 (.invokevirtual 353) 3 [1, 247, 1, 9068] = true by decide +kernel) rfl (Or.inl rfl) rfl (Nat.le_of_ble_eq_true rfl) (by decide +kernel) (by decide) (isX12_L ho0) ((t_M_canAppend (T := T) (xs := xs) ho0 Hb25).mono (jKle 3 hd)) rfl ?_
    refine jEv.if_eq (t := 289) (show jfI 240 254 (.ifCond .eq 35) 3 [] = true by decide +kernel) rfl H (fun c26 H => ?_) (fun c26 H => ?_)
    · refine jEv.blk [(.iinc 1 1, 3, [])] (by decide +kernel) (pc' := 292) (ls' := [(2, Int.ofNat o0), (0, (wr (v1 + 1)))]) (st' := []) rfl ?_
      refine jEv.goto (t := 230) (show jfI 240 292 (.goto (-62)) 3 [] = true by decide +kernel) rfl ?_
      exact (by cases H; exact HY)
    · refine jEv.blk [(.aload_n 0, 1, []), (.aload_n 0, 1, [])] (by decide +kernel) (pc' := 259) (ls' := [(2, Int.ofNat o0), (0, v1)]) (st' := [(2, Int.ofNat o0), (2, Int.ofNat o0)]) rfl ?_
      refine jEv.gfR (o' := (o0 + 29)) (show jfI 240 259 (.getfield 99) 3 [12, 37, 5, 0, 7073] = true by decide +kernel) (isX12_L ho0) (by decide) (isX12_r37 ho0) ?_
      refine jEv.blk [(.iconst 3, 1, []), (.iload_n 1, 1, []), (.imul, 1, [])] (by decide +kernel) (pc' := 265) (ls' := [(2, Int.ofNat o0), (0, v1)]) (st' := [(0, (wr (3 * v1))), (2, Int.ofNat (o0 + 29)), (2, Int.ofNat o0)]) rfl ?_
      refine jEv.ald (Or.inl ⟨rfl, rfl, rfl⟩) (show jfI 240 265 (.iaload) 1 [] = true by decide +kernel) (isX12_a37 ho0) H (fun c27 H => ?_)
      refine jEv.blk [(.aload_n 0, 1, [])] (by decide +kernel) (pc' := 267) (ls' := [(2, Int.ofNat o0), (0, v1)]) (st' := [(2, Int.ofNat o0), (0, (h (o0 + 29) ((wr (3 * v1)) : Int).toNat)), (2, Int.ofNat o0)]) rfl ?_
      refine jEv.gfR (o' := (o0 + 29)) (show jfI 240 267 (.getfield 99) 3 [12, 37, 5, 0, 7073] = true by decide +kernel) (isX12_L ho0) (by decide) (isX12_r37 ho0) ?_
      refine jEv.blk [(.iconst 3, 1, []), (.iload_n 1, 1, []), (.imul, 1, []), (.iconst 1, 1, []), (.iadd, 1, [])] (by decide +kernel) (pc' := 275) (ls' := [(2, Int.ofNat o0), (0, v1)]) (st' := [(0, (wr ((wr (3 * v1)) + 1))), (2, Int.ofNat (o0 + 29)), (0, (h (o0 + 29) ((wr (3 * v1)) : Int).toNat)), (2, Int.ofNat o0)]) rfl ?_
      refine jEv.ald (Or.inl ⟨rfl, rfl, rfl⟩) (show jfI 240 275 (.iaload) 1 [] = true by decide +kernel) (isX12_a37 ho0) H (fun c28 H => ?_)
      refine jEv.blk [(.aload_n 0, 1, [])] (by decide +kernel) (pc' := 277) (ls' := [(2, Int.ofNat o0), (0, v1)]) (st' := [(2, Int.ofNat o0), (0, (h (o0 + 29) ((wr ((wr (3 * v1)) + 1)) : Int).toNat)), (0, (h (o0 + 29) ((wr (3 * v1)) : Int).toNat)), (2, Int.ofNat o0)]) rfl ?_
      refine jEv.gfR (o' := (o0 + 29)) (show jfI 240 277 (.getfield 99) 3 [12, 37, 5, 0, 7073] = true by decide +kernel) (isX12_L ho0) (by decide) (isX12_r37 ho0) ?_
      refine jEv.blk [(.iconst 3, 1, []), (.iload_n 1, 1, []), (.imul, 1, []), (.iconst 2, 1, []), (.iadd, 1, [])] (by decide +kernel) (pc' := 285) (ls' := [(2, Int.ofNat o0), (0, v1)]) (st' := [(0, (wr ((wr (3 * v1)) + 2))), (2, Int.ofNat (o0 + 29)), (0, (h (o0 + 29) ((wr ((wr (3 * v1)) + 1)) : Int).toNat)), (0, (h (o0 + 29) ((wr (3 * v1)) : Int).toNat)), (2, Int.ofNat o0)]) rfl ?_
      refine jEv.ald (Or.inl ⟨rfl, rfl, rfl⟩) (show jfI 240 285 (.iaload) 1 [] = true by decide +kernel) (isX12_a37 ho0) H (fun c29 H => ?_)
      refine jbind H (fun b30 Hb30 H => ?_)
      refine jEv.calV (st' := []) (show jfI 240 286 (.invokevirtual 356) 3 [1, 251, 3, 9084] = true by decide +kernel) rfl (Or.inl rfl) rfl (Nat.le_of_ble_eq_true rfl) (by decide +kernel) (by decide) (isX12_L ho0) ((t_M_appends (T := T) (xs := xs) ho0 Hb30).mono (jKle 1 hd)) rfl ?_
      refine jEv.blk [(.iinc 1 1, 3, [])] (by decide +kernel) (pc' := 292) (ls' := [(2, Int.ofNat o0), (0, (wr (v1 + 1)))]) (st' := []) rfl ?_
      refine jEv.goto (t := 230) (show jfI 240 292 (.goto (-62)) 3 [] = true by decide +kernel) rfl ?_
      exact (by cases H; exact HY)
  · refine jmapr H HY (fun out H (HY : ykV T y out) => ?_)
    exact jEv.retV (show jfI 240 295 (.return_) 1 [] = true by decide +kernel) (by decide +kernel) (by cases H; exact HY)
theorem t_M_stands_L230 {T : jT} {xs : List Int} {d : Nat} {y : jV × jS} (hd : 3 ≤ d) {h : jH}  {o0 : Nat} {v1 : Int} {out : jH} (ho0 : isX12 T o0) (H : M_stands_L230 h o0 v1 = some out) (HY : ykV T y out) : jEv xs d (240, 230, [(2, Int.ofNat o0), (0, v1)], []) (T, h) y :=
  jloop_sound (G := fun s : (Int × jH) => jEv xs d (240, 230, [(2, Int.ofNat o0), (0, s.1)], []) (T, s.2) y) (K := yk_M_stands_L230 T xs d y o0) (fun s out H HY => t_M_stands_B230 hd ho0 H HY) (fun s' hg => hg) (s := (v1, h)) H HY
set_option maxRecDepth 20000 in
noncomputable def M_stands_B190  (h : jH) (o0 : Nat) (v1 : Int) : Option ((Int × jH) ⊕ jH) := (if v1 < 4 then (if (0 : Int) ≤ (wr (192 + v1)) ∧ ((wr (192 + v1)) : Int).toNat < 2365 then some (.inl ((wr (v1 + 1)), (jup h (o0 + 33) ((wr (192 + v1)) : Int).toNat (-1)))) else none) else Option.map Sum.inr (Option.bind (M_opensOnDisk h o0 0 0) (fun b21 => M_stands_L230 (jup (jup b21 o0 73 0) o0 66 0) o0 0)))
noncomputable def M_stands_L190  (h : jH) (o0 : Nat) (v1 : Int) : Option jH := jloop (fun s : (Int × jH) => M_stands_B190 s.2 o0 s.1) (v1, h)
set_option maxRecDepth 20000 in
theorem t_M_stands_B190 {T : jT} {xs : List Int} {d : Nat} {y : jV × jS} (hd : 3 ≤ d) {h : jH}  {o0 : Nat} {v1 : Int} {out : ((Int × jH) ⊕ jH)} (ho0 : isX12 T o0) (H : M_stands_B190 h o0 v1 = some out) (HY : yk_M_stands_L190 T xs d y o0 out) : jEv xs d (240, 190, [(2, Int.ofNat o0), (0, v1)], []) (T, h) y := by
  unfold M_stands_B190 at H
  refine jEv.blk [(.iload_n 1, 1, []), (.iconst 4, 1, [])] (by decide +kernel) (pc' := 192) (ls' := [(2, Int.ofNat o0), (0, v1)]) (st' := [(0, 4), (0, v1)]) rfl ?_
  refine jEv.ic_ge (t := 212) (show jfI 240 192 (.if_icmp .ge 20) 3 [] = true by decide +kernel) rfl H (fun c19 H => ?_) (fun c19 H => ?_)
  · refine jEv.blk [(.aload_n 0, 1, [])] (by decide +kernel) (pc' := 196) (ls' := [(2, Int.ofNat o0), (0, v1)]) (st' := [(2, Int.ofNat o0)]) rfl ?_
    refine jEv.gfR (o' := (o0 + 33)) (show jfI 240 196 (.getfield 111) 3 [12, 45, 5, 0, 7081] = true by decide +kernel) (isX12_L ho0) (by decide) (isX12_r45 ho0) ?_
    refine jEv.blk [(.sipush 192, 3, []), (.iload_n 1, 1, []), (.iadd, 1, []), (.iconst (-1), 1, [])] (by decide +kernel) (pc' := 205) (ls' := [(2, Int.ofNat o0), (0, v1)]) (st' := [(0, (-1)), (0, (wr (192 + v1))), (2, Int.ofNat (o0 + 33))]) rfl ?_
    refine jEv.ast (Or.inl ⟨rfl, rfl, rfl⟩) (show jfI 240 205 (.iastore) 1 [] = true by decide +kernel) (isX12_a45 ho0) rfl H (fun c20 H => ?_)
    refine jEv.blk [(.iinc 1 1, 3, [])] (by decide +kernel) (pc' := 209) (ls' := [(2, Int.ofNat o0), (0, (wr (v1 + 1)))]) (st' := []) rfl ?_
    refine jEv.goto (t := 190) (show jfI 240 209 (.goto (-19)) 3 [] = true by decide +kernel) rfl ?_
    exact (by cases H; exact HY)
  · refine jmapr H HY (fun out H (HY : ykV T y out) => ?_)
    refine jEv.blk [(.aload_n 0, 1, []), (.iconst 0, 1, []), (.iconst 0, 1, [])] (by decide +kernel) (pc' := 215) (ls' := [(2, Int.ofNat o0), (0, v1)]) (st' := [(0, 0), (0, 0), (2, Int.ofNat o0)]) rfl ?_
    refine jbind H (fun b21 Hb21 H => ?_)
    refine jEv.calV (st' := []) (show jfI 240 215 (.invokevirtual 344) 3 [1, 241, 2, 9046] = true by decide +kernel) rfl (Or.inl rfl) rfl (Nat.le_of_ble_eq_true rfl) (by decide +kernel) (by decide) (isX12_L ho0) ((t_M_opensOnDisk (T := T) (xs := xs) ho0 Hb21).mono (jKle 3 hd)) rfl ?_
    refine jEv.blk [(.aload_n 0, 1, []), (.iconst 0, 1, [])] (by decide +kernel) (pc' := 220) (ls' := [(2, Int.ofNat o0), (0, v1)]) (st' := [(0, 0), (2, Int.ofNat o0)]) rfl ?_
    refine jEv.pfI (show jfI 240 220 (.putfield 347) 3 [12, 73, 0, 0, 7109] = true by decide +kernel) (isX12_L ho0) (by decide) ?_
    refine jEv.blk [(.aload_n 0, 1, []), (.iconst 0, 1, [])] (by decide +kernel) (pc' := 225) (ls' := [(2, Int.ofNat o0), (0, v1)]) (st' := [(0, 0), (2, Int.ofNat o0)]) rfl ?_
    refine jEv.pfI (show jfI 240 225 (.putfield 350) 3 [12, 66, 0, 0, 7102] = true by decide +kernel) (isX12_L ho0) (by decide) ?_
    refine jEv.blk [(.iconst 0, 1, []), (.istore_n 1, 1, [])] (by decide +kernel) (pc' := 230) (ls' := [(2, Int.ofNat o0), (0, 0)]) (st' := []) rfl ?_
    exact t_M_stands_L230 (T := T) (xs := xs) (y := y) hd ho0 H HY
theorem t_M_stands_L190 {T : jT} {xs : List Int} {d : Nat} {y : jV × jS} (hd : 3 ≤ d) {h : jH}  {o0 : Nat} {v1 : Int} {out : jH} (ho0 : isX12 T o0) (H : M_stands_L190 h o0 v1 = some out) (HY : ykV T y out) : jEv xs d (240, 190, [(2, Int.ofNat o0), (0, v1)], []) (T, h) y :=
  jloop_sound (G := fun s : (Int × jH) => jEv xs d (240, 190, [(2, Int.ofNat o0), (0, s.1)], []) (T, s.2) y) (K := yk_M_stands_L190 T xs d y o0) (fun s out H HY => t_M_stands_B190 hd ho0 H HY) (fun s' hg => hg) (s := (v1, h)) H HY
set_option maxRecDepth 20000 in
noncomputable def M_stands_B165  (h : jH) (o0 : Nat) (v1 : Int) : Option ((Int × jH) ⊕ jH) := (if v1 < 8 then (if (0 : Int) ≤ (wr (184 + v1)) ∧ ((wr (184 + v1)) : Int).toNat < 2365 then some (.inl ((wr (v1 + 1)), (jup h (o0 + 33) ((wr (184 + v1)) : Int).toNat (-1)))) else none) else Option.map Sum.inr (M_stands_L190 h o0 0))
noncomputable def M_stands_L165  (h : jH) (o0 : Nat) (v1 : Int) : Option jH := jloop (fun s : (Int × jH) => M_stands_B165 s.2 o0 s.1) (v1, h)
set_option maxRecDepth 20000 in
theorem t_M_stands_B165 {T : jT} {xs : List Int} {d : Nat} {y : jV × jS} (hd : 3 ≤ d) {h : jH}  {o0 : Nat} {v1 : Int} {out : ((Int × jH) ⊕ jH)} (ho0 : isX12 T o0) (H : M_stands_B165 h o0 v1 = some out) (HY : yk_M_stands_L165 T xs d y o0 out) : jEv xs d (240, 165, [(2, Int.ofNat o0), (0, v1)], []) (T, h) y := by
  unfold M_stands_B165 at H
  refine jEv.blk [(.iload_n 1, 1, []), (.bipush 8, 2, [])] (by decide +kernel) (pc' := 168) (ls' := [(2, Int.ofNat o0), (0, v1)]) (st' := [(0, 8), (0, v1)]) rfl ?_
  refine jEv.ic_ge (t := 188) (show jfI 240 168 (.if_icmp .ge 20) 3 [] = true by decide +kernel) rfl H (fun c17 H => ?_) (fun c17 H => ?_)
  · refine jEv.blk [(.aload_n 0, 1, [])] (by decide +kernel) (pc' := 172) (ls' := [(2, Int.ofNat o0), (0, v1)]) (st' := [(2, Int.ofNat o0)]) rfl ?_
    refine jEv.gfR (o' := (o0 + 33)) (show jfI 240 172 (.getfield 111) 3 [12, 45, 5, 0, 7081] = true by decide +kernel) (isX12_L ho0) (by decide) (isX12_r45 ho0) ?_
    refine jEv.blk [(.sipush 184, 3, []), (.iload_n 1, 1, []), (.iadd, 1, []), (.iconst (-1), 1, [])] (by decide +kernel) (pc' := 181) (ls' := [(2, Int.ofNat o0), (0, v1)]) (st' := [(0, (-1)), (0, (wr (184 + v1))), (2, Int.ofNat (o0 + 33))]) rfl ?_
    refine jEv.ast (Or.inl ⟨rfl, rfl, rfl⟩) (show jfI 240 181 (.iastore) 1 [] = true by decide +kernel) (isX12_a45 ho0) rfl H (fun c18 H => ?_)
    refine jEv.blk [(.iinc 1 1, 3, [])] (by decide +kernel) (pc' := 185) (ls' := [(2, Int.ofNat o0), (0, (wr (v1 + 1)))]) (st' := []) rfl ?_
    refine jEv.goto (t := 165) (show jfI 240 185 (.goto (-20)) 3 [] = true by decide +kernel) rfl ?_
    exact (by cases H; exact HY)
  · refine jmapr H HY (fun out H (HY : ykV T y out) => ?_)
    refine jEv.blk [(.iconst 0, 1, []), (.istore_n 1, 1, [])] (by decide +kernel) (pc' := 190) (ls' := [(2, Int.ofNat o0), (0, 0)]) (st' := []) rfl ?_
    exact t_M_stands_L190 (T := T) (xs := xs) (y := y) hd ho0 H HY
theorem t_M_stands_L165 {T : jT} {xs : List Int} {d : Nat} {y : jV × jS} (hd : 3 ≤ d) {h : jH}  {o0 : Nat} {v1 : Int} {out : jH} (ho0 : isX12 T o0) (H : M_stands_L165 h o0 v1 = some out) (HY : ykV T y out) : jEv xs d (240, 165, [(2, Int.ofNat o0), (0, v1)], []) (T, h) y :=
  jloop_sound (G := fun s : (Int × jH) => jEv xs d (240, 165, [(2, Int.ofNat o0), (0, s.1)], []) (T, s.2) y) (K := yk_M_stands_L165 T xs d y o0) (fun s out H HY => t_M_stands_B165 hd ho0 H HY) (fun s' hg => hg) (s := (v1, h)) H HY
set_option maxRecDepth 20000 in
noncomputable def M_stands_B129  (h : jH) (o0 : Nat) (v1 : Int) : Option ((Int × jH) ⊕ jH) := (if v1 < 16 then (if (0 : Int) ≤ (wr (144 + v1)) ∧ ((wr (144 + v1)) : Int).toNat < 2365 then (if (0 : Int) ≤ (wr (160 + v1)) ∧ ((wr (160 + v1)) : Int).toNat < 2365 then some (.inl ((wr (v1 + 1)), (jup (jup h (o0 + 33) ((wr (144 + v1)) : Int).toNat (-1)) (o0 + 33) ((wr (160 + v1)) : Int).toNat (-1)))) else none) else none) else Option.map Sum.inr (M_stands_L165 h o0 0))
noncomputable def M_stands_L129  (h : jH) (o0 : Nat) (v1 : Int) : Option jH := jloop (fun s : (Int × jH) => M_stands_B129 s.2 o0 s.1) (v1, h)
set_option maxRecDepth 20000 in
theorem t_M_stands_B129 {T : jT} {xs : List Int} {d : Nat} {y : jV × jS} (hd : 3 ≤ d) {h : jH}  {o0 : Nat} {v1 : Int} {out : ((Int × jH) ⊕ jH)} (ho0 : isX12 T o0) (H : M_stands_B129 h o0 v1 = some out) (HY : yk_M_stands_L129 T xs d y o0 out) : jEv xs d (240, 129, [(2, Int.ofNat o0), (0, v1)], []) (T, h) y := by
  unfold M_stands_B129 at H
  refine jEv.blk [(.iload_n 1, 1, []), (.bipush 16, 2, [])] (by decide +kernel) (pc' := 132) (ls' := [(2, Int.ofNat o0), (0, v1)]) (st' := [(0, 16), (0, v1)]) rfl ?_
  refine jEv.ic_ge (t := 163) (show jfI 240 132 (.if_icmp .ge 31) 3 [] = true by decide +kernel) rfl H (fun c14 H => ?_) (fun c14 H => ?_)
  · refine jEv.blk [(.aload_n 0, 1, [])] (by decide +kernel) (pc' := 136) (ls' := [(2, Int.ofNat o0), (0, v1)]) (st' := [(2, Int.ofNat o0)]) rfl ?_
    refine jEv.gfR (o' := (o0 + 33)) (show jfI 240 136 (.getfield 111) 3 [12, 45, 5, 0, 7081] = true by decide +kernel) (isX12_L ho0) (by decide) (isX12_r45 ho0) ?_
    refine jEv.blk [(.sipush 144, 3, []), (.iload_n 1, 1, []), (.iadd, 1, []), (.iconst (-1), 1, [])] (by decide +kernel) (pc' := 145) (ls' := [(2, Int.ofNat o0), (0, v1)]) (st' := [(0, (-1)), (0, (wr (144 + v1))), (2, Int.ofNat (o0 + 33))]) rfl ?_
    refine jEv.ast (Or.inl ⟨rfl, rfl, rfl⟩) (show jfI 240 145 (.iastore) 1 [] = true by decide +kernel) (isX12_a45 ho0) rfl H (fun c15 H => ?_)
    refine jEv.blk [(.aload_n 0, 1, [])] (by decide +kernel) (pc' := 147) (ls' := [(2, Int.ofNat o0), (0, v1)]) (st' := [(2, Int.ofNat o0)]) rfl ?_
    refine jEv.gfR (o' := (o0 + 33)) (show jfI 240 147 (.getfield 111) 3 [12, 45, 5, 0, 7081] = true by decide +kernel) (isX12_L ho0) (by decide) (isX12_r45 ho0) ?_
    refine jEv.blk [(.sipush 160, 3, []), (.iload_n 1, 1, []), (.iadd, 1, []), (.iconst (-1), 1, [])] (by decide +kernel) (pc' := 156) (ls' := [(2, Int.ofNat o0), (0, v1)]) (st' := [(0, (-1)), (0, (wr (160 + v1))), (2, Int.ofNat (o0 + 33))]) rfl ?_
    refine jEv.ast (Or.inl ⟨rfl, rfl, rfl⟩) (show jfI 240 156 (.iastore) 1 [] = true by decide +kernel) (isX12_a45 ho0) rfl H (fun c16 H => ?_)
    refine jEv.blk [(.iinc 1 1, 3, [])] (by decide +kernel) (pc' := 160) (ls' := [(2, Int.ofNat o0), (0, (wr (v1 + 1)))]) (st' := []) rfl ?_
    refine jEv.goto (t := 129) (show jfI 240 160 (.goto (-31)) 3 [] = true by decide +kernel) rfl ?_
    exact (by cases H; exact HY)
  · refine jmapr H HY (fun out H (HY : ykV T y out) => ?_)
    refine jEv.blk [(.iconst 0, 1, []), (.istore_n 1, 1, [])] (by decide +kernel) (pc' := 165) (ls' := [(2, Int.ofNat o0), (0, 0)]) (st' := []) rfl ?_
    exact t_M_stands_L165 (T := T) (xs := xs) (y := y) hd ho0 H HY
theorem t_M_stands_L129 {T : jT} {xs : List Int} {d : Nat} {y : jV × jS} (hd : 3 ≤ d) {h : jH}  {o0 : Nat} {v1 : Int} {out : jH} (ho0 : isX12 T o0) (H : M_stands_L129 h o0 v1 = some out) (HY : ykV T y out) : jEv xs d (240, 129, [(2, Int.ofNat o0), (0, v1)], []) (T, h) y :=
  jloop_sound (G := fun s : (Int × jH) => jEv xs d (240, 129, [(2, Int.ofNat o0), (0, s.1)], []) (T, s.2) y) (K := yk_M_stands_L129 T xs d y o0) (fun s out H HY => t_M_stands_B129 hd ho0 H HY) (fun s' hg => hg) (s := (v1, h)) H HY
set_option maxRecDepth 20000 in
noncomputable def M_stands_B107  (h : jH) (o0 : Nat) (v1 : Int) : Option ((Int × jH) ⊕ jH) := (if v1 < 2365 then (if (0 : Int) ≤ v1 ∧ (v1 : Int).toNat < 2365 then some (.inl ((wr (v1 + 1)), (jup h (o0 + 33) (v1 : Int).toNat 0))) else none) else Option.map Sum.inr (M_stands_L129 h o0 0))
noncomputable def M_stands_L107  (h : jH) (o0 : Nat) (v1 : Int) : Option jH := jloop (fun s : (Int × jH) => M_stands_B107 s.2 o0 s.1) (v1, h)
set_option maxRecDepth 20000 in
theorem t_M_stands_B107 {T : jT} {xs : List Int} {d : Nat} {y : jV × jS} (hd : 3 ≤ d) {h : jH}  {o0 : Nat} {v1 : Int} {out : ((Int × jH) ⊕ jH)} (ho0 : isX12 T o0) (H : M_stands_B107 h o0 v1 = some out) (HY : yk_M_stands_L107 T xs d y o0 out) : jEv xs d (240, 107, [(2, Int.ofNat o0), (0, v1)], []) (T, h) y := by
  unfold M_stands_B107 at H
  refine jEv.blk [(.iload_n 1, 1, []), (.sipush 2365, 3, [])] (by decide +kernel) (pc' := 111) (ls' := [(2, Int.ofNat o0), (0, v1)]) (st' := [(0, 2365), (0, v1)]) rfl ?_
  refine jEv.ic_ge (t := 127) (show jfI 240 111 (.if_icmp .ge 16) 3 [] = true by decide +kernel) rfl H (fun c12 H => ?_) (fun c12 H => ?_)
  · refine jEv.blk [(.aload_n 0, 1, [])] (by decide +kernel) (pc' := 115) (ls' := [(2, Int.ofNat o0), (0, v1)]) (st' := [(2, Int.ofNat o0)]) rfl ?_
    refine jEv.gfR (o' := (o0 + 33)) (show jfI 240 115 (.getfield 111) 3 [12, 45, 5, 0, 7081] = true by decide +kernel) (isX12_L ho0) (by decide) (isX12_r45 ho0) ?_
    refine jEv.blk [(.iload_n 1, 1, []), (.iconst 0, 1, [])] (by decide +kernel) (pc' := 120) (ls' := [(2, Int.ofNat o0), (0, v1)]) (st' := [(0, 0), (0, v1), (2, Int.ofNat (o0 + 33))]) rfl ?_
    refine jEv.ast (Or.inl ⟨rfl, rfl, rfl⟩) (show jfI 240 120 (.iastore) 1 [] = true by decide +kernel) (isX12_a45 ho0) rfl H (fun c13 H => ?_)
    refine jEv.blk [(.iinc 1 1, 3, [])] (by decide +kernel) (pc' := 124) (ls' := [(2, Int.ofNat o0), (0, (wr (v1 + 1)))]) (st' := []) rfl ?_
    refine jEv.goto (t := 107) (show jfI 240 124 (.goto (-17)) 3 [] = true by decide +kernel) rfl ?_
    exact (by cases H; exact HY)
  · refine jmapr H HY (fun out H (HY : ykV T y out) => ?_)
    refine jEv.blk [(.iconst 0, 1, []), (.istore_n 1, 1, [])] (by decide +kernel) (pc' := 129) (ls' := [(2, Int.ofNat o0), (0, 0)]) (st' := []) rfl ?_
    exact t_M_stands_L129 (T := T) (xs := xs) (y := y) hd ho0 H HY
theorem t_M_stands_L107 {T : jT} {xs : List Int} {d : Nat} {y : jV × jS} (hd : 3 ≤ d) {h : jH}  {o0 : Nat} {v1 : Int} {out : jH} (ho0 : isX12 T o0) (H : M_stands_L107 h o0 v1 = some out) (HY : ykV T y out) : jEv xs d (240, 107, [(2, Int.ofNat o0), (0, v1)], []) (T, h) y :=
  jloop_sound (G := fun s : (Int × jH) => jEv xs d (240, 107, [(2, Int.ofNat o0), (0, s.1)], []) (T, s.2) y) (K := yk_M_stands_L107 T xs d y o0) (fun s out H HY => t_M_stands_B107 hd ho0 H HY) (fun s' hg => hg) (s := (v1, h)) H HY
set_option maxRecDepth 20000 in
noncomputable def M_stands_B75  (h : jH) (o0 : Nat) (v1 : Int) : Option ((Int × jH) ⊕ jH) := (if v1 < (h o0 41) then (if (0 : Int) ≤ v1 ∧ (v1 : Int).toNat < 3200 then (if (0 : Int) ≤ (wr (1600 + v1)) ∧ ((wr (1600 + v1)) : Int).toNat < 3200 then some (.inl ((wr (v1 + 1)), (jup h (o0 + 32) ((wr (1600 + v1)) : Int).toNat (h (o0 + 32) (v1 : Int).toNat)))) else none) else none) else Option.map Sum.inr (M_stands_L107 h o0 0))
noncomputable def M_stands_L75  (h : jH) (o0 : Nat) (v1 : Int) : Option jH := jloop (fun s : (Int × jH) => M_stands_B75 s.2 o0 s.1) (v1, h)
set_option maxRecDepth 20000 in
theorem t_M_stands_B75 {T : jT} {xs : List Int} {d : Nat} {y : jV × jS} (hd : 3 ≤ d) {h : jH}  {o0 : Nat} {v1 : Int} {out : ((Int × jH) ⊕ jH)} (ho0 : isX12 T o0) (H : M_stands_B75 h o0 v1 = some out) (HY : yk_M_stands_L75 T xs d y o0 out) : jEv xs d (240, 75, [(2, Int.ofNat o0), (0, v1)], []) (T, h) y := by
  unfold M_stands_B75 at H
  refine jEv.blk [(.iload_n 1, 1, []), (.aload_n 0, 1, [])] (by decide +kernel) (pc' := 77) (ls' := [(2, Int.ofNat o0), (0, v1)]) (st' := [(2, Int.ofNat o0), (0, v1)]) rfl ?_
  refine jEv.gfI (show jfI 240 77 (.getfield 312) 3 [12, 41, 0, 0, 7077] = true by decide +kernel) (isX12_L ho0) (by decide) ?_
  refine jEv.ic_ge (t := 105) (show jfI 240 80 (.if_icmp .ge 25) 3 [] = true by decide +kernel) rfl H (fun c9 H => ?_) (fun c9 H => ?_)
  · refine jEv.blk [(.aload_n 0, 1, [])] (by decide +kernel) (pc' := 84) (ls' := [(2, Int.ofNat o0), (0, v1)]) (st' := [(2, Int.ofNat o0)]) rfl ?_
    refine jEv.gfR (o' := (o0 + 32)) (show jfI 240 84 (.getfield 108) 3 [12, 40, 5, 0, 7076] = true by decide +kernel) (isX12_L ho0) (by decide) (isX12_r40 ho0) ?_
    refine jEv.blk [(.sipush 1600, 3, []), (.iload_n 1, 1, []), (.iadd, 1, []), (.aload_n 0, 1, [])] (by decide +kernel) (pc' := 93) (ls' := [(2, Int.ofNat o0), (0, v1)]) (st' := [(2, Int.ofNat o0), (0, (wr (1600 + v1))), (2, Int.ofNat (o0 + 32))]) rfl ?_
    refine jEv.gfR (o' := (o0 + 32)) (show jfI 240 93 (.getfield 108) 3 [12, 40, 5, 0, 7076] = true by decide +kernel) (isX12_L ho0) (by decide) (isX12_r40 ho0) ?_
    refine jEv.blk [(.iload_n 1, 1, [])] (by decide +kernel) (pc' := 97) (ls' := [(2, Int.ofNat o0), (0, v1)]) (st' := [(0, v1), (2, Int.ofNat (o0 + 32)), (0, (wr (1600 + v1))), (2, Int.ofNat (o0 + 32))]) rfl ?_
    refine jEv.ald (Or.inl ⟨rfl, rfl, rfl⟩) (show jfI 240 97 (.iaload) 1 [] = true by decide +kernel) (isX12_a40 ho0) H (fun c10 H => ?_)
    refine jEv.ast (Or.inl ⟨rfl, rfl, rfl⟩) (show jfI 240 98 (.iastore) 1 [] = true by decide +kernel) (isX12_a40 ho0) rfl H (fun c11 H => ?_)
    refine jEv.blk [(.iinc 1 1, 3, [])] (by decide +kernel) (pc' := 102) (ls' := [(2, Int.ofNat o0), (0, (wr (v1 + 1)))]) (st' := []) rfl ?_
    refine jEv.goto (t := 75) (show jfI 240 102 (.goto (-27)) 3 [] = true by decide +kernel) rfl ?_
    exact (by cases H; exact HY)
  · refine jmapr H HY (fun out H (HY : ykV T y out) => ?_)
    refine jEv.blk [(.iconst 0, 1, []), (.istore_n 1, 1, [])] (by decide +kernel) (pc' := 107) (ls' := [(2, Int.ofNat o0), (0, 0)]) (st' := []) rfl ?_
    exact t_M_stands_L107 (T := T) (xs := xs) (y := y) hd ho0 H HY
theorem t_M_stands_L75 {T : jT} {xs : List Int} {d : Nat} {y : jV × jS} (hd : 3 ≤ d) {h : jH}  {o0 : Nat} {v1 : Int} {out : jH} (ho0 : isX12 T o0) (H : M_stands_L75 h o0 v1 = some out) (HY : ykV T y out) : jEv xs d (240, 75, [(2, Int.ofNat o0), (0, v1)], []) (T, h) y :=
  jloop_sound (G := fun s : (Int × jH) => jEv xs d (240, 75, [(2, Int.ofNat o0), (0, s.1)], []) (T, s.2) y) (K := yk_M_stands_L75 T xs d y o0) (fun s out H HY => t_M_stands_B75 hd ho0 H HY) (fun s' hg => hg) (s := (v1, h)) H HY
set_option maxRecDepth 20000 in
noncomputable def M_stands_B34  (h : jH) (o0 : Nat) (v1 : Int) : Option ((Int × jH) ⊕ jH) := (if v1 < 2 then (if (0 : Int) ≤ v1 ∧ (v1 : Int).toNat < 4 then (if (0 : Int) ≤ (wr (2 + v1)) ∧ ((wr (2 + v1)) : Int).toNat < 4 then (if (0 : Int) ≤ v1 ∧ (v1 : Int).toNat < 4 then (if (0 : Int) ≤ (wr (2 + v1)) ∧ ((wr (2 + v1)) : Int).toNat < 4 then some (.inl ((wr (v1 + 1)), (jup (jup h (o0 + 30) ((wr (2 + v1)) : Int).toNat (h (o0 + 30) (v1 : Int).toNat)) (o0 + 31) ((wr (2 + v1)) : Int).toNat ((jup h (o0 + 30) ((wr (2 + v1)) : Int).toNat (h (o0 + 30) (v1 : Int).toNat)) (o0 + 31) (v1 : Int).toNat)))) else none) else none) else none) else none) else Option.map Sum.inr (M_stands_L75 h o0 0))
noncomputable def M_stands_L34  (h : jH) (o0 : Nat) (v1 : Int) : Option jH := jloop (fun s : (Int × jH) => M_stands_B34 s.2 o0 s.1) (v1, h)
set_option maxRecDepth 20000 in
theorem t_M_stands_B34 {T : jT} {xs : List Int} {d : Nat} {y : jV × jS} (hd : 3 ≤ d) {h : jH}  {o0 : Nat} {v1 : Int} {out : ((Int × jH) ⊕ jH)} (ho0 : isX12 T o0) (H : M_stands_B34 h o0 v1 = some out) (HY : yk_M_stands_L34 T xs d y o0 out) : jEv xs d (240, 34, [(2, Int.ofNat o0), (0, v1)], []) (T, h) y := by
  unfold M_stands_B34 at H
  refine jEv.blk [(.iload_n 1, 1, []), (.iconst 2, 1, [])] (by decide +kernel) (pc' := 36) (ls' := [(2, Int.ofNat o0), (0, v1)]) (st' := [(0, 2), (0, v1)]) rfl ?_
  refine jEv.ic_ge (t := 73) (show jfI 240 36 (.if_icmp .ge 37) 3 [] = true by decide +kernel) rfl H (fun c4 H => ?_) (fun c4 H => ?_)
  · refine jEv.blk [(.aload_n 0, 1, [])] (by decide +kernel) (pc' := 40) (ls' := [(2, Int.ofNat o0), (0, v1)]) (st' := [(2, Int.ofNat o0)]) rfl ?_
    refine jEv.gfR (o' := (o0 + 30)) (show jfI 240 40 (.getfield 102) 3 [12, 38, 5, 0, 7074] = true by decide +kernel) (isX12_L ho0) (by decide) (isX12_r38 ho0) ?_
    refine jEv.blk [(.iconst 2, 1, []), (.iload_n 1, 1, []), (.iadd, 1, []), (.aload_n 0, 1, [])] (by decide +kernel) (pc' := 47) (ls' := [(2, Int.ofNat o0), (0, v1)]) (st' := [(2, Int.ofNat o0), (0, (wr (2 + v1))), (2, Int.ofNat (o0 + 30))]) rfl ?_
    refine jEv.gfR (o' := (o0 + 30)) (show jfI 240 47 (.getfield 102) 3 [12, 38, 5, 0, 7074] = true by decide +kernel) (isX12_L ho0) (by decide) (isX12_r38 ho0) ?_
    refine jEv.blk [(.iload_n 1, 1, [])] (by decide +kernel) (pc' := 51) (ls' := [(2, Int.ofNat o0), (0, v1)]) (st' := [(0, v1), (2, Int.ofNat (o0 + 30)), (0, (wr (2 + v1))), (2, Int.ofNat (o0 + 30))]) rfl ?_
    refine jEv.ald (Or.inl ⟨rfl, rfl, rfl⟩) (show jfI 240 51 (.iaload) 1 [] = true by decide +kernel) (isX12_a38 ho0) H (fun c5 H => ?_)
    refine jEv.ast (Or.inl ⟨rfl, rfl, rfl⟩) (show jfI 240 52 (.iastore) 1 [] = true by decide +kernel) (isX12_a38 ho0) rfl H (fun c6 H => ?_)
    refine jEv.blk [(.aload_n 0, 1, [])] (by decide +kernel) (pc' := 54) (ls' := [(2, Int.ofNat o0), (0, v1)]) (st' := [(2, Int.ofNat o0)]) rfl ?_
    refine jEv.gfR (o' := (o0 + 31)) (show jfI 240 54 (.getfield 105) 3 [12, 39, 5, 0, 7075] = true by decide +kernel) (isX12_L ho0) (by decide) (isX12_r39 ho0) ?_
    refine jEv.blk [(.iconst 2, 1, []), (.iload_n 1, 1, []), (.iadd, 1, []), (.aload_n 0, 1, [])] (by decide +kernel) (pc' := 61) (ls' := [(2, Int.ofNat o0), (0, v1)]) (st' := [(2, Int.ofNat o0), (0, (wr (2 + v1))), (2, Int.ofNat (o0 + 31))]) rfl ?_
    refine jEv.gfR (o' := (o0 + 31)) (show jfI 240 61 (.getfield 105) 3 [12, 39, 5, 0, 7075] = true by decide +kernel) (isX12_L ho0) (by decide) (isX12_r39 ho0) ?_
    refine jEv.blk [(.iload_n 1, 1, [])] (by decide +kernel) (pc' := 65) (ls' := [(2, Int.ofNat o0), (0, v1)]) (st' := [(0, v1), (2, Int.ofNat (o0 + 31)), (0, (wr (2 + v1))), (2, Int.ofNat (o0 + 31))]) rfl ?_
    refine jEv.ald (Or.inl ⟨rfl, rfl, rfl⟩) (show jfI 240 65 (.iaload) 1 [] = true by decide +kernel) (isX12_a39 ho0) H (fun c7 H => ?_)
    refine jEv.ast (Or.inl ⟨rfl, rfl, rfl⟩) (show jfI 240 66 (.iastore) 1 [] = true by decide +kernel) (isX12_a39 ho0) rfl H (fun c8 H => ?_)
    refine jEv.blk [(.iinc 1 1, 3, [])] (by decide +kernel) (pc' := 70) (ls' := [(2, Int.ofNat o0), (0, (wr (v1 + 1)))]) (st' := []) rfl ?_
    refine jEv.goto (t := 34) (show jfI 240 70 (.goto (-36)) 3 [] = true by decide +kernel) rfl ?_
    exact (by cases H; exact HY)
  · refine jmapr H HY (fun out H (HY : ykV T y out) => ?_)
    refine jEv.blk [(.iconst 0, 1, []), (.istore_n 1, 1, [])] (by decide +kernel) (pc' := 75) (ls' := [(2, Int.ofNat o0), (0, 0)]) (st' := []) rfl ?_
    exact t_M_stands_L75 (T := T) (xs := xs) (y := y) hd ho0 H HY
theorem t_M_stands_L34 {T : jT} {xs : List Int} {d : Nat} {y : jV × jS} (hd : 3 ≤ d) {h : jH}  {o0 : Nat} {v1 : Int} {out : jH} (ho0 : isX12 T o0) (H : M_stands_L34 h o0 v1 = some out) (HY : ykV T y out) : jEv xs d (240, 34, [(2, Int.ofNat o0), (0, v1)], []) (T, h) y :=
  jloop_sound (G := fun s : (Int × jH) => jEv xs d (240, 34, [(2, Int.ofNat o0), (0, s.1)], []) (T, s.2) y) (K := yk_M_stands_L34 T xs d y o0) (fun s out H HY => t_M_stands_B34 hd ho0 H HY) (fun s' hg => hg) (s := (v1, h)) H HY
set_option maxRecDepth 20000 in
noncomputable def M_stands_B7  (h : jH) (o0 : Nat) (v1 : Int) : Option ((Int × jH) ⊕ jH) := (if v1 < 5 then (if (0 : Int) ≤ v1 ∧ (v1 : Int).toNat < 10 then (if (0 : Int) ≤ (wr (5 + v1)) ∧ ((wr (5 + v1)) : Int).toNat < 10 then some (.inl ((wr (v1 + 1)), (jup h (o0 + 28) ((wr (5 + v1)) : Int).toNat (h (o0 + 28) (v1 : Int).toNat)))) else none) else none) else Option.map Sum.inr (M_stands_L34 h o0 0))
noncomputable def M_stands_L7  (h : jH) (o0 : Nat) (v1 : Int) : Option jH := jloop (fun s : (Int × jH) => M_stands_B7 s.2 o0 s.1) (v1, h)
set_option maxRecDepth 20000 in
theorem t_M_stands_B7 {T : jT} {xs : List Int} {d : Nat} {y : jV × jS} (hd : 3 ≤ d) {h : jH}  {o0 : Nat} {v1 : Int} {out : ((Int × jH) ⊕ jH)} (ho0 : isX12 T o0) (H : M_stands_B7 h o0 v1 = some out) (HY : yk_M_stands_L7 T xs d y o0 out) : jEv xs d (240, 7, [(2, Int.ofNat o0), (0, v1)], []) (T, h) y := by
  unfold M_stands_B7 at H
  refine jEv.blk [(.iload_n 1, 1, []), (.iconst 5, 1, [])] (by decide +kernel) (pc' := 9) (ls' := [(2, Int.ofNat o0), (0, v1)]) (st' := [(0, 5), (0, v1)]) rfl ?_
  refine jEv.ic_ge (t := 32) (show jfI 240 9 (.if_icmp .ge 23) 3 [] = true by decide +kernel) rfl H (fun c1 H => ?_) (fun c1 H => ?_)
  · refine jEv.blk [(.aload_n 0, 1, [])] (by decide +kernel) (pc' := 13) (ls' := [(2, Int.ofNat o0), (0, v1)]) (st' := [(2, Int.ofNat o0)]) rfl ?_
    refine jEv.gfR (o' := (o0 + 28)) (show jfI 240 13 (.getfield 96) 3 [12, 36, 5, 0, 7072] = true by decide +kernel) (isX12_L ho0) (by decide) (isX12_r36 ho0) ?_
    refine jEv.blk [(.iconst 5, 1, []), (.iload_n 1, 1, []), (.iadd, 1, []), (.aload_n 0, 1, [])] (by decide +kernel) (pc' := 20) (ls' := [(2, Int.ofNat o0), (0, v1)]) (st' := [(2, Int.ofNat o0), (0, (wr (5 + v1))), (2, Int.ofNat (o0 + 28))]) rfl ?_
    refine jEv.gfR (o' := (o0 + 28)) (show jfI 240 20 (.getfield 96) 3 [12, 36, 5, 0, 7072] = true by decide +kernel) (isX12_L ho0) (by decide) (isX12_r36 ho0) ?_
    refine jEv.blk [(.iload_n 1, 1, [])] (by decide +kernel) (pc' := 24) (ls' := [(2, Int.ofNat o0), (0, v1)]) (st' := [(0, v1), (2, Int.ofNat (o0 + 28)), (0, (wr (5 + v1))), (2, Int.ofNat (o0 + 28))]) rfl ?_
    refine jEv.ald (Or.inl ⟨rfl, rfl, rfl⟩) (show jfI 240 24 (.iaload) 1 [] = true by decide +kernel) (isX12_a36 ho0) H (fun c2 H => ?_)
    refine jEv.ast (Or.inl ⟨rfl, rfl, rfl⟩) (show jfI 240 25 (.iastore) 1 [] = true by decide +kernel) (isX12_a36 ho0) rfl H (fun c3 H => ?_)
    refine jEv.blk [(.iinc 1 1, 3, [])] (by decide +kernel) (pc' := 29) (ls' := [(2, Int.ofNat o0), (0, (wr (v1 + 1)))]) (st' := []) rfl ?_
    refine jEv.goto (t := 7) (show jfI 240 29 (.goto (-22)) 3 [] = true by decide +kernel) rfl ?_
    exact (by cases H; exact HY)
  · refine jmapr H HY (fun out H (HY : ykV T y out) => ?_)
    refine jEv.blk [(.iconst 0, 1, []), (.istore_n 1, 1, [])] (by decide +kernel) (pc' := 34) (ls' := [(2, Int.ofNat o0), (0, 0)]) (st' := []) rfl ?_
    exact t_M_stands_L34 (T := T) (xs := xs) (y := y) hd ho0 H HY
theorem t_M_stands_L7 {T : jT} {xs : List Int} {d : Nat} {y : jV × jS} (hd : 3 ≤ d) {h : jH}  {o0 : Nat} {v1 : Int} {out : jH} (ho0 : isX12 T o0) (H : M_stands_L7 h o0 v1 = some out) (HY : ykV T y out) : jEv xs d (240, 7, [(2, Int.ofNat o0), (0, v1)], []) (T, h) y :=
  jloop_sound (G := fun s : (Int × jH) => jEv xs d (240, 7, [(2, Int.ofNat o0), (0, s.1)], []) (T, s.2) y) (K := yk_M_stands_L7 T xs d y o0) (fun s out H HY => t_M_stands_B7 hd ho0 H HY) (fun s' hg => hg) (s := (v1, h)) H HY
set_option maxRecDepth 20000 in
noncomputable def M_stands  (h : jH) (o0 : Nat) : Option jH := M_stands_L7 (jup h o0 43 1) o0 0
set_option maxRecDepth 20000 in
theorem t_M_stands {T : jT} {xs : List Int} {h : jH}  {o0 : Nat} {out : jH} (ho0 : isX12 T o0) (H : M_stands h o0 = some out) : jEm xs 4 240 [(2, Int.ofNat o0)] (T, h) ((3, 0), (T, out)) := by
  have hd : 3 ≤ 3 := Nat.le_refl _
  obtain ⟨y, ey⟩ : ∃ y : jV × jS, y = ((3, 0), (T, out)) := ⟨_, rfl⟩
  rw [← ey]
  have HY : ykV T y out := ey
  refine jEm.ent (n := 2) (by decide +kernel) (Nat.le_of_ble_eq_true rfl) ?_
  show jEv xs 3 (240, 0, [(2, Int.ofNat o0), (3, 0)], []) (T, h) y
  unfold M_stands at H
  refine jEv.blk [(.aload_n 0, 1, []), (.iconst 1, 1, [])] (by decide +kernel) (pc' := 2) (ls' := [(2, Int.ofNat o0), (3, 0)]) (st' := [(0, 1), (2, Int.ofNat o0)]) rfl ?_
  refine jEv.pfZ (show jfI 240 2 (.putfield 340) 3 [12, 43, 0, 1, 7079] = true by decide +kernel) (isX12_L ho0) (by decide) (by decide) ?_
  refine jEv.blk [(.iconst 0, 1, []), (.istore_n 1, 1, [])] (by decide +kernel) (pc' := 7) (ls' := [(2, Int.ofNat o0), (0, 0)]) (st' := []) rfl ?_
  exact t_M_stands_L7 (T := T) (xs := xs) (y := y) hd ho0 H HY
def yk_M_journal_L81 (T : jT) (xs : List Int) (d : Nat) (y : jV × jS)  (o0 : Nat) : (jH ⊕ (Int × jH)) → Prop
  | .inl h => jEv xs d (203, 81, [(2, Int.ofNat o0), (3, 0)], []) (T, h) y
  | .inr o => ykI T y o
def yk_M_journal_L54 (T : jT) (xs : List Int) (d : Nat) (y : jV × jS)  (o0 : Nat) : ((Int × jH) ⊕ (Int × jH)) → Prop
  | .inl (v1, h) => jEv xs d (203, 54, [(2, Int.ofNat o0), (0, v1)], []) (T, h) y
  | .inr o => ykI T y o
set_option maxRecDepth 20000 in
noncomputable def M_journal_p103  (h : jH) (o0 : Nat) : Option (Int × jH) := (if ((jup (jup h o0 7 (h o0 5)) o0 8 ((jup h o0 7 (h o0 5)) o0 6)) o0 5) = 0 then Option.bind (M_stands (jup (jup h o0 7 (h o0 5)) o0 8 ((jup h o0 7 (h o0 5)) o0 6)) o0) (fun b11 => some ((b11 o0 42), b11)) else Option.bind (M_refuses (jup (jup h o0 7 (h o0 5)) o0 8 ((jup h o0 7 (h o0 5)) o0 6)) o0 1) (fun b12 => some (b12.1, b12.2)))
set_option maxRecDepth 20000 in
theorem t_M_journal_p103 {T : jT} {xs : List Int} {d : Nat} {y : jV × jS} (hd : 11 ≤ d) {h : jH}  {o0 : Nat} {out : (Int × jH)} (ho0 : isX12 T o0) (H : M_journal_p103 h o0 = some out) (HY : ykI T y out) : jEv xs d (203, 103, [(2, Int.ofNat o0), (3, 0)], []) (T, h) y := by
  unfold M_journal_p103 at H
  refine jEv.blk [(.aload_n 0, 1, []), (.aload_n 0, 1, [])] (by decide +kernel) (pc' := 105) (ls' := [(2, Int.ofNat o0), (3, 0)]) (st' := [(2, Int.ofNat o0), (2, Int.ofNat o0)]) rfl ?_
  refine jEv.gfI (show jfI 203 105 (.getfield 232) 3 [12, 5, 0, 0, 7041] = true by decide +kernel) (isX12_L ho0) (by decide) ?_
  refine jEv.pfI (show jfI 203 108 (.putfield 330) 3 [12, 7, 0, 0, 7043] = true by decide +kernel) (isX12_L ho0) (by decide) ?_
  refine jEv.blk [(.aload_n 0, 1, []), (.aload_n 0, 1, [])] (by decide +kernel) (pc' := 113) (ls' := [(2, Int.ofNat o0), (3, 0)]) (st' := [(2, Int.ofNat o0), (2, Int.ofNat o0)]) rfl ?_
  refine jEv.gfI (show jfI 203 113 (.getfield 235) 3 [12, 6, 0, 0, 7042] = true by decide +kernel) (isX12_L ho0) (by decide) ?_
  refine jEv.pfI (show jfI 203 116 (.putfield 13) 3 [12, 8, 0, 0, 7044] = true by decide +kernel) (isX12_L ho0) (by decide) ?_
  refine jEv.blk [(.aload_n 0, 1, [])] (by decide +kernel) (pc' := 120) (ls' := [(2, Int.ofNat o0), (3, 0)]) (st' := [(2, Int.ofNat o0)]) rfl ?_
  refine jEv.gfI (show jfI 203 120 (.getfield 232) 3 [12, 5, 0, 0, 7041] = true by decide +kernel) (isX12_L ho0) (by decide) ?_
  refine jEv.if_eq (t := 132) (show jfI 203 123 (.ifCond .eq 9) 3 [] = true by decide +kernel) rfl H (fun c10 H => ?_) (fun c10 H => ?_)
  · refine jEv.blk [(.aload_n 0, 1, [])] (by decide +kernel) (pc' := 133) (ls' := [(2, Int.ofNat o0), (3, 0)]) (st' := [(2, Int.ofNat o0)]) rfl ?_
    refine jbind H (fun b11 Hb11 H => ?_)
    refine jEv.calV (st' := []) (show jfI 203 133 (.invokevirtual 337) 3 [1, 240, 0, 9042] = true by decide +kernel) rfl (Or.inl rfl) rfl (Nat.le_of_ble_eq_true rfl) (by decide +kernel) (by decide) (isX12_L ho0) ((t_M_stands (T := T) (xs := xs) ho0 Hb11).mono (jKle 4 hd)) rfl ?_
    refine jEv.blk [(.aload_n 0, 1, [])] (by decide +kernel) (pc' := 137) (ls' := [(2, Int.ofNat o0), (3, 0)]) (st' := [(2, Int.ofNat o0)]) rfl ?_
    refine jEv.gfI (show jfI 203 137 (.getfield 315) 3 [12, 42, 0, 0, 7078] = true by decide +kernel) (isX12_L ho0) (by decide) ?_
    exact jEv.retI (show jfI 203 140 (.ireturn) 1 [] = true by decide +kernel) (by decide +kernel) (by cases H; exact HY)
  · refine jEv.blk [(.aload_n 0, 1, []), (.iconst 1, 1, [])] (by decide +kernel) (pc' := 128) (ls' := [(2, Int.ofNat o0), (3, 0)]) (st' := [(0, 1), (2, Int.ofNat o0)]) rfl ?_
    refine jbind H (fun b12 Hb12 H => ?_)
    refine jEv.calV (st' := [(0, b12.1)]) (show jfI 203 128 (.invokevirtual 333) 3 [1, 239, 1, 9038] = true by decide +kernel) rfl (Or.inl rfl) rfl (Nat.le_of_ble_eq_true rfl) (by decide +kernel) (by decide) (isX12_L ho0) ((t_M_refuses (T := T) (xs := xs) ho0 Hb12).mono (jKle 1 hd)) rfl ?_
    exact jEv.retI (show jfI 203 131 (.ireturn) 1 [] = true by decide +kernel) (by decide +kernel) (by cases H; exact HY)
set_option maxRecDepth 20000 in
noncomputable def M_journal_B81  (h : jH) (o0 : Nat) : Option (jH ⊕ (Int × jH)) := (if (h o0 5) = 0 then Option.bind (M_look h o0) (fun b7 => (if b7.1 = (-1) then Option.map Sum.inr (M_journal_p103 b7.2 o0) else Option.bind (M_statementTold b7.2 o0) (fun b9 => some (.inl (b9))))) else Option.map Sum.inr (M_journal_p103 h o0))
noncomputable def M_journal_L81  (h : jH) (o0 : Nat) : Option (Int × jH) := jloop (fun s : jH => M_journal_B81 s o0) (h)
set_option maxRecDepth 20000 in
theorem t_M_journal_B81 {T : jT} {xs : List Int} {d : Nat} {y : jV × jS} (hd : 11 ≤ d) {h : jH}  {o0 : Nat} {out : (jH ⊕ (Int × jH))} (ho0 : isX12 T o0) (H : M_journal_B81 h o0 = some out) (HY : yk_M_journal_L81 T xs d y o0 out) : jEv xs d (203, 81, [(2, Int.ofNat o0), (3, 0)], []) (T, h) y := by
  unfold M_journal_B81 at H
  refine jEv.blk [(.aload_n 0, 1, [])] (by decide +kernel) (pc' := 82) (ls' := [(2, Int.ofNat o0), (3, 0)]) (st' := [(2, Int.ofNat o0)]) rfl ?_
  refine jEv.gfI (show jfI 203 82 (.getfield 232) 3 [12, 5, 0, 0, 7041] = true by decide +kernel) (isX12_L ho0) (by decide) ?_
  refine jEv.if_ne (t := 103) (show jfI 203 85 (.ifCond .ne 18) 3 [] = true by decide +kernel) rfl H (fun c6 H => ?_) (fun c6 H => ?_)
  · refine jEv.blk [(.aload_n 0, 1, [])] (by decide +kernel) (pc' := 89) (ls' := [(2, Int.ofNat o0), (3, 0)]) (st' := [(2, Int.ofNat o0)]) rfl ?_
    refine jbind H (fun b7 Hb7 H => ?_)
    refine jEv.calV (st' := [(0, b7.1)]) (show jfI 203 89 (.invokevirtual 244) 3 [1, 208, 0, 8158] = true by decide +kernel) rfl (Or.inl rfl) rfl (Nat.le_of_ble_eq_true rfl) (by decide +kernel) (by decide) (isX12_L ho0) ((t_M_look (T := T) (xs := xs) ho0 Hb7).mono (jKle 1 hd)) rfl ?_
    refine jEv.blk [(.iconst (-1), 1, [])] (by decide +kernel) (pc' := 93) (ls' := [(2, Int.ofNat o0), (3, 0)]) (st' := [(0, (-1)), (0, b7.1)]) rfl ?_
    refine jEv.ic_eq (t := 103) (show jfI 203 93 (.if_icmp .eq 10) 3 [] = true by decide +kernel) rfl H (fun c8 H => ?_) (fun c8 H => ?_)
    · refine jmapr H HY (fun out H (HY : ykI T y out) => ?_)
      exact t_M_journal_p103 (T := T) (xs := xs) (y := y) hd ho0 H HY
    · refine jEv.blk [(.aload_n 0, 1, [])] (by decide +kernel) (pc' := 97) (ls' := [(2, Int.ofNat o0), (3, 0)]) (st' := [(2, Int.ofNat o0)]) rfl ?_
      refine jbind H (fun b9 Hb9 H => ?_)
      refine jEv.calV (st' := []) (show jfI 203 97 (.invokevirtual 327) 3 [1, 216, 0, 8187] = true by decide +kernel) rfl (Or.inl rfl) rfl (Nat.le_of_ble_eq_true rfl) (by decide +kernel) (by decide) (isX12_L ho0) ((t_M_statementTold (T := T) (xs := xs) ho0 Hb9).mono (jKle 11 hd)) rfl ?_
      refine jEv.goto (t := 81) (show jfI 203 100 (.goto (-19)) 3 [] = true by decide +kernel) rfl ?_
      exact (by cases H; exact HY)
  · refine jmapr H HY (fun out H (HY : ykI T y out) => ?_)
    exact t_M_journal_p103 (T := T) (xs := xs) (y := y) hd ho0 H HY
theorem t_M_journal_L81 {T : jT} {xs : List Int} {d : Nat} {y : jV × jS} (hd : 11 ≤ d) {h : jH}  {o0 : Nat} {out : (Int × jH)} (ho0 : isX12 T o0) (H : M_journal_L81 h o0 = some out) (HY : ykI T y out) : jEv xs d (203, 81, [(2, Int.ofNat o0), (3, 0)], []) (T, h) y :=
  jloop_sound (G := fun s : jH => jEv xs d (203, 81, [(2, Int.ofNat o0), (3, 0)], []) (T, s) y) (K := yk_M_journal_L81 T xs d y o0) (fun s out H HY => t_M_journal_B81 hd ho0 H HY) (fun s' hg => hg) (s := (h)) H HY
set_option maxRecDepth 20000 in
noncomputable def M_journal_B54  (h : jH) (o0 : Nat) (v1 : Int) : Option ((Int × jH) ⊕ (Int × jH)) := (if v1 < 2 then (if (0 : Int) ≤ v1 ∧ (v1 : Int).toNat < 4 then some (.inl ((wr (v1 + 1)), (jup h (o0 + 30) (v1 : Int).toNat (-1)))) else none) else Option.map Sum.inr (Option.bind (M_journalTold h o0) (fun b5 => M_journal_L81 (jup b5 o0 42 1) o0)))
noncomputable def M_journal_L54  (h : jH) (o0 : Nat) (v1 : Int) : Option (Int × jH) := jloop (fun s : (Int × jH) => M_journal_B54 s.2 o0 s.1) (v1, h)
set_option maxRecDepth 20000 in
theorem t_M_journal_B54 {T : jT} {xs : List Int} {d : Nat} {y : jV × jS} (hd : 11 ≤ d) {h : jH}  {o0 : Nat} {v1 : Int} {out : ((Int × jH) ⊕ (Int × jH))} (ho0 : isX12 T o0) (H : M_journal_B54 h o0 v1 = some out) (HY : yk_M_journal_L54 T xs d y o0 out) : jEv xs d (203, 54, [(2, Int.ofNat o0), (0, v1)], []) (T, h) y := by
  unfold M_journal_B54 at H
  refine jEv.blk [(.iload_n 1, 1, []), (.iconst 2, 1, [])] (by decide +kernel) (pc' := 56) (ls' := [(2, Int.ofNat o0), (0, v1)]) (st' := [(0, 2), (0, v1)]) rfl ?_
  refine jEv.ic_ge (t := 72) (show jfI 203 56 (.if_icmp .ge 16) 3 [] = true by decide +kernel) rfl H (fun c3 H => ?_) (fun c3 H => ?_)
  · refine jEv.blk [(.aload_n 0, 1, [])] (by decide +kernel) (pc' := 60) (ls' := [(2, Int.ofNat o0), (0, v1)]) (st' := [(2, Int.ofNat o0)]) rfl ?_
    refine jEv.gfR (o' := (o0 + 30)) (show jfI 203 60 (.getfield 102) 3 [12, 38, 5, 0, 7074] = true by decide +kernel) (isX12_L ho0) (by decide) (isX12_r38 ho0) ?_
    refine jEv.blk [(.iload_n 1, 1, []), (.iconst (-1), 1, [])] (by decide +kernel) (pc' := 65) (ls' := [(2, Int.ofNat o0), (0, v1)]) (st' := [(0, (-1)), (0, v1), (2, Int.ofNat (o0 + 30))]) rfl ?_
    refine jEv.ast (Or.inl ⟨rfl, rfl, rfl⟩) (show jfI 203 65 (.iastore) 1 [] = true by decide +kernel) (isX12_a38 ho0) rfl H (fun c4 H => ?_)
    refine jEv.blk [(.iinc 1 1, 3, [])] (by decide +kernel) (pc' := 69) (ls' := [(2, Int.ofNat o0), (0, (wr (v1 + 1)))]) (st' := []) rfl ?_
    refine jEv.goto (t := 54) (show jfI 203 69 (.goto (-15)) 3 [] = true by decide +kernel) rfl ?_
    exact (by cases H; exact HY)
  · refine jmapr H HY (fun out H (HY : ykI T y out) => ?_)
    refine jEv.blk [(.aload_n 0, 1, [])] (by decide +kernel) (pc' := 73) (ls' := [(2, Int.ofNat o0), (0, v1)]) (st' := [(2, Int.ofNat o0)]) rfl ?_
    refine jbind H (fun b5 Hb5 H => ?_)
    refine jEv.calV (st' := []) (show jfI 203 73 (.invokevirtual 324) 3 [1, 204, 0, 8142] = true by decide +kernel) rfl (Or.inl rfl) rfl (Nat.le_of_ble_eq_true rfl) (by decide +kernel) (by decide) (isX12_L ho0) ((t_M_journalTold (T := T) (xs := xs) ho0 Hb5).mono (jKle 5 hd)) rfl ?_
    refine jEv.blk [(.aload_n 0, 1, []), (.iconst 1, 1, [])] (by decide +kernel) (pc' := 78) (ls' := [(2, Int.ofNat o0), (0, v1)]) (st' := [(0, 1), (2, Int.ofNat o0)]) rfl ?_
    refine jEv.pfI (show jfI 203 78 (.putfield 315) 3 [12, 42, 0, 0, 7078] = true by decide +kernel) (isX12_L ho0) (by decide) ?_
    exact jEv.weak (a := [(2, Int.ofNat o0), (3, 0)]) (jles.c1 (jles.c0 jles.nl)) (t_M_journal_L81 (T := T) (xs := xs) (y := y) hd ho0 H HY)
theorem t_M_journal_L54 {T : jT} {xs : List Int} {d : Nat} {y : jV × jS} (hd : 11 ≤ d) {h : jH}  {o0 : Nat} {v1 : Int} {out : (Int × jH)} (ho0 : isX12 T o0) (H : M_journal_L54 h o0 v1 = some out) (HY : ykI T y out) : jEv xs d (203, 54, [(2, Int.ofNat o0), (0, v1)], []) (T, h) y :=
  jloop_sound (G := fun s : (Int × jH) => jEv xs d (203, 54, [(2, Int.ofNat o0), (0, s.1)], []) (T, s.2) y) (K := yk_M_journal_L54 T xs d y o0) (fun s out H HY => t_M_journal_B54 hd ho0 H HY) (fun s' hg => hg) (s := (v1, h)) H HY
set_option maxRecDepth 20000 in
noncomputable def M_journal  (h : jH) (o0 : Nat) : Option (Int × jH) := (if (0 : Int) ≤ 3 ∧ (3 : Int).toNat < 10 then (if (0 : Int) ≤ 4 ∧ (4 : Int).toNat < 10 then M_journal_L54 (jup (jup (jup (jup (jup (jup (jup (jup (jup h o0 3 (h o0 1)) o0 1 0) o0 2 0) o0 4 (-1)) o0 5 0) o0 6 (-1)) o0 41 0) (o0 + 28) (3 : Int).toNat 0) (o0 + 28) (4 : Int).toNat 0) o0 0 else none) else none)
set_option maxRecDepth 20000 in
theorem t_M_journal {T : jT} {xs : List Int} {h : jH}  {o0 : Nat} {out : (Int × jH)} (ho0 : isX12 T o0) (H : M_journal h o0 = some out) : jEm xs 12 203 [(2, Int.ofNat o0)] (T, h) ((0, out.1), (T, out.2)) := by
  have hd : 11 ≤ 11 := Nat.le_refl _
  obtain ⟨y, ey⟩ : ∃ y : jV × jS, y = ((0, out.1), (T, out.2)) := ⟨_, rfl⟩
  rw [← ey]
  have HY : ykI T y out := ey
  refine jEm.ent (n := 2) (by decide +kernel) (Nat.le_of_ble_eq_true rfl) ?_
  show jEv xs 11 (203, 0, [(2, Int.ofNat o0), (3, 0)], []) (T, h) y
  unfold M_journal at H
  refine jEv.blk [(.aload_n 0, 1, []), (.aload_n 0, 1, [])] (by decide +kernel) (pc' := 2) (ls' := [(2, Int.ofNat o0), (3, 0)]) (st' := [(2, Int.ofNat o0), (2, Int.ofNat o0)]) rfl ?_
  refine jEv.gfI (show jfI 203 2 (.getfield 229) 3 [12, 1, 0, 0, 7037] = true by decide +kernel) (isX12_L ho0) (by decide) ?_
  refine jEv.pfI (show jfI 203 5 (.putfield 241) 3 [12, 3, 0, 0, 7039] = true by decide +kernel) (isX12_L ho0) (by decide) ?_
  refine jEv.blk [(.aload_n 0, 1, []), (.iconst 0, 1, [])] (by decide +kernel) (pc' := 10) (ls' := [(2, Int.ofNat o0), (3, 0)]) (st' := [(0, 0), (2, Int.ofNat o0)]) rfl ?_
  refine jEv.pfI (show jfI 203 10 (.putfield 229) 3 [12, 1, 0, 0, 7037] = true by decide +kernel) (isX12_L ho0) (by decide) ?_
  refine jEv.blk [(.aload_n 0, 1, []), (.iconst 0, 1, [])] (by decide +kernel) (pc' := 15) (ls' := [(2, Int.ofNat o0), (3, 0)]) (st' := [(0, 0), (2, Int.ofNat o0)]) rfl ?_
  refine jEv.pfI (show jfI 203 15 (.putfield 238) 3 [12, 2, 0, 0, 7038] = true by decide +kernel) (isX12_L ho0) (by decide) ?_
  refine jEv.blk [(.aload_n 0, 1, []), (.iconst (-1), 1, [])] (by decide +kernel) (pc' := 20) (ls' := [(2, Int.ofNat o0), (3, 0)]) (st' := [(0, (-1)), (2, Int.ofNat o0)]) rfl ?_
  refine jEv.pfI (show jfI 203 20 (.putfield 252) 3 [12, 4, 0, 0, 7040] = true by decide +kernel) (isX12_L ho0) (by decide) ?_
  refine jEv.blk [(.aload_n 0, 1, []), (.iconst 0, 1, [])] (by decide +kernel) (pc' := 25) (ls' := [(2, Int.ofNat o0), (3, 0)]) (st' := [(0, 0), (2, Int.ofNat o0)]) rfl ?_
  refine jEv.pfI (show jfI 203 25 (.putfield 232) 3 [12, 5, 0, 0, 7041] = true by decide +kernel) (isX12_L ho0) (by decide) ?_
  refine jEv.blk [(.aload_n 0, 1, []), (.iconst (-1), 1, [])] (by decide +kernel) (pc' := 30) (ls' := [(2, Int.ofNat o0), (3, 0)]) (st' := [(0, (-1)), (2, Int.ofNat o0)]) rfl ?_
  refine jEv.pfI (show jfI 203 30 (.putfield 235) 3 [12, 6, 0, 0, 7042] = true by decide +kernel) (isX12_L ho0) (by decide) ?_
  refine jEv.blk [(.aload_n 0, 1, []), (.iconst 0, 1, [])] (by decide +kernel) (pc' := 35) (ls' := [(2, Int.ofNat o0), (3, 0)]) (st' := [(0, 0), (2, Int.ofNat o0)]) rfl ?_
  refine jEv.pfI (show jfI 203 35 (.putfield 312) 3 [12, 41, 0, 0, 7077] = true by decide +kernel) (isX12_L ho0) (by decide) ?_
  refine jEv.blk [(.aload_n 0, 1, [])] (by decide +kernel) (pc' := 39) (ls' := [(2, Int.ofNat o0), (3, 0)]) (st' := [(2, Int.ofNat o0)]) rfl ?_
  refine jEv.gfR (o' := (o0 + 28)) (show jfI 203 39 (.getfield 96) 3 [12, 36, 5, 0, 7072] = true by decide +kernel) (isX12_L ho0) (by decide) (isX12_r36 ho0) ?_
  refine jEv.blk [(.iconst 3, 1, []), (.iconst 0, 1, [])] (by decide +kernel) (pc' := 44) (ls' := [(2, Int.ofNat o0), (3, 0)]) (st' := [(0, 0), (0, 3), (2, Int.ofNat (o0 + 28))]) rfl ?_
  refine jEv.ast (Or.inl ⟨rfl, rfl, rfl⟩) (show jfI 203 44 (.iastore) 1 [] = true by decide +kernel) (isX12_a36 ho0) rfl H (fun c1 H => ?_)
  refine jEv.blk [(.aload_n 0, 1, [])] (by decide +kernel) (pc' := 46) (ls' := [(2, Int.ofNat o0), (3, 0)]) (st' := [(2, Int.ofNat o0)]) rfl ?_
  refine jEv.gfR (o' := (o0 + 28)) (show jfI 203 46 (.getfield 96) 3 [12, 36, 5, 0, 7072] = true by decide +kernel) (isX12_L ho0) (by decide) (isX12_r36 ho0) ?_
  refine jEv.blk [(.iconst 4, 1, []), (.iconst 0, 1, [])] (by decide +kernel) (pc' := 51) (ls' := [(2, Int.ofNat o0), (3, 0)]) (st' := [(0, 0), (0, 4), (2, Int.ofNat (o0 + 28))]) rfl ?_
  refine jEv.ast (Or.inl ⟨rfl, rfl, rfl⟩) (show jfI 203 51 (.iastore) 1 [] = true by decide +kernel) (isX12_a36 ho0) rfl H (fun c2 H => ?_)
  refine jEv.blk [(.iconst 0, 1, []), (.istore_n 1, 1, [])] (by decide +kernel) (pc' := 54) (ls' := [(2, Int.ofNat o0), (0, 0)]) (st' := []) rfl ?_
  exact t_M_journal_L54 (T := T) (xs := xs) (y := y) hd ho0 H HY
set_option maxRecDepth 20000 in
noncomputable def M_fault  (h : jH) (o0 : Nat) (v1 : Int) : Option Int := (if v1 = 0 then some (h o0 7) else (if v1 = 1 then some (h o0 8) else some (-1)))
set_option maxRecDepth 20000 in
theorem t_M_fault {T : jT} {xs : List Int} {h : jH}  {o0 : Nat} {v1 : Int} {out : Int} (ho0 : isX12 T o0) (H : M_fault h o0 v1 = some out) : jEm xs 1 252 [(2, Int.ofNat o0), (0, v1)] (T, h) ((0, out), (T, h)) := by
  have hd : 0 ≤ 0 := Nat.le_refl _
  obtain ⟨y, ey⟩ : ∃ y : jV × jS, y = ((0, out), (T, h)) := ⟨_, rfl⟩
  rw [← ey]
  have HY : ykIp T h y out := ey
  refine jEm.ent (n := 2) (by decide +kernel) (Nat.le_of_ble_eq_true rfl) ?_
  show jEv xs 0 (252, 0, [(2, Int.ofNat o0), (0, v1)], []) (T, h) y
  unfold M_fault at H
  refine jEv.blk [(.iload_n 1, 1, [])] (by decide +kernel) (pc' := 1) (ls' := [(2, Int.ofNat o0), (0, v1)]) (st' := [(0, v1)]) rfl ?_
  refine jEv.if_ne (t := 11) (show jfI 252 1 (.ifCond .ne 10) 3 [] = true by decide +kernel) rfl H (fun c1 H => ?_) (fun c1 H => ?_)
  · refine jEv.blk [(.aload_n 0, 1, [])] (by decide +kernel) (pc' := 5) (ls' := [(2, Int.ofNat o0), (0, v1)]) (st' := [(2, Int.ofNat o0)]) rfl ?_
    refine jEv.gfI (show jfI 252 5 (.getfield 330) 3 [12, 7, 0, 0, 7043] = true by decide +kernel) (isX12_L ho0) (by decide) ?_
    refine jEv.goto (t := 24) (show jfI 252 8 (.goto 16) 3 [] = true by decide +kernel) rfl ?_
    exact jEv.retI (show jfI 252 24 (.ireturn) 1 [] = true by decide +kernel) (by decide +kernel) (by cases H; exact HY)
  · refine jEv.blk [(.iload_n 1, 1, []), (.iconst 1, 1, [])] (by decide +kernel) (pc' := 13) (ls' := [(2, Int.ofNat o0), (0, v1)]) (st' := [(0, 1), (0, v1)]) rfl ?_
    refine jEv.ic_ne (t := 23) (show jfI 252 13 (.if_icmp .ne 10) 3 [] = true by decide +kernel) rfl H (fun c2 H => ?_) (fun c2 H => ?_)
    · refine jEv.blk [(.aload_n 0, 1, [])] (by decide +kernel) (pc' := 17) (ls' := [(2, Int.ofNat o0), (0, v1)]) (st' := [(2, Int.ofNat o0)]) rfl ?_
      refine jEv.gfI (show jfI 252 17 (.getfield 13) 3 [12, 8, 0, 0, 7044] = true by decide +kernel) (isX12_L ho0) (by decide) ?_
      refine jEv.goto (t := 24) (show jfI 252 20 (.goto 4) 3 [] = true by decide +kernel) rfl ?_
      exact jEv.retI (show jfI 252 24 (.ireturn) 1 [] = true by decide +kernel) (by decide +kernel) (by cases H; exact HY)
    · refine jEv.blk [(.iconst (-1), 1, [])] (by decide +kernel) (pc' := 24) (ls' := [(2, Int.ofNat o0), (0, v1)]) (st' := [(0, (-1))]) rfl ?_
      exact jEv.retI (show jfI 252 24 (.ireturn) 1 [] = true by decide +kernel) (by decide +kernel) (by cases H; exact HY)
set_option maxRecDepth 20000 in
noncomputable def M_segmentMany  (h : jH) (o0 : Nat) : Option Int := (if (0 : Int) ≤ 5 ∧ (5 : Int).toNat < 10 then some (h (o0 + 28) (5 : Int).toNat) else none)
set_option maxRecDepth 20000 in
theorem t_M_segmentMany {T : jT} {xs : List Int} {h : jH}  {o0 : Nat} {out : Int} (ho0 : isX12 T o0) (H : M_segmentMany h o0 = some out) : jEm xs 1 254 [(2, Int.ofNat o0)] (T, h) ((0, out), (T, h)) := by
  have hd : 0 ≤ 0 := Nat.le_refl _
  obtain ⟨y, ey⟩ : ∃ y : jV × jS, y = ((0, out), (T, h)) := ⟨_, rfl⟩
  rw [← ey]
  have HY : ykIp T h y out := ey
  refine jEm.ent (n := 1) (by decide +kernel) (Nat.le_of_ble_eq_true rfl) ?_
  show jEv xs 0 (254, 0, [(2, Int.ofNat o0)], []) (T, h) y
  unfold M_segmentMany at H
  refine jEv.blk [(.aload_n 0, 1, [])] (by decide +kernel) (pc' := 1) (ls' := [(2, Int.ofNat o0)]) (st' := [(2, Int.ofNat o0)]) rfl ?_
  refine jEv.gfR (o' := (o0 + 28)) (show jfI 254 1 (.getfield 96) 3 [12, 36, 5, 0, 7072] = true by decide +kernel) (isX12_L ho0) (by decide) (isX12_r36 ho0) ?_
  refine jEv.blk [(.iconst 5, 1, [])] (by decide +kernel) (pc' := 5) (ls' := [(2, Int.ofNat o0)]) (st' := [(0, 5), (2, Int.ofNat (o0 + 28))]) rfl ?_
  refine jEv.ald (Or.inl ⟨rfl, rfl, rfl⟩) (show jfI 254 5 (.iaload) 1 [] = true by decide +kernel) (isX12_a36 ho0) H (fun c1 H => ?_)
  exact jEv.retI (show jfI 254 6 (.ireturn) 1 [] = true by decide +kernel) (by decide +kernel) (by cases H; exact HY)
def yk_M_scarMany_L4 (T : jT) (xs : List Int) (d : Nat) (y : jV × jS) (h : jH)  (o0 : Nat) : ((Int × Int) ⊕ Int) → Prop
  | .inl (v1, v2) => jEv xs d (255, 4, [(2, Int.ofNat o0), (0, v1), (0, v2)], []) (T, h) y
  | .inr o => ykIp T h y o
set_option maxRecDepth 20000 in
noncomputable def M_scarMany_B4  (h : jH) (o0 : Nat) (v1 : Int) (v2 : Int) : Option ((Int × Int) ⊕ Int) := (if v2 < 512 then (if (0 : Int) ≤ (wr (196 + v2)) ∧ ((wr (196 + v2)) : Int).toNat < 2365 then some (.inl ((wr (v1 + (h (o0 + 33) ((wr (196 + v2)) : Int).toNat))), (wr (v2 + 1)))) else none) else Option.map Sum.inr (some v1))
noncomputable def M_scarMany_L4  (h : jH) (o0 : Nat) (v1 : Int) (v2 : Int) : Option Int := jloop (fun s : (Int × Int) => M_scarMany_B4 h o0 s.1 s.2) (v1, v2)
set_option maxRecDepth 20000 in
theorem t_M_scarMany_B4 {T : jT} {xs : List Int} {d : Nat} {y : jV × jS} (hd : 0 ≤ d) {h : jH}  {o0 : Nat} {v1 : Int} {v2 : Int} {out : ((Int × Int) ⊕ Int)} (ho0 : isX12 T o0) (H : M_scarMany_B4 h o0 v1 v2 = some out) (HY : yk_M_scarMany_L4 T xs d y h o0 out) : jEv xs d (255, 4, [(2, Int.ofNat o0), (0, v1), (0, v2)], []) (T, h) y := by
  unfold M_scarMany_B4 at H
  refine jEv.blk [(.iload_n 2, 1, []), (.sipush 512, 3, [])] (by decide +kernel) (pc' := 8) (ls' := [(2, Int.ofNat o0), (0, v1), (0, v2)]) (st' := [(0, 512), (0, v2)]) rfl ?_
  refine jEv.ic_ge (t := 30) (show jfI 255 8 (.if_icmp .ge 22) 3 [] = true by decide +kernel) rfl H (fun c1 H => ?_) (fun c1 H => ?_)
  · refine jEv.blk [(.iload_n 1, 1, []), (.aload_n 0, 1, [])] (by decide +kernel) (pc' := 13) (ls' := [(2, Int.ofNat o0), (0, v1), (0, v2)]) (st' := [(2, Int.ofNat o0), (0, v1)]) rfl ?_
    refine jEv.gfR (o' := (o0 + 33)) (show jfI 255 13 (.getfield 111) 3 [12, 45, 5, 0, 7081] = true by decide +kernel) (isX12_L ho0) (by decide) (isX12_r45 ho0) ?_
    refine jEv.blk [(.sipush 196, 3, []), (.iload_n 2, 1, []), (.iadd, 1, [])] (by decide +kernel) (pc' := 21) (ls' := [(2, Int.ofNat o0), (0, v1), (0, v2)]) (st' := [(0, (wr (196 + v2))), (2, Int.ofNat (o0 + 33)), (0, v1)]) rfl ?_
    refine jEv.ald (Or.inl ⟨rfl, rfl, rfl⟩) (show jfI 255 21 (.iaload) 1 [] = true by decide +kernel) (isX12_a45 ho0) H (fun c2 H => ?_)
    refine jEv.blk [(.iadd, 1, []), (.istore_n 1, 1, []), (.iinc 2 1, 3, [])] (by decide +kernel) (pc' := 27) (ls' := [(2, Int.ofNat o0), (0, (wr (v1 + (h (o0 + 33) ((wr (196 + v2)) : Int).toNat)))), (0, (wr (v2 + 1)))]) (st' := []) rfl ?_
    refine jEv.goto (t := 4) (show jfI 255 27 (.goto (-23)) 3 [] = true by decide +kernel) rfl ?_
    exact (by cases H; exact HY)
  · refine jmapr H HY (fun out H (HY : ykIp T h y out) => ?_)
    refine jEv.blk [(.iload_n 1, 1, [])] (by decide +kernel) (pc' := 31) (ls' := [(2, Int.ofNat o0), (0, v1), (0, v2)]) (st' := [(0, v1)]) rfl ?_
    exact jEv.retI (show jfI 255 31 (.ireturn) 1 [] = true by decide +kernel) (by decide +kernel) (by cases H; exact HY)
theorem t_M_scarMany_L4 {T : jT} {xs : List Int} {d : Nat} {y : jV × jS} (hd : 0 ≤ d) {h : jH}  {o0 : Nat} {v1 : Int} {v2 : Int} {out : Int} (ho0 : isX12 T o0) (H : M_scarMany_L4 h o0 v1 v2 = some out) (HY : ykIp T h y out) : jEv xs d (255, 4, [(2, Int.ofNat o0), (0, v1), (0, v2)], []) (T, h) y :=
  jloop_sound (G := fun s : (Int × Int) => jEv xs d (255, 4, [(2, Int.ofNat o0), (0, s.1), (0, s.2)], []) (T, h) y) (K := yk_M_scarMany_L4 T xs d y h o0) (fun s out H HY => t_M_scarMany_B4 hd ho0 H HY) (fun s' hg => hg) (s := (v1, v2)) H HY
set_option maxRecDepth 20000 in
noncomputable def M_scarMany  (h : jH) (o0 : Nat) : Option Int := M_scarMany_L4 h o0 0 0
set_option maxRecDepth 20000 in
theorem t_M_scarMany {T : jT} {xs : List Int} {h : jH}  {o0 : Nat} {out : Int} (ho0 : isX12 T o0) (H : M_scarMany h o0 = some out) : jEm xs 1 255 [(2, Int.ofNat o0)] (T, h) ((0, out), (T, h)) := by
  have hd : 0 ≤ 0 := Nat.le_refl _
  obtain ⟨y, ey⟩ : ∃ y : jV × jS, y = ((0, out), (T, h)) := ⟨_, rfl⟩
  rw [← ey]
  have HY : ykIp T h y out := ey
  refine jEm.ent (n := 3) (by decide +kernel) (Nat.le_of_ble_eq_true rfl) ?_
  show jEv xs 0 (255, 0, [(2, Int.ofNat o0), (3, 0), (3, 0)], []) (T, h) y
  unfold M_scarMany at H
  refine jEv.blk [(.iconst 0, 1, []), (.istore_n 1, 1, []), (.iconst 0, 1, []), (.istore_n 2, 1, [])] (by decide +kernel) (pc' := 4) (ls' := [(2, Int.ofNat o0), (0, 0), (0, 0)]) (st' := []) rfl ?_
  exact t_M_scarMany_L4 (T := T) (xs := xs) (y := y) hd ho0 H HY
