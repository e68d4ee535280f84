/-! methods as functions -/
set_option maxRecDepth 20000 in
noncomputable def Di_blank  (h : jH) (o0 : Nat) (o1 : Nat) : Option jH := some (jfill (jfill (jup (jup (jup h o0 2 (h o1 0)) o0 4 ((jup h o0 2 (h o1 0)) o1 2)) o0 3 (wr (((jup (jup h o0 2 (h o1 0)) o0 4 ((jup h o0 2 (h o1 0)) o1 2)) o1 1) * ((jup (jup h o0 2 (h o1 0)) o0 4 ((jup h o0 2 (h o1 0)) o1 2)) o1 2)))) (o0 + 1) 512 0) (o0 + 2) 512 0)
set_option maxRecDepth 20000 in
theorem t_Di_blank {T : jT} {xs : List Int} {h : jH}  {o0 : Nat} {o1 : Nat} {out : jH} (ho0 : isX0 T o0) (ho1 : isX6 T o1) (H : Di_blank h o0 o1 = some out) : jEm xs 2 2 [(2, Int.ofNat o0), (2, Int.ofNat o1)] (T, h) ((3, 0), (T, out)) := by
  have hd : 1 ≤ 1 := Nat.le_refl _
  obtain ⟨y, ey⟩ : ∃ y : jV × jS, y = ((3, 0), (T, out)) := ⟨_, rfl⟩
  rw [← ey]
  have HY : ykV T y out := ey
  refine jEm.ent (n := 2) (by decide +kernel) (Nat.le_of_ble_eq_true rfl) ?_
  show jEv xs 1 (2, 0, [(2, Int.ofNat o0), (2, Int.ofNat o1)], []) (T, h) y
  unfold Di_blank at H
  refine jEv.blk [(.aload_n 0, 1, []), (.aload_n 1, 1, [])] (by decide +kernel) (pc' := 2) (ls' := [(2, Int.ofNat o0), (2, Int.ofNat o1)]) (st' := [(2, Int.ofNat o1), (2, Int.ofNat o0)]) rfl ?_
  refine jEv.gfI (show jfI 2 2 (.getfield 18) 3 [6, 0, 0, 0, 1058] = true by decide +kernel) (isX6_L ho1) (by decide) ?_
  refine jEv.pfI (show jfI 2 5 (.putfield 24) 3 [0, 2, 0, 0, 1183] = true by decide +kernel) (isX0_L ho0) (by decide) ?_
  refine jEv.blk [(.aload_n 0, 1, []), (.aload_n 1, 1, [])] (by decide +kernel) (pc' := 10) (ls' := [(2, Int.ofNat o0), (2, Int.ofNat o1)]) (st' := [(2, Int.ofNat o1), (2, Int.ofNat o0)]) rfl ?_
  refine jEv.gfI (show jfI 2 10 (.getfield 25) 3 [6, 2, 0, 0, 1063] = true by decide +kernel) (isX6_L ho1) (by decide) ?_
  refine jEv.pfI (show jfI 2 13 (.putfield 27) 3 [0, 4, 0, 0, 1192] = true by decide +kernel) (isX0_L ho0) (by decide) ?_
  refine jEv.blk [(.aload_n 0, 1, []), (.aload_n 1, 1, [])] (by decide +kernel) (pc' := 18) (ls' := [(2, Int.ofNat o0), (2, Int.ofNat o1)]) (st' := [(2, Int.ofNat o1), (2, Int.ofNat o0)]) rfl ?_
  refine jEv.gfI (show jfI 2 18 (.getfield 30) 3 [6, 1, 0, 0, 1061] = true by decide +kernel) (isX6_L ho1) (by decide) ?_
  refine jEv.blk [(.aload_n 1, 1, [])] (by decide +kernel) (pc' := 22) (ls' := [(2, Int.ofNat o0), (2, Int.ofNat o1)]) (st' := [(2, Int.ofNat o1), (0, ((jup (jup h o0 2 (h o1 0)) o0 4 ((jup h o0 2 (h o1 0)) o1 2)) o1 1)), (2, Int.ofNat o0)]) rfl ?_
  refine jEv.gfI (show jfI 2 22 (.getfield 25) 3 [6, 2, 0, 0, 1063] = true by decide +kernel) (isX6_L ho1) (by decide) ?_
  refine jEv.blk [(.imul, 1, [])] (by decide +kernel) (pc' := 26) (ls' := [(2, Int.ofNat o0), (2, Int.ofNat o1)]) (st' := [(0, (wr (((jup (jup h o0 2 (h o1 0)) o0 4 ((jup h o0 2 (h o1 0)) o1 2)) o1 1) * ((jup (jup h o0 2 (h o1 0)) o0 4 ((jup h o0 2 (h o1 0)) o1 2)) o1 2)))), (2, Int.ofNat o0)]) rfl ?_
  refine jEv.pfI (show jfI 2 26 (.putfield 33) 3 [0, 3, 0, 0, 1188] = true by decide +kernel) (isX0_L ho0) (by decide) ?_
  refine jEv.blk [(.aload_n 0, 1, [])] (by decide +kernel) (pc' := 30) (ls' := [(2, Int.ofNat o0), (2, Int.ofNat o1)]) (st' := [(2, Int.ofNat o0)]) rfl ?_
  refine jEv.gfR (o' := (o0 + 1)) (show jfI 2 30 (.getfield 9) 3 [0, 0, 5, 0, 1180] = true by decide +kernel) (isX0_L ho0) (by decide) (isX0_r0 ho0) ?_
  refine jEv.blk [(.iconst 0, 1, [])] (by decide +kernel) (pc' := 34) (ls' := [(2, Int.ofNat o0), (2, Int.ofNat o1)]) (st' := [(0, 0), (2, Int.ofNat (o0 + 1))]) rfl ?_
  refine jEv.calS (st' := []) (show jfI 2 34 (.invokestatic 36) 3 [3, 359, 2, 4078] = true by decide +kernel) rfl (Or.inl rfl) rfl (Nat.le_of_ble_eq_true rfl) ((t_JArr_fill (xs := xs) (by decide) (isX0_a0 ho0)).mono (jKle 1 hd)) rfl ?_
  refine jEv.blk [(.aload_n 0, 1, [])] (by decide +kernel) (pc' := 38) (ls' := [(2, Int.ofNat o0), (2, Int.ofNat o1)]) (st' := [(2, Int.ofNat o0)]) rfl ?_
  refine jEv.gfR (o' := (o0 + 2)) (show jfI 2 38 (.getfield 15) 3 [0, 1, 5, 0, 1182] = true by decide +kernel) (isX0_L ho0) (by decide) (isX0_r1 ho0) ?_
  refine jEv.blk [(.iconst 0, 1, [])] (by decide +kernel) (pc' := 42) (ls' := [(2, Int.ofNat o0), (2, Int.ofNat o1)]) (st' := [(0, 0), (2, Int.ofNat (o0 + 2))]) rfl ?_
  refine jEv.calS (st' := []) (show jfI 2 42 (.invokestatic 36) 3 [3, 359, 2, 4078] = true by decide +kernel) rfl (Or.inl rfl) rfl (Nat.le_of_ble_eq_true rfl) ((t_JArr_fill (xs := xs) (by decide) (isX0_a1 ho0)).mono (jKle 1 hd)) rfl ?_
  exact jEv.retV (show jfI 2 45 (.return_) 1 [] = true by decide +kernel) (by decide +kernel) (by cases H; exact HY)
set_option maxRecDepth 20000 in
noncomputable def G_put  (h : jH) (r0 : Nat) (n0 : Nat) (v1 : Int) (v2 : Int) : Option jH := (if v1 < 0 then some h else (if v1 < ((n0 : Nat) : Int) then (if (0 : Int) ≤ v1 ∧ (v1 : Int).toNat < n0 then some (jup h r0 (v1 : Int).toNat v2) else none) else some h))
set_option maxRecDepth 20000 in
theorem t_G_put {T : jT} {xs : List Int} {h : jH}  {r0 : Nat} {n0 : Nat} {v1 : Int} {v2 : Int} {out : jH} (hr0 : T.1[r0]? = some (20, n0)) (H : G_put h r0 n0 v1 v2 = some out) : jEm xs 1 138 [(2, Int.ofNat r0), (0, v1), (0, v2)] (T, h) ((3, 0), (T, out)) := by
  have hd : 0 ≤ 0 := Nat.le_refl _
  obtain ⟨y, ey⟩ : ∃ y : jV × jS, y = ((3, 0), (T, out)) := ⟨_, rfl⟩
  rw [← ey]
  have HY : ykV T y out := ey
  refine jEm.ent (n := 3) (by decide +kernel) (Nat.le_of_ble_eq_true rfl) ?_
  show jEv xs 0 (138, 0, [(2, Int.ofNat r0), (0, v1), (0, v2)], []) (T, h) y
  unfold G_put at H
  refine jEv.blk [(.iload_n 1, 1, [])] (by decide +kernel) (pc' := 1) (ls' := [(2, Int.ofNat r0), (0, v1), (0, v2)]) (st' := [(0, v1)]) rfl ?_
  refine jEv.if_lt (t := 14) (show jfI 138 1 (.ifCond .lt 13) 3 [] = true by decide +kernel) rfl H (fun c1 H => ?_) (fun c1 H => ?_)
  · exact jEv.retV (show jfI 138 14 (.return_) 1 [] = true by decide +kernel) (by decide +kernel) (by cases H; exact HY)
  · refine jEv.blk [(.iload_n 1, 1, []), (.aload_n 0, 1, [])] (by decide +kernel) (pc' := 6) (ls' := [(2, Int.ofNat r0), (0, v1), (0, v2)]) (st' := [(2, Int.ofNat r0), (0, v1)]) rfl ?_
    refine jEv.alen (show jfI 138 6 (.arraylength) 1 [] = true by decide +kernel) hr0 (by decide) ?_
    refine jEv.ic_ge (t := 14) (show jfI 138 7 (.if_icmp .ge 7) 3 [] = true by decide +kernel) rfl H (fun c2 H => ?_) (fun c2 H => ?_)
    · refine jEv.blk [(.aload_n 0, 1, []), (.iload_n 1, 1, []), (.iload_n 2, 1, [])] (by decide +kernel) (pc' := 13) (ls' := [(2, Int.ofNat r0), (0, v1), (0, v2)]) (st' := [(0, v2), (0, v1), (2, Int.ofNat r0)]) rfl ?_
      refine jEv.ast (Or.inl ⟨rfl, rfl, rfl⟩) (show jfI 138 13 (.iastore) 1 [] = true by decide +kernel) hr0 rfl H (fun c3 H => ?_)
      exact jEv.retV (show jfI 138 14 (.return_) 1 [] = true by decide +kernel) (by decide +kernel) (by cases H; exact HY)
    · exact jEv.retV (show jfI 138 14 (.return_) 1 [] = true by decide +kernel) (by decide +kernel) (by cases H; exact HY)
set_option maxRecDepth 20000 in
noncomputable def Di_write  (h : jH) (o0 : Nat) (v1 : Int) (v2 : Int) : Option jH := Option.bind (G_put h (o0 + 1) 512 v1 v2) (fun b1 => Option.bind (G_put b1 (o0 + 2) 512 v1 0) (fun b2 => some b2))
set_option maxRecDepth 20000 in
theorem t_Di_write {T : jT} {xs : List Int} {h : jH}  {o0 : Nat} {v1 : Int} {v2 : Int} {out : jH} (ho0 : isX0 T o0) (H : Di_write h o0 v1 v2 = some out) : jEm xs 2 4 [(2, Int.ofNat o0), (0, v1), (0, v2)] (T, h) ((3, 0), (T, out)) := by
  have hd : 1 ≤ 1 := Nat.le_refl _
  obtain ⟨y, ey⟩ : ∃ y : jV × jS, y = ((3, 0), (T, out)) := ⟨_, rfl⟩
  rw [← ey]
  have HY : ykV T y out := ey
  refine jEm.ent (n := 3) (by decide +kernel) (Nat.le_of_ble_eq_true rfl) ?_
  show jEv xs 1 (4, 0, [(2, Int.ofNat o0), (0, v1), (0, v2)], []) (T, h) y
  unfold Di_write at H
  refine jEv.blk [(.aload_n 0, 1, [])] (by decide +kernel) (pc' := 1) (ls' := [(2, Int.ofNat o0), (0, v1), (0, v2)]) (st' := [(2, Int.ofNat o0)]) rfl ?_
  refine jEv.gfR (o' := (o0 + 1)) (show jfI 4 1 (.getfield 9) 3 [0, 0, 5, 0, 1180] = true by decide +kernel) (isX0_L ho0) (by decide) (isX0_r0 ho0) ?_
  refine jEv.blk [(.iload_n 1, 1, []), (.iload_n 2, 1, [])] (by decide +kernel) (pc' := 6) (ls' := [(2, Int.ofNat o0), (0, v1), (0, v2)]) (st' := [(0, v2), (0, v1), (2, Int.ofNat (o0 + 1))]) rfl ?_
  refine jbind H (fun b1 Hb1 H => ?_)
  refine jEv.calS (st' := []) (show jfI 4 6 (.invokestatic 46) 3 [4, 138, 3, 4107] = true by decide +kernel) rfl (Or.inr rfl) rfl (Nat.le_of_ble_eq_true rfl) ((t_G_put (T := T) (xs := xs) (isX0_a0 ho0) Hb1).mono (jKle 1 hd)) rfl ?_
  refine jEv.blk [(.aload_n 0, 1, [])] (by decide +kernel) (pc' := 10) (ls' := [(2, Int.ofNat o0), (0, v1), (0, v2)]) (st' := [(2, Int.ofNat o0)]) rfl ?_
  refine jEv.gfR (o' := (o0 + 2)) (show jfI 4 10 (.getfield 15) 3 [0, 1, 5, 0, 1182] = true by decide +kernel) (isX0_L ho0) (by decide) (isX0_r1 ho0) ?_
  refine jEv.blk [(.iload_n 1, 1, []), (.iconst 0, 1, [])] (by decide +kernel) (pc' := 15) (ls' := [(2, Int.ofNat o0), (0, v1), (0, v2)]) (st' := [(0, 0), (0, v1), (2, Int.ofNat (o0 + 2))]) rfl ?_
  refine jbind H (fun b2 Hb2 H => ?_)
  refine jEv.calS (st' := []) (show jfI 4 15 (.invokestatic 46) 3 [4, 138, 3, 4107] = true by decide +kernel) rfl (Or.inr rfl) rfl (Nat.le_of_ble_eq_true rfl) ((t_G_put (T := T) (xs := xs) (isX0_a1 ho0) Hb2).mono (jKle 1 hd)) rfl ?_
  exact jEv.retV (show jfI 4 18 (.return_) 1 [] = true by decide +kernel) (by decide +kernel) (by cases H; exact HY)
def yk_G_checkOf_L6 (T : jT) (xs : List Int) (d : Nat) (y : jV × jS) (h : jH)  (r1 : Nat) (n1 : Nat) (v3 : Int) : ((Int × Int) ⊕ Int) → Prop
  | .inl (v4, v5) => jEv xs d (145, 6, [(3, 0), (2, Int.ofNat r1), (3, 0), (0, v3), (0, v4), (0, v5), (3, 0)], []) (T, h) y
  | .inr o => ykIp T h y o
set_option maxRecDepth 20000 in
noncomputable def G_checkOf_p32  (h : jH) (r1 : Nat) (n1 : Nat) (v3 : Int) (v4 : Int) (v5 : Int) (vs0 : Int) : Option ((Int × Int) ⊕ Int) := some (.inl ((Int.tmod (wr ((wr (3 * v4)) + vs0)) 251), (wr (v5 + 1))))
set_option maxRecDepth 20000 in
theorem t_G_checkOf_p32 {T : jT} {xs : List Int} {d : Nat} {y : jV × jS} (hd : 0 ≤ d) {h : jH}  {r1 : Nat} {n1 : Nat} {v3 : Int} {v4 : Int} {v5 : Int} {vs0 : Int} {out : ((Int × Int) ⊕ Int)} (hr1 : T.1[r1]? = some (20, n1)) (H : G_checkOf_p32 h r1 n1 v3 v4 v5 vs0 = some out) (HY : yk_G_checkOf_L6 T xs d y h r1 n1 v3 out) : jEv xs d (145, 32, [(3, 0), (2, Int.ofNat r1), (3, 0), (0, v3), (0, v4), (0, v5), (3, 0)], [(0, vs0)]) (T, h) y := by
  unfold G_checkOf_p32 at H
  refine jEv.blk [(.istore 6, 2, []), (.iconst 3, 1, []), (.iload 4, 2, []), (.imul, 1, []), (.iload 6, 2, []), (.iadd, 1, []), (.sipush 251, 3, [])] (by decide +kernel) (pc' := 44) (ls' := [(3, 0), (2, Int.ofNat r1), (3, 0), (0, v3), (0, v4), (0, v5), (0, vs0)]) (st' := [(0, 251), (0, (wr ((wr (3 * v4)) + vs0)))]) rfl ?_
  refine jEv.irem (show jfI 145 44 (.irem) 1 [] = true by decide +kernel) (by decide) ?_
  refine jEv.blk [(.istore 4, 2, []), (.iinc 5 1, 3, [])] (by decide +kernel) (pc' := 50) (ls' := [(3, 0), (2, Int.ofNat r1), (3, 0), (0, v3), (0, (Int.tmod (wr ((wr (3 * v4)) + vs0)) 251)), (0, (wr (v5 + 1))), (0, vs0)]) (st' := []) rfl ?_
  refine jEv.goto (t := 6) (show jfI 145 50 (.goto (-44)) 3 [] = true by decide +kernel) rfl ?_
  exact jEv.weak (a := [(3, 0), (2, Int.ofNat r1), (3, 0), (0, v3), (0, (Int.tmod (wr ((wr (3 * v4)) + vs0)) 251)), (0, (wr (v5 + 1))), (3, 0)]) (jles.c0 (jles.c1 (jles.c0 (jles.c1 (jles.c1 (jles.c1 (jles.c0 jles.nl))))))) ((by cases H; exact HY))
set_option maxRecDepth 20000 in
noncomputable def G_checkOf_p31  (h : jH) (r1 : Nat) (n1 : Nat) (v3 : Int) (v4 : Int) (v5 : Int) : Option ((Int × Int) ⊕ Int) := G_checkOf_p32 h r1 n1 v3 v4 v5 0
set_option maxRecDepth 20000 in
theorem t_G_checkOf_p31 {T : jT} {xs : List Int} {d : Nat} {y : jV × jS} (hd : 0 ≤ d) {h : jH}  {r1 : Nat} {n1 : Nat} {v3 : Int} {v4 : Int} {v5 : Int} {out : ((Int × Int) ⊕ Int)} (hr1 : T.1[r1]? = some (20, n1)) (H : G_checkOf_p31 h r1 n1 v3 v4 v5 = some out) (HY : yk_G_checkOf_L6 T xs d y h r1 n1 v3 out) : jEv xs d (145, 31, [(3, 0), (2, Int.ofNat r1), (3, 0), (0, v3), (0, v4), (0, v5), (3, 0)], []) (T, h) y := by
  unfold G_checkOf_p31 at H
  refine jEv.blk [(.iconst 0, 1, [])] (by decide +kernel) (pc' := 32) (ls' := [(3, 0), (2, Int.ofNat r1), (3, 0), (0, v3), (0, v4), (0, v5), (3, 0)]) (st' := [(0, 0)]) rfl ?_
  exact t_G_checkOf_p32 (T := T) (xs := xs) (y := y) hd hr1 H HY
set_option maxRecDepth 20000 in
noncomputable def G_checkOf_B6  (h : jH) (r1 : Nat) (n1 : Nat) (v3 : Int) (v4 : Int) (v5 : Int) : Option ((Int × Int) ⊕ Int) := (if v5 < v3 then (if v5 < 0 then G_checkOf_p31 h r1 n1 v3 v4 v5 else (if v5 < ((n1 : Nat) : Int) then (if (0 : Int) ≤ v5 ∧ (v5 : Int).toNat < n1 then G_checkOf_p32 h r1 n1 v3 v4 v5 (h r1 (v5 : Int).toNat) else none) else G_checkOf_p31 h r1 n1 v3 v4 v5)) else Option.map Sum.inr (some v4))
noncomputable def G_checkOf_L6  (h : jH) (r1 : Nat) (n1 : Nat) (v3 : Int) (v4 : Int) (v5 : Int) : Option Int := jloop (fun s : (Int × Int) => G_checkOf_B6 h r1 n1 v3 s.1 s.2) (v4, v5)
set_option maxRecDepth 20000 in
theorem t_G_checkOf_B6 {T : jT} {xs : List Int} {d : Nat} {y : jV × jS} (hd : 0 ≤ d) {h : jH}  {r1 : Nat} {n1 : Nat} {v3 : Int} {v4 : Int} {v5 : Int} {out : ((Int × Int) ⊕ Int)} (hr1 : T.1[r1]? = some (20, n1)) (H : G_checkOf_B6 h r1 n1 v3 v4 v5 = some out) (HY : yk_G_checkOf_L6 T xs d y h r1 n1 v3 out) : jEv xs d (145, 6, [(3, 0), (2, Int.ofNat r1), (3, 0), (0, v3), (0, v4), (0, v5), (3, 0)], []) (T, h) y := by
  unfold G_checkOf_B6 at H
  refine jEv.blk [(.iload 5, 2, []), (.iload_n 3, 1, [])] (by decide +kernel) (pc' := 9) (ls' := [(3, 0), (2, Int.ofNat r1), (3, 0), (0, v3), (0, v4), (0, v5), (3, 0)]) (st' := [(0, v3), (0, v5)]) rfl ?_
  refine jEv.ic_ge (t := 53) (show jfI 145 9 (.if_icmp .ge 44) 3 [] = true by decide +kernel) rfl H (fun c1 H => ?_) (fun c1 H => ?_)
  · refine jEv.blk [(.iload 5, 2, [])] (by decide +kernel) (pc' := 14) (ls' := [(3, 0), (2, Int.ofNat r1), (3, 0), (0, v3), (0, v4), (0, v5), (3, 0)]) (st' := [(0, v5)]) rfl ?_
    refine jEv.if_lt (t := 31) (show jfI 145 14 (.ifCond .lt 17) 3 [] = true by decide +kernel) rfl H (fun c2 H => ?_) (fun c2 H => ?_)
    · exact t_G_checkOf_p31 (T := T) (xs := xs) (y := y) hd hr1 H HY
    · refine jEv.blk [(.iload 5, 2, []), (.aload_n 1, 1, [])] (by decide +kernel) (pc' := 20) (ls' := [(3, 0), (2, Int.ofNat r1), (3, 0), (0, v3), (0, v4), (0, v5), (3, 0)]) (st' := [(2, Int.ofNat r1), (0, v5)]) rfl ?_
      refine jEv.alen (show jfI 145 20 (.arraylength) 1 [] = true by decide +kernel) hr1 (by decide) ?_
      refine jEv.ic_ge (t := 31) (show jfI 145 21 (.if_icmp .ge 10) 3 [] = true by decide +kernel) rfl H (fun c3 H => ?_) (fun c3 H => ?_)
      · refine jEv.blk [(.aload_n 1, 1, []), (.iload 5, 2, [])] (by decide +kernel) (pc' := 27) (ls' := [(3, 0), (2, Int.ofNat r1), (3, 0), (0, v3), (0, v4), (0, v5), (3, 0)]) (st' := [(0, v5), (2, Int.ofNat r1)]) rfl ?_
        refine jEv.ald (Or.inl ⟨rfl, rfl, rfl⟩) (show jfI 145 27 (.iaload) 1 [] = true by decide +kernel) hr1 H (fun c4 H => ?_)
        refine jEv.goto (t := 32) (show jfI 145 28 (.goto 4) 3 [] = true by decide +kernel) rfl ?_
        exact t_G_checkOf_p32 (T := T) (xs := xs) (y := y) hd hr1 H HY
      · exact t_G_checkOf_p31 (T := T) (xs := xs) (y := y) hd hr1 H HY
  · refine jmapr H HY (fun out H (HY : ykIp T h y out) => ?_)
    refine jEv.blk [(.iload 4, 2, [])] (by decide +kernel) (pc' := 55) (ls' := [(3, 0), (2, Int.ofNat r1), (3, 0), (0, v3), (0, v4), (0, v5), (3, 0)]) (st' := [(0, v4)]) rfl ?_
    exact jEv.retI (show jfI 145 55 (.ireturn) 1 [] = true by decide +kernel) (by decide +kernel) (by cases H; exact HY)
theorem t_G_checkOf_L6 {T : jT} {xs : List Int} {d : Nat} {y : jV × jS} (hd : 0 ≤ d) {h : jH}  {r1 : Nat} {n1 : Nat} {v3 : Int} {v4 : Int} {v5 : Int} {out : Int} (hr1 : T.1[r1]? = some (20, n1)) (H : G_checkOf_L6 h r1 n1 v3 v4 v5 = some out) (HY : ykIp T h y out) : jEv xs d (145, 6, [(3, 0), (2, Int.ofNat r1), (3, 0), (0, v3), (0, v4), (0, v5), (3, 0)], []) (T, h) y :=
  jloop_sound (G := fun s : (Int × Int) => jEv xs d (145, 6, [(3, 0), (2, Int.ofNat r1), (3, 0), (0, v3), (0, s.1), (0, s.2), (3, 0)], []) (T, h) y) (K := yk_G_checkOf_L6 T xs d y h r1 n1 v3) (fun s out H HY => t_G_checkOf_B6 hd hr1 H HY) (fun s' hg => hg) (s := (v4, v5)) H HY
set_option maxRecDepth 20000 in
noncomputable def G_checkOf  (h : jH) (v0 : Int) (r1 : Nat) (n1 : Nat) (v2 : Int) (v3 : Int) : Option Int := G_checkOf_L6 h r1 n1 v3 v0 v2
set_option maxRecDepth 20000 in
theorem t_G_checkOf {T : jT} {xs : List Int} {h : jH}  {v0 : Int} {r1 : Nat} {n1 : Nat} {v2 : Int} {v3 : Int} {out : Int} (hr1 : T.1[r1]? = some (20, n1)) (H : G_checkOf h v0 r1 n1 v2 v3 = some out) : jEm xs 1 145 [(0, v0), (2, Int.ofNat r1), (0, v2), (0, v3)] (T, h) ((0, out), (T, h)) := by
  have hd : 0 ≤ 0 := Nat.le_refl _
  obtain ⟨y, ey⟩ : ∃ y : jV × jS, y = ((0, out), (T, h)) := ⟨_, rfl⟩
  rw [← ey]
  have HY : ykIp T h y out := ey
  refine jEm.ent (n := 7) (by decide +kernel) (Nat.le_of_ble_eq_true rfl) ?_
  show jEv xs 0 (145, 0, [(0, v0), (2, Int.ofNat r1), (0, v2), (0, v3), (3, 0), (3, 0), (3, 0)], []) (T, h) y
  unfold G_checkOf at H
  refine jEv.blk [(.iload_n 0, 1, []), (.istore 4, 2, []), (.iload_n 2, 1, []), (.istore 5, 2, [])] (by decide +kernel) (pc' := 6) (ls' := [(0, v0), (2, Int.ofNat r1), (0, v2), (0, v3), (0, v0), (0, v2), (3, 0)]) (st' := []) rfl ?_
  exact jEv.weak (a := [(3, 0), (2, Int.ofNat r1), (3, 0), (0, v3), (0, v0), (0, v2), (3, 0)]) (jles.c0 (jles.c1 (jles.c0 (jles.c1 (jles.c1 (jles.c1 (jles.c0 jles.nl))))))) (t_G_checkOf_L6 (T := T) (xs := xs) (y := y) hd hr1 H HY)
set_option maxRecDepth 20000 in
noncomputable def Di_writeHead  (h : jH) (o0 : Nat) (v1 : Int) (v2 : Int) (v3 : Int) : Option jH := Option.bind (Di_write h o0 (wr (v1 * (h o0 3))) (jand (jshr v2 8) 255)) (fun b1 => Option.bind (Di_write b1 o0 (wr ((wr (v1 * (h o0 3))) + 1)) (jand v2 255)) (fun b2 => Option.bind (Di_write b2 o0 (wr ((wr (v1 * (h o0 3))) + 2)) (jand (jshr v3 8) 255)) (fun b3 => Option.bind (Di_write b3 o0 (wr ((wr (v1 * (h o0 3))) + 3)) (jand v3 255)) (fun b4 => Option.bind (G_checkOf b4 7 (o0 + 1) 512 (wr (v1 * (h o0 3))) (wr ((wr (v1 * (h o0 3))) + 4))) (fun b5 => Option.bind (Di_write b4 o0 (wr ((wr (v1 * (h o0 3))) + 4)) b5) (fun b6 => some b6))))))
set_option maxRecDepth 20000 in
theorem t_Di_writeHead {T : jT} {xs : List Int} {h : jH}  {o0 : Nat} {v1 : Int} {v2 : Int} {v3 : Int} {out : jH} (ho0 : isX0 T o0) (H : Di_writeHead h o0 v1 v2 v3 = some out) : jEm xs 3 3 [(2, Int.ofNat o0), (0, v1), (0, v2), (0, v3)] (T, h) ((3, 0), (T, out)) := by
  have hd : 2 ≤ 2 := Nat.le_refl _
  obtain ⟨y, ey⟩ : ∃ y : jV × jS, y = ((3, 0), (T, out)) := ⟨_, rfl⟩
  rw [← ey]
  have HY : ykV T y out := ey
  refine jEm.ent (n := 5) (by decide +kernel) (Nat.le_of_ble_eq_true rfl) ?_
  show jEv xs 2 (3, 0, [(2, Int.ofNat o0), (0, v1), (0, v2), (0, v3), (3, 0)], []) (T, h) y
  unfold Di_writeHead at H
  refine jEv.blk [(.iload_n 1, 1, []), (.aload_n 0, 1, [])] (by decide +kernel) (pc' := 2) (ls' := [(2, Int.ofNat o0), (0, v1), (0, v2), (0, v3), (3, 0)]) (st' := [(2, Int.ofNat o0), (0, v1)]) rfl ?_
  refine jEv.gfI (show jfI 3 2 (.getfield 33) 3 [0, 3, 0, 0, 1188] = true by decide +kernel) (isX0_L ho0) (by decide) ?_
  refine jEv.blk [(.imul, 1, []), (.istore 4, 2, []), (.aload_n 0, 1, []), (.iload 4, 2, []), (.iload_n 2, 1, []), (.bipush 8, 2, []), (.ishr, 1, []), (.sipush 255, 3, []), (.iand, 1, [])] (by decide +kernel) (pc' := 19) (ls' := [(2, Int.ofNat o0), (0, v1), (0, v2), (0, v3), (0, (wr (v1 * (h o0 3))))]) (st' := [(0, (jand (jshr v2 8) 255)), (0, (wr (v1 * (h o0 3)))), (2, Int.ofNat o0)]) rfl ?_
  refine jbind H (fun b1 Hb1 H => ?_)
  refine jEv.calV (st' := []) (show jfI 3 19 (.invokevirtual 58) 3 [1, 4, 2, 4103] = true by decide +kernel) rfl (Or.inl rfl) rfl (Nat.le_of_ble_eq_true rfl) (by decide +kernel) (by decide) (isX0_L ho0) ((t_Di_write (T := T) (xs := xs) ho0 Hb1).mono (jKle 2 hd)) rfl ?_
  refine jEv.blk [(.aload_n 0, 1, []), (.iload 4, 2, []), (.iconst 1, 1, []), (.iadd, 1, []), (.iload_n 2, 1, []), (.sipush 255, 3, []), (.iand, 1, [])] (by decide +kernel) (pc' := 32) (ls' := [(2, Int.ofNat o0), (0, v1), (0, v2), (0, v3), (0, (wr (v1 * (h o0 3))))]) (st' := [(0, (jand v2 255)), (0, (wr ((wr (v1 * (h o0 3))) + 1))), (2, Int.ofNat o0)]) rfl ?_
  refine jbind H (fun b2 Hb2 H => ?_)
  refine jEv.calV (st' := []) (show jfI 3 32 (.invokevirtual 58) 3 [1, 4, 2, 4103] = true by decide +kernel) rfl (Or.inl rfl) rfl (Nat.le_of_ble_eq_true rfl) (by decide +kernel) (by decide) (isX0_L ho0) ((t_Di_write (T := T) (xs := xs) ho0 Hb2).mono (jKle 2 hd)) rfl ?_
  refine jEv.blk [(.aload_n 0, 1, []), (.iload 4, 2, []), (.iconst 2, 1, []), (.iadd, 1, []), (.iload_n 3, 1, []), (.bipush 8, 2, []), (.ishr, 1, []), (.sipush 255, 3, []), (.iand, 1, [])] (by decide +kernel) (pc' := 48) (ls' := [(2, Int.ofNat o0), (0, v1), (0, v2), (0, v3), (0, (wr (v1 * (h o0 3))))]) (st' := [(0, (jand (jshr v3 8) 255)), (0, (wr ((wr (v1 * (h o0 3))) + 2))), (2, Int.ofNat o0)]) rfl ?_
  refine jbind H (fun b3 Hb3 H => ?_)
  refine jEv.calV (st' := []) (show jfI 3 48 (.invokevirtual 58) 3 [1, 4, 2, 4103] = true by decide +kernel) rfl (Or.inl rfl) rfl (Nat.le_of_ble_eq_true rfl) (by decide +kernel) (by decide) (isX0_L ho0) ((t_Di_write (T := T) (xs := xs) ho0 Hb3).mono (jKle 2 hd)) rfl ?_
  refine jEv.blk [(.aload_n 0, 1, []), (.iload 4, 2, []), (.iconst 3, 1, []), (.iadd, 1, []), (.iload_n 3, 1, []), (.sipush 255, 3, []), (.iand, 1, [])] (by decide +kernel) (pc' := 61) (ls' := [(2, Int.ofNat o0), (0, v1), (0, v2), (0, v3), (0, (wr (v1 * (h o0 3))))]) (st' := [(0, (jand v3 255)), (0, (wr ((wr (v1 * (h o0 3))) + 3))), (2, Int.ofNat o0)]) rfl ?_
  refine jbind H (fun b4 Hb4 H => ?_)
  refine jEv.calV (st' := []) (show jfI 3 61 (.invokevirtual 58) 3 [1, 4, 2, 4103] = true by decide +kernel) rfl (Or.inl rfl) rfl (Nat.le_of_ble_eq_true rfl) (by decide +kernel) (by decide) (isX0_L ho0) ((t_Di_write (T := T) (xs := xs) ho0 Hb4).mono (jKle 2 hd)) rfl ?_
  refine jEv.blk [(.aload_n 0, 1, []), (.iload 4, 2, []), (.iconst 4, 1, []), (.iadd, 1, []), (.bipush 7, 2, []), (.aload_n 0, 1, [])] (by decide +kernel) (pc' := 72) (ls' := [(2, Int.ofNat o0), (0, v1), (0, v2), (0, v3), (0, (wr (v1 * (h o0 3))))]) (st' := [(2, Int.ofNat o0), (0, 7), (0, (wr ((wr (v1 * (h o0 3))) + 4))), (2, Int.ofNat o0)]) rfl ?_
  refine jEv.gfR (o' := (o0 + 1)) (show jfI 3 72 (.getfield 9) 3 [0, 0, 5, 0, 1180] = true by decide +kernel) (isX0_L ho0) (by decide) (isX0_r0 ho0) ?_
  refine jEv.blk [(.iload 4, 2, []), (.iload 4, 2, []), (.iconst 4, 1, []), (.iadd, 1, [])] (by decide +kernel) (pc' := 81) (ls' := [(2, Int.ofNat o0), (0, v1), (0, v2), (0, v3), (0, (wr (v1 * (h o0 3))))]) (st' := [(0, (wr ((wr (v1 * (h o0 3))) + 4))), (0, (wr (v1 * (h o0 3)))), (2, Int.ofNat (o0 + 1)), (0, 7), (0, (wr ((wr (v1 * (h o0 3))) + 4))), (2, Int.ofNat o0)]) rfl ?_
  refine jbind H (fun b5 Hb5 H => ?_)
  refine jEv.calS (st' := [(0, b5), (0, (wr ((wr (v1 * (h o0 3))) + 4))), (2, Int.ofNat o0)]) (show jfI 3 81 (.invokestatic 62) 3 [4, 145, 4, 4108] = true by decide +kernel) rfl (Or.inr rfl) rfl (Nat.le_of_ble_eq_true rfl) ((t_G_checkOf (T := T) (xs := xs) (isX0_a0 ho0) Hb5).mono (jKle 1 hd)) rfl ?_
  refine jbind H (fun b6 Hb6 H => ?_)
  refine jEv.calV (st' := []) (show jfI 3 84 (.invokevirtual 58) 3 [1, 4, 2, 4103] = true by decide +kernel) rfl (Or.inl rfl) rfl (Nat.le_of_ble_eq_true rfl) (by decide +kernel) (by decide) (isX0_L ho0) ((t_Di_write (T := T) (xs := xs) ho0 Hb6).mono (jKle 2 hd)) rfl ?_
  exact jEv.retV (show jfI 3 87 (.return_) 1 [] = true by decide +kernel) (by decide +kernel) (by cases H; exact HY)
set_option maxRecDepth 20000 in
noncomputable def Di_blockEnd  (h : jH) (o0 : Nat) (v1 : Int) : Option Int := (if 0 < (h o0 4) then (if (h o0 4) ≠ 0 then some (wr ((wr ((wr (Int.tdiv v1 (h o0 4))) + 1)) * (h o0 4))) else none) else some (h o0 3))
set_option maxRecDepth 20000 in
theorem t_Di_blockEnd {T : jT} {xs : List Int} {h : jH}  {o0 : Nat} {v1 : Int} {out : Int} (ho0 : isX0 T o0) (H : Di_blockEnd h o0 v1 = some out) : jEm xs 1 6 [(2, Int.ofNat o0), (0, v1)] (T, h) ((0, out), (T, h)) := by
  have hd : 0 ≤ 0 := Nat.le_refl _
  obtain ⟨y, ey⟩ : ∃ y : jV × jS, y = ((0, out), (T, h)) := ⟨_, rfl⟩
  rw [← ey]
  have HY : ykIp T h y out := ey
  refine jEm.ent (n := 2) (by decide +kernel) (Nat.le_of_ble_eq_true rfl) ?_
  show jEv xs 0 (6, 0, [(2, Int.ofNat o0), (0, v1)], []) (T, h) y
  unfold Di_blockEnd at H
  refine jEv.blk [(.aload_n 0, 1, [])] (by decide +kernel) (pc' := 1) (ls' := [(2, Int.ofNat o0), (0, v1)]) (st' := [(2, Int.ofNat o0)]) rfl ?_
  refine jEv.gfI (show jfI 6 1 (.getfield 27) 3 [0, 4, 0, 0, 1192] = true by decide +kernel) (isX0_L ho0) (by decide) ?_
  refine jEv.if_le (t := 23) (show jfI 6 4 (.ifCond .le 19) 3 [] = true by decide +kernel) rfl H (fun c1 H => ?_) (fun c1 H => ?_)
  · refine jEv.blk [(.iload_n 1, 1, []), (.aload_n 0, 1, [])] (by decide +kernel) (pc' := 9) (ls' := [(2, Int.ofNat o0), (0, v1)]) (st' := [(2, Int.ofNat o0), (0, v1)]) rfl ?_
    refine jEv.gfI (show jfI 6 9 (.getfield 27) 3 [0, 4, 0, 0, 1192] = true by decide +kernel) (isX0_L ho0) (by decide) ?_
    refine jchk H (fun c2 H => ?_)
    refine jEv.idiv (show jfI 6 12 (.idiv) 1 [] = true by decide +kernel) c2 ?_
    refine jEv.blk [(.iconst 1, 1, []), (.iadd, 1, []), (.aload_n 0, 1, [])] (by decide +kernel) (pc' := 16) (ls' := [(2, Int.ofNat o0), (0, v1)]) (st' := [(2, Int.ofNat o0), (0, (wr ((wr (Int.tdiv v1 (h o0 4))) + 1)))]) rfl ?_
    refine jEv.gfI (show jfI 6 16 (.getfield 27) 3 [0, 4, 0, 0, 1192] = true by decide +kernel) (isX0_L ho0) (by decide) ?_
    refine jEv.blk [(.imul, 1, [])] (by decide +kernel) (pc' := 20) (ls' := [(2, Int.ofNat o0), (0, v1)]) (st' := [(0, (wr ((wr ((wr (Int.tdiv v1 (h o0 4))) + 1)) * (h o0 4))))]) rfl ?_
    refine jEv.goto (t := 27) (show jfI 6 20 (.goto 7) 3 [] = true by decide +kernel) rfl ?_
    exact jEv.retI (show jfI 6 27 (.ireturn) 1 [] = true by decide +kernel) (by decide +kernel) (by cases H; exact HY)
  · refine jEv.blk [(.aload_n 0, 1, [])] (by decide +kernel) (pc' := 24) (ls' := [(2, Int.ofNat o0), (0, v1)]) (st' := [(2, Int.ofNat o0)]) rfl ?_
    refine jEv.gfI (show jfI 6 24 (.getfield 33) 3 [0, 3, 0, 0, 1188] = true by decide +kernel) (isX0_L ho0) (by decide) ?_
    exact jEv.retI (show jfI 6 27 (.ireturn) 1 [] = true by decide +kernel) (by decide +kernel) (by cases H; exact HY)
def yk_Di_behindRecord_L8 (T : jT) (xs : List Int) (d : Nat) (y : jV × jS) (h : jH)  (o0 : Nat) : ((Int × Int × Int) ⊕ Int) → Prop
  | .inl (v3, v4, v5) => jEv xs d (5, 8, [(2, Int.ofNat o0), (3, 0), (3, 0), (0, v3), (0, v4), (0, v5), (3, 0), (3, 0)], []) (T, h) y
  | .inr o => ykIp T h y o
set_option maxRecDepth 20000 in
noncomputable def Di_behindRecord_p89  (h : jH) (v3 : Int) (v4 : Int) : Option Int := (if 0 < v4 then some (-1) else some v3)
set_option maxRecDepth 20000 in
theorem t_Di_behindRecord_p89 {T : jT} {xs : List Int} {d : Nat} {y : jV × jS} (hd : 1 ≤ d) {h : jH}  {v3 : Int} {v4 : Int} {out : Int}  (H : Di_behindRecord_p89 h v3 v4 = some out) (HY : ykIp T h y out) : jEv xs d (5, 89, [(3, 0), (3, 0), (3, 0), (0, v3), (0, v4), (3, 0), (3, 0), (3, 0)], []) (T, h) y := by
  unfold Di_behindRecord_p89 at H
  refine jEv.blk [(.iload 4, 2, [])] (by decide +kernel) (pc' := 91) (ls' := [(3, 0), (3, 0), (3, 0), (0, v3), (0, v4), (3, 0), (3, 0), (3, 0)]) (st' := [(0, v4)]) rfl ?_
  refine jEv.if_le (t := 98) (show jfI 5 91 (.ifCond .le 7) 3 [] = true by decide +kernel) rfl H (fun c5 H => ?_) (fun c5 H => ?_)
  · refine jEv.blk [(.iconst (-1), 1, [])] (by decide +kernel) (pc' := 95) (ls' := [(3, 0), (3, 0), (3, 0), (0, v3), (0, v4), (3, 0), (3, 0), (3, 0)]) (st' := [(0, (-1))]) rfl ?_
    refine jEv.goto (t := 99) (show jfI 5 95 (.goto 4) 3 [] = true by decide +kernel) rfl ?_
    exact jEv.retI (show jfI 5 99 (.ireturn) 1 [] = true by decide +kernel) (by decide +kernel) (by cases H; exact HY)
  · refine jEv.blk [(.iload_n 3, 1, [])] (by decide +kernel) (pc' := 99) (ls' := [(3, 0), (3, 0), (3, 0), (0, v3), (0, v4), (3, 0), (3, 0), (3, 0)]) (st' := [(0, v3)]) rfl ?_
    exact jEv.retI (show jfI 5 99 (.ireturn) 1 [] = true by decide +kernel) (by decide +kernel) (by cases H; exact HY)
set_option maxRecDepth 20000 in
noncomputable def Di_behindRecord_p46  (h : jH) (o0 : Nat) (v3 : Int) (v4 : Int) (v5 : Int) (v6 : Int) : Option ((Int × Int × Int) ⊕ Int) := (if v3 < (h o0 3) then some (.inl ((wr (v3 + (wr (4 + (min v4 (wr ((wr (v6 - v3)) - 4))))))), (wr (v4 - (min v4 (wr ((wr (v6 - v3)) - 4))))), (wr (v5 + 1)))) else Option.map Sum.inr (some (-1)))
set_option maxRecDepth 20000 in
theorem t_Di_behindRecord_p46 {T : jT} {xs : List Int} {d : Nat} {y : jV × jS} (hd : 1 ≤ d) {h : jH}  {o0 : Nat} {v3 : Int} {v4 : Int} {v5 : Int} {v6 : Int} {out : ((Int × Int × Int) ⊕ Int)} (ho0 : isX0 T o0) (H : Di_behindRecord_p46 h o0 v3 v4 v5 v6 = some out) (HY : yk_Di_behindRecord_L8 T xs d y h o0 out) : jEv xs d (5, 46, [(2, Int.ofNat o0), (3, 0), (3, 0), (0, v3), (0, v4), (0, v5), (0, v6), (3, 0)], []) (T, h) y := by
  unfold Di_behindRecord_p46 at H
  refine jEv.blk [(.iload_n 3, 1, []), (.aload_n 0, 1, [])] (by decide +kernel) (pc' := 48) (ls' := [(2, Int.ofNat o0), (3, 0), (3, 0), (0, v3), (0, v4), (0, v5), (0, v6), (3, 0)]) (st' := [(2, Int.ofNat o0), (0, v3)]) rfl ?_
  refine jEv.gfI (show jfI 5 48 (.getfield 33) 3 [0, 3, 0, 0, 1188] = true by decide +kernel) (isX0_L ho0) (by decide) ?_
  refine jEv.ic_lt (t := 56) (show jfI 5 51 (.if_icmp .lt 5) 3 [] = true by decide +kernel) rfl H (fun c6 H => ?_) (fun c6 H => ?_)
  · refine jEv.blk [(.iload 4, 2, []), (.iload 6, 2, []), (.iload_n 3, 1, []), (.isub, 1, []), (.iconst 4, 1, []), (.isub, 1, [])] (by decide +kernel) (pc' := 64) (ls' := [(2, Int.ofNat o0), (3, 0), (3, 0), (0, v3), (0, v4), (0, v5), (0, v6), (3, 0)]) (st' := [(0, (wr ((wr (v6 - v3)) - 4))), (0, v4)]) rfl ?_
    refine jEv.calS (st' := [(0, (min v4 (wr ((wr (v6 - v3)) - 4))))]) (show jfI 5 64 (.invokestatic 86) 3 [3, 360, 2, 4131] = true by decide +kernel) rfl (Or.inl rfl) rfl (Nat.le_of_ble_eq_true rfl) ((t_JMath_min_0 (T := T) (xs := xs)).mono (jKle 1 hd)) rfl ?_
    refine jEv.blk [(.istore 7, 2, []), (.iload_n 3, 1, []), (.iconst 4, 1, []), (.iload 7, 2, []), (.iadd, 1, []), (.iadd, 1, []), (.istore_n 3, 1, []), (.iload 4, 2, []), (.iload 7, 2, []), (.isub, 1, []), (.istore 4, 2, []), (.iinc 5 1, 3, [])] (by decide +kernel) (pc' := 86) (ls' := [(2, Int.ofNat o0), (3, 0), (3, 0), (0, (wr (v3 + (wr (4 + (min v4 (wr ((wr (v6 - v3)) - 4)))))))), (0, (wr (v4 - (min v4 (wr ((wr (v6 - v3)) - 4)))))), (0, (wr (v5 + 1))), (0, v6), (0, (min v4 (wr ((wr (v6 - v3)) - 4))))]) (st' := []) rfl ?_
    refine jEv.goto (t := 8) (show jfI 5 86 (.goto (-78)) 3 [] = true by decide +kernel) rfl ?_
    exact jEv.weak (a := [(2, Int.ofNat o0), (3, 0), (3, 0), (0, (wr (v3 + (wr (4 + (min v4 (wr ((wr (v6 - v3)) - 4)))))))), (0, (wr (v4 - (min v4 (wr ((wr (v6 - v3)) - 4)))))), (0, (wr (v5 + 1))), (3, 0), (3, 0)]) (jles.c1 (jles.c0 (jles.c0 (jles.c1 (jles.c1 (jles.c1 (jles.c0 (jles.c0 jles.nl)))))))) ((by cases H; exact HY))
  · refine jmapr H HY (fun out H (HY : ykIp T h y out) => ?_)
    refine jEv.blk [(.iconst (-1), 1, [])] (by decide +kernel) (pc' := 55) (ls' := [(2, Int.ofNat o0), (3, 0), (3, 0), (0, v3), (0, v4), (0, v5), (0, v6), (3, 0)]) (st' := [(0, (-1))]) rfl ?_
    exact jEv.retI (show jfI 5 55 (.ireturn) 1 [] = true by decide +kernel) (by decide +kernel) (by cases H; exact HY)
set_option maxRecDepth 20000 in
noncomputable def Di_behindRecord_B8  (h : jH) (o0 : Nat) (v3 : Int) (v4 : Int) (v5 : Int) : Option ((Int × Int × Int) ⊕ Int) := (if 0 < v4 then (if 4 < v5 then Option.map Sum.inr (Di_behindRecord_p89 h v3 v4) else Option.bind (Di_blockEnd h o0 v3) (fun b3 => (if 4 < (wr (b3 - v3)) then Di_behindRecord_p46 h o0 v3 v4 v5 b3 else Di_behindRecord_p46 h o0 b3 v4 v5 (wr (b3 + (h o0 4)))))) else Option.map Sum.inr (Di_behindRecord_p89 h v3 v4))
noncomputable def Di_behindRecord_L8  (h : jH) (o0 : Nat) (v3 : Int) (v4 : Int) (v5 : Int) : Option Int := jloop (fun s : (Int × Int × Int) => Di_behindRecord_B8 h o0 s.1 s.2.1 s.2.2) (v3, v4, v5)
set_option maxRecDepth 20000 in
theorem t_Di_behindRecord_B8 {T : jT} {xs : List Int} {d : Nat} {y : jV × jS} (hd : 1 ≤ d) {h : jH}  {o0 : Nat} {v3 : Int} {v4 : Int} {v5 : Int} {out : ((Int × Int × Int) ⊕ Int)} (ho0 : isX0 T o0) (H : Di_behindRecord_B8 h o0 v3 v4 v5 = some out) (HY : yk_Di_behindRecord_L8 T xs d y h o0 out) : jEv xs d (5, 8, [(2, Int.ofNat o0), (3, 0), (3, 0), (0, v3), (0, v4), (0, v5), (3, 0), (3, 0)], []) (T, h) y := by
  unfold Di_behindRecord_B8 at H
  refine jEv.blk [(.iload 4, 2, [])] (by decide +kernel) (pc' := 10) (ls' := [(2, Int.ofNat o0), (3, 0), (3, 0), (0, v3), (0, v4), (0, v5), (3, 0), (3, 0)]) (st' := [(0, v4)]) rfl ?_
  refine jEv.if_le (t := 89) (show jfI 5 10 (.ifCond .le 79) 3 [] = true by decide +kernel) rfl H (fun c1 H => ?_) (fun c1 H => ?_)
  · refine jEv.blk [(.iload 5, 2, []), (.iconst 4, 1, [])] (by decide +kernel) (pc' := 16) (ls' := [(2, Int.ofNat o0), (3, 0), (3, 0), (0, v3), (0, v4), (0, v5), (3, 0), (3, 0)]) (st' := [(0, 4), (0, v5)]) rfl ?_
    refine jEv.ic_gt (t := 89) (show jfI 5 16 (.if_icmp .gt 73) 3 [] = true by decide +kernel) rfl H (fun c2 H => ?_) (fun c2 H => ?_)
    · refine jmapr H HY (fun out H (HY : ykIp T h y out) => ?_)
      exact jEv.weak (a := [(3, 0), (3, 0), (3, 0), (0, v3), (0, v4), (3, 0), (3, 0), (3, 0)]) (jles.c0 (jles.c0 (jles.c0 (jles.c1 (jles.c1 (jles.c0 (jles.c0 (jles.c0 jles.nl)))))))) (t_Di_behindRecord_p89 (T := T) (xs := xs) (y := y) hd H HY)
    · refine jEv.blk [(.aload_n 0, 1, []), (.iload_n 3, 1, [])] (by decide +kernel) (pc' := 21) (ls' := [(2, Int.ofNat o0), (3, 0), (3, 0), (0, v3), (0, v4), (0, v5), (3, 0), (3, 0)]) (st' := [(0, v3), (2, Int.ofNat o0)]) rfl ?_
      refine jbind H (fun b3 Hb3 H => ?_)
      refine jEv.calV (st' := [(0, b3)]) (show jfI 5 21 (.invokevirtual 83) 3 [1, 6, 1, 4127] = true by decide +kernel) rfl (Or.inl rfl) rfl (Nat.le_of_ble_eq_true rfl) (by decide +kernel) (by decide) (isX0_L ho0) ((t_Di_blockEnd (T := T) (xs := xs) ho0 Hb3).mono (jKle 1 hd)) rfl ?_
      refine jEv.blk [(.istore 6, 2, []), (.iload 6, 2, []), (.iload_n 3, 1, []), (.isub, 1, []), (.iconst 4, 1, [])] (by decide +kernel) (pc' := 31) (ls' := [(2, Int.ofNat o0), (3, 0), (3, 0), (0, v3), (0, v4), (0, v5), (0, b3), (3, 0)]) (st' := [(0, 4), (0, (wr (b3 - v3)))]) rfl ?_
      refine jEv.ic_gt (t := 46) (show jfI 5 31 (.if_icmp .gt 15) 3 [] = true by decide +kernel) rfl H (fun c4 H => ?_) (fun c4 H => ?_)
      · exact t_Di_behindRecord_p46 (T := T) (xs := xs) (y := y) hd ho0 H HY
      · refine jEv.blk [(.iload 6, 2, []), (.istore_n 3, 1, []), (.iload 6, 2, []), (.aload_n 0, 1, [])] (by decide +kernel) (pc' := 40) (ls' := [(2, Int.ofNat o0), (3, 0), (3, 0), (0, b3), (0, v4), (0, v5), (0, b3), (3, 0)]) (st' := [(2, Int.ofNat o0), (0, b3)]) rfl ?_
        refine jEv.gfI (show jfI 5 40 (.getfield 27) 3 [0, 4, 0, 0, 1192] = true by decide +kernel) (isX0_L ho0) (by decide) ?_
        refine jEv.blk [(.iadd, 1, []), (.istore 6, 2, [])] (by decide +kernel) (pc' := 46) (ls' := [(2, Int.ofNat o0), (3, 0), (3, 0), (0, b3), (0, v4), (0, v5), (0, (wr (b3 + (h o0 4)))), (3, 0)]) (st' := []) rfl ?_
        exact t_Di_behindRecord_p46 (T := T) (xs := xs) (y := y) hd ho0 H HY
  · refine jmapr H HY (fun out H (HY : ykIp T h y out) => ?_)
    exact jEv.weak (a := [(3, 0), (3, 0), (3, 0), (0, v3), (0, v4), (3, 0), (3, 0), (3, 0)]) (jles.c0 (jles.c0 (jles.c0 (jles.c1 (jles.c1 (jles.c0 (jles.c0 (jles.c0 jles.nl)))))))) (t_Di_behindRecord_p89 (T := T) (xs := xs) (y := y) hd H HY)
theorem t_Di_behindRecord_L8 {T : jT} {xs : List Int} {d : Nat} {y : jV × jS} (hd : 1 ≤ d) {h : jH}  {o0 : Nat} {v3 : Int} {v4 : Int} {v5 : Int} {out : Int} (ho0 : isX0 T o0) (H : Di_behindRecord_L8 h o0 v3 v4 v5 = some out) (HY : ykIp T h y out) : jEv xs d (5, 8, [(2, Int.ofNat o0), (3, 0), (3, 0), (0, v3), (0, v4), (0, v5), (3, 0), (3, 0)], []) (T, h) y :=
  jloop_sound (G := fun s : (Int × Int × Int) => jEv xs d (5, 8, [(2, Int.ofNat o0), (3, 0), (3, 0), (0, s.1), (0, s.2.1), (0, s.2.2), (3, 0), (3, 0)], []) (T, h) y) (K := yk_Di_behindRecord_L8 T xs d y h o0) (fun s out H HY => t_Di_behindRecord_B8 hd ho0 H HY) (fun s' hg => hg) (s := (v3, v4, v5)) H HY
set_option maxRecDepth 20000 in
noncomputable def Di_behindRecord  (h : jH) (o0 : Nat) (v1 : Int) (v2 : Int) : Option Int := Di_behindRecord_L8 h o0 v1 v2 0
set_option maxRecDepth 20000 in
theorem t_Di_behindRecord {T : jT} {xs : List Int} {h : jH}  {o0 : Nat} {v1 : Int} {v2 : Int} {out : Int} (ho0 : isX0 T o0) (H : Di_behindRecord h o0 v1 v2 = some out) : jEm xs 2 5 [(2, Int.ofNat o0), (0, v1), (0, v2)] (T, h) ((0, out), (T, h)) := by
  have hd : 1 ≤ 1 := Nat.le_refl _
  obtain ⟨y, ey⟩ : ∃ y : jV × jS, y = ((0, out), (T, h)) := ⟨_, rfl⟩
  rw [← ey]
  have HY : ykIp T h y out := ey
  refine jEm.ent (n := 8) (by decide +kernel) (Nat.le_of_ble_eq_true rfl) ?_
  show jEv xs 1 (5, 0, [(2, Int.ofNat o0), (0, v1), (0, v2), (3, 0), (3, 0), (3, 0), (3, 0), (3, 0)], []) (T, h) y
  unfold Di_behindRecord at H
  refine jEv.blk [(.iload_n 1, 1, []), (.istore_n 3, 1, []), (.iload_n 2, 1, []), (.istore 4, 2, []), (.iconst 0, 1, []), (.istore 5, 2, [])] (by decide +kernel) (pc' := 8) (ls' := [(2, Int.ofNat o0), (0, v1), (0, v2), (0, v1), (0, v2), (0, 0), (3, 0), (3, 0)]) (st' := []) rfl ?_
  exact jEv.weak (a := [(2, Int.ofNat o0), (3, 0), (3, 0), (0, v1), (0, v2), (0, 0), (3, 0), (3, 0)]) (jles.c1 (jles.c0 (jles.c0 (jles.c1 (jles.c1 (jles.c1 (jles.c0 (jles.c0 jles.nl)))))))) (t_Di_behindRecord_L8 (T := T) (xs := xs) (y := y) hd ho0 H HY)
def yk_Di_scarCount_L4 (T : jT) (xs : List Int) (d : Nat) (y : jV × jS) (h : jH)  (o0 : Nat) : ((Int × Int) ⊕ Int) → Prop
  | .inl (v1, v2) => jEv xs d (7, 4, [(2, Int.ofNat o0), (0, v1), (0, v2)], []) (T, h) y
  | .inr o => ykIp T h y o
set_option maxRecDepth 20000 in
noncomputable def Di_scarCount_B4  (h : jH) (o0 : Nat) (v1 : Int) (v2 : Int) : Option ((Int × Int) ⊕ Int) := (if v2 < ((512 : Nat) : Int) then (if (0 : Int) ≤ v2 ∧ (v2 : Int).toNat < 512 then some (.inl ((wr (v1 + (h (o0 + 2) (v2 : Int).toNat))), (wr (v2 + 1)))) else none) else Option.map Sum.inr (some v1))
noncomputable def Di_scarCount_L4  (h : jH) (o0 : Nat) (v1 : Int) (v2 : Int) : Option Int := jloop (fun s : (Int × Int) => Di_scarCount_B4 h o0 s.1 s.2) (v1, v2)
set_option maxRecDepth 20000 in
theorem t_Di_scarCount_B4 {T : jT} {xs : List Int} {d : Nat} {y : jV × jS} (hd : 0 ≤ d) {h : jH}  {o0 : Nat} {v1 : Int} {v2 : Int} {out : ((Int × Int) ⊕ Int)} (ho0 : isX0 T o0) (H : Di_scarCount_B4 h o0 v1 v2 = some out) (HY : yk_Di_scarCount_L4 T xs d y h o0 out) : jEv xs d (7, 4, [(2, Int.ofNat o0), (0, v1), (0, v2)], []) (T, h) y := by
  unfold Di_scarCount_B4 at H
  refine jEv.blk [(.iload_n 2, 1, []), (.aload_n 0, 1, [])] (by decide +kernel) (pc' := 6) (ls' := [(2, Int.ofNat o0), (0, v1), (0, v2)]) (st' := [(2, Int.ofNat o0), (0, v2)]) rfl ?_
  refine jEv.gfR (o' := (o0 + 2)) (show jfI 7 6 (.getfield 15) 3 [0, 1, 5, 0, 1182] = true by decide +kernel) (isX0_L ho0) (by decide) (isX0_r1 ho0) ?_
  refine jEv.alen (show jfI 7 9 (.arraylength) 1 [] = true by decide +kernel) (isX0_a1 ho0) (by decide) ?_
  refine jEv.ic_ge (t := 28) (show jfI 7 10 (.if_icmp .ge 18) 3 [] = true by decide +kernel) rfl H (fun c1 H => ?_) (fun c1 H => ?_)
  · refine jEv.blk [(.iload_n 1, 1, []), (.aload_n 0, 1, [])] (by decide +kernel) (pc' := 15) (ls' := [(2, Int.ofNat o0), (0, v1), (0, v2)]) (st' := [(2, Int.ofNat o0), (0, v1)]) rfl ?_
    refine jEv.gfR (o' := (o0 + 2)) (show jfI 7 15 (.getfield 15) 3 [0, 1, 5, 0, 1182] = true by decide +kernel) (isX0_L ho0) (by decide) (isX0_r1 ho0) ?_
    refine jEv.blk [(.iload_n 2, 1, [])] (by decide +kernel) (pc' := 19) (ls' := [(2, Int.ofNat o0), (0, v1), (0, v2)]) (st' := [(0, v2), (2, Int.ofNat (o0 + 2)), (0, v1)]) rfl ?_
    refine jEv.ald (Or.inl ⟨rfl, rfl, rfl⟩) (show jfI 7 19 (.iaload) 1 [] = true by decide +kernel) (isX0_a1 ho0) H (fun c2 H => ?_)
    refine jEv.blk [(.iadd, 1, []), (.istore_n 1, 1, []), (.iinc 2 1, 3, [])] (by decide +kernel) (pc' := 25) (ls' := [(2, Int.ofNat o0), (0, (wr (v1 + (h (o0 + 2) (v2 : Int).toNat)))), (0, (wr (v2 + 1)))]) (st' := []) rfl ?_
    refine jEv.goto (t := 4) (show jfI 7 25 (.goto (-21)) 3 [] = true by decide +kernel) rfl ?_
    exact (by cases H; exact HY)
  · refine jmapr H HY (fun out H (HY : ykIp T h y out) => ?_)
    refine jEv.blk [(.iload_n 1, 1, [])] (by decide +kernel) (pc' := 29) (ls' := [(2, Int.ofNat o0), (0, v1), (0, v2)]) (st' := [(0, v1)]) rfl ?_
    exact jEv.retI (show jfI 7 29 (.ireturn) 1 [] = true by decide +kernel) (by decide +kernel) (by cases H; exact HY)
theorem t_Di_scarCount_L4 {T : jT} {xs : List Int} {d : Nat} {y : jV × jS} (hd : 0 ≤ d) {h : jH}  {o0 : Nat} {v1 : Int} {v2 : Int} {out : Int} (ho0 : isX0 T o0) (H : Di_scarCount_L4 h o0 v1 v2 = some out) (HY : ykIp T h y out) : jEv xs d (7, 4, [(2, Int.ofNat o0), (0, v1), (0, v2)], []) (T, h) y :=
  jloop_sound (G := fun s : (Int × Int) => jEv xs d (7, 4, [(2, Int.ofNat o0), (0, s.1), (0, s.2)], []) (T, h) y) (K := yk_Di_scarCount_L4 T xs d y h o0) (fun s out H HY => t_Di_scarCount_B4 hd ho0 H HY) (fun s' hg => hg) (s := (v1, v2)) H HY
set_option maxRecDepth 20000 in
noncomputable def Di_scarCount  (h : jH) (o0 : Nat) : Option Int := Di_scarCount_L4 h o0 0 0
set_option maxRecDepth 20000 in
theorem t_Di_scarCount {T : jT} {xs : List Int} {h : jH}  {o0 : Nat} {out : Int} (ho0 : isX0 T o0) (H : Di_scarCount h o0 = some out) : jEm xs 1 7 [(2, Int.ofNat o0)] (T, h) ((0, out), (T, h)) := by
  have hd : 0 ≤ 0 := Nat.le_refl _
  obtain ⟨y, ey⟩ : ∃ y : jV × jS, y = ((0, out), (T, h)) := ⟨_, rfl⟩
  rw [← ey]
  have HY : ykIp T h y out := ey
  refine jEm.ent (n := 3) (by decide +kernel) (Nat.le_of_ble_eq_true rfl) ?_
  show jEv xs 0 (7, 0, [(2, Int.ofNat o0), (3, 0), (3, 0)], []) (T, h) y
  unfold Di_scarCount at H
  refine jEv.blk [(.iconst 0, 1, []), (.istore_n 1, 1, []), (.iconst 0, 1, []), (.istore_n 2, 1, [])] (by decide +kernel) (pc' := 4) (ls' := [(2, Int.ofNat o0), (0, 0), (0, 0)]) (st' := []) rfl ?_
  exact t_Di_scarCount_L4 (T := T) (xs := xs) (y := y) hd ho0 H HY
set_option maxRecDepth 20000 in
noncomputable def Di_holds_p28  (h : jH)  : Option Int := some 0
set_option maxRecDepth 20000 in
theorem t_Di_holds_p28 {T : jT} {xs : List Int} {d : Nat} {y : jV × jS} (hd : 0 ≤ d) {h : jH}   {out : Int}  (H : Di_holds_p28 h = some out) (HY : ykIp T h y out) : jEv xs d (9, 28, [(3, 0), (3, 0), (3, 0)], []) (T, h) y := by
  unfold Di_holds_p28 at H
  refine jEv.blk [(.iconst 0, 1, [])] (by decide +kernel) (pc' := 29) (ls' := [(3, 0), (3, 0), (3, 0)]) (st' := [(0, 0)]) rfl ?_
  exact jEv.retZ (show jfI 9 29 (.ireturn) 1 [] = true by decide +kernel) (by decide +kernel) (by decide) (by cases H; exact HY)
set_option maxRecDepth 20000 in
noncomputable def Di_holds  (h : jH) (o0 : Nat) (v1 : Int) (v2 : Int) : Option Int := (if v1 < 0 then Di_holds_p28 h else (if v1 < (h o0 2) then (if v2 < 0 then Di_holds_p28 h else (if v2 < (h o0 3) then some 1 else Di_holds_p28 h)) else Di_holds_p28 h))
set_option maxRecDepth 20000 in
theorem t_Di_holds {T : jT} {xs : List Int} {h : jH}  {o0 : Nat} {v1 : Int} {v2 : Int} {out : Int} (ho0 : isX0 T o0) (H : Di_holds h o0 v1 v2 = some out) : jEm xs 1 9 [(2, Int.ofNat o0), (0, v1), (0, v2)] (T, h) ((0, out), (T, h)) := by
  have hd : 0 ≤ 0 := Nat.le_refl _
  obtain ⟨y, ey⟩ : ∃ y : jV × jS, y = ((0, out), (T, h)) := ⟨_, rfl⟩
  rw [← ey]
  have HY : ykIp T h y out := ey
  refine jEm.ent (n := 3) (by decide +kernel) (Nat.le_of_ble_eq_true rfl) ?_
  show jEv xs 0 (9, 0, [(2, Int.ofNat o0), (0, v1), (0, v2)], []) (T, h) y
  unfold Di_holds at H
  refine jEv.blk [(.iload_n 1, 1, [])] (by decide +kernel) (pc' := 1) (ls' := [(2, Int.ofNat o0), (0, v1), (0, v2)]) (st' := [(0, v1)]) rfl ?_
  refine jEv.if_lt (t := 28) (show jfI 9 1 (.ifCond .lt 27) 3 [] = true by decide +kernel) rfl H (fun c1 H => ?_) (fun c1 H => ?_)
  · exact jEv.weak (a := [(3, 0), (3, 0), (3, 0)]) (jles.c0 (jles.c0 (jles.c0 jles.nl))) (t_Di_holds_p28 (T := T) (xs := xs) (y := y) hd H HY)
  · refine jEv.blk [(.iload_n 1, 1, []), (.aload_n 0, 1, [])] (by decide +kernel) (pc' := 6) (ls' := [(2, Int.ofNat o0), (0, v1), (0, v2)]) (st' := [(2, Int.ofNat o0), (0, v1)]) rfl ?_
    refine jEv.gfI (show jfI 9 6 (.getfield 24) 3 [0, 2, 0, 0, 1183] = true by decide +kernel) (isX0_L ho0) (by decide) ?_
    refine jEv.ic_ge (t := 28) (show jfI 9 9 (.if_icmp .ge 19) 3 [] = true by decide +kernel) rfl H (fun c2 H => ?_) (fun c2 H => ?_)
    · refine jEv.blk [(.iload_n 2, 1, [])] (by decide +kernel) (pc' := 13) (ls' := [(2, Int.ofNat o0), (0, v1), (0, v2)]) (st' := [(0, v2)]) rfl ?_
      refine jEv.if_lt (t := 28) (show jfI 9 13 (.ifCond .lt 15) 3 [] = true by decide +kernel) rfl H (fun c3 H => ?_) (fun c3 H => ?_)
      · exact jEv.weak (a := [(3, 0), (3, 0), (3, 0)]) (jles.c0 (jles.c0 (jles.c0 jles.nl))) (t_Di_holds_p28 (T := T) (xs := xs) (y := y) hd H HY)
      · refine jEv.blk [(.iload_n 2, 1, []), (.aload_n 0, 1, [])] (by decide +kernel) (pc' := 18) (ls' := [(2, Int.ofNat o0), (0, v1), (0, v2)]) (st' := [(2, Int.ofNat o0), (0, v2)]) rfl ?_
        refine jEv.gfI (show jfI 9 18 (.getfield 33) 3 [0, 3, 0, 0, 1188] = true by decide +kernel) (isX0_L ho0) (by decide) ?_
        refine jEv.ic_ge (t := 28) (show jfI 9 21 (.if_icmp .ge 7) 3 [] = true by decide +kernel) rfl H (fun c4 H => ?_) (fun c4 H => ?_)
        · refine jEv.blk [(.iconst 1, 1, [])] (by decide +kernel) (pc' := 25) (ls' := [(2, Int.ofNat o0), (0, v1), (0, v2)]) (st' := [(0, 1)]) rfl ?_
          refine jEv.goto (t := 29) (show jfI 9 25 (.goto 4) 3 [] = true by decide +kernel) rfl ?_
          exact jEv.retZ (show jfI 9 29 (.ireturn) 1 [] = true by decide +kernel) (by decide +kernel) (by decide) (by cases H; exact HY)
        · exact jEv.weak (a := [(3, 0), (3, 0), (3, 0)]) (jles.c0 (jles.c0 (jles.c0 jles.nl))) (t_Di_holds_p28 (T := T) (xs := xs) (y := y) hd H HY)
    · exact jEv.weak (a := [(3, 0), (3, 0), (3, 0)]) (jles.c0 (jles.c0 (jles.c0 jles.nl))) (t_Di_holds_p28 (T := T) (xs := xs) (y := y) hd H HY)
set_option maxRecDepth 20000 in
noncomputable def Di_octetAt_p57  (h : jH)  : Option Int := some (-1)
set_option maxRecDepth 20000 in
theorem t_Di_octetAt_p57 {T : jT} {xs : List Int} {d : Nat} {y : jV × jS} (hd : 0 ≤ d) {h : jH}   {out : Int}  (H : Di_octetAt_p57 h = some out) (HY : ykIp T h y out) : jEv xs d (11, 57, [(3, 0), (3, 0), (3, 0), (3, 0)], []) (T, h) y := by
  unfold Di_octetAt_p57 at H
  refine jEv.blk [(.iconst (-1), 1, [])] (by decide +kernel) (pc' := 58) (ls' := [(3, 0), (3, 0), (3, 0), (3, 0)]) (st' := [(0, (-1))]) rfl ?_
  exact jEv.retI (show jfI 11 58 (.ireturn) 1 [] = true by decide +kernel) (by decide +kernel) (by cases H; exact HY)
set_option maxRecDepth 20000 in
noncomputable def Di_octetAt  (h : jH) (o0 : Nat) (v1 : Int) (v2 : Int) : Option Int := (if v1 < 0 then some (-1) else (if v1 < (h o0 2) then (if v2 < 0 then some (-1) else (if v2 < (h o0 3) then (if (wr ((wr (v1 * (h o0 3))) + v2)) < 0 then Di_octetAt_p57 h else (if (wr ((wr (v1 * (h o0 3))) + v2)) < ((512 : Nat) : Int) then (if (0 : Int) ≤ (wr ((wr (v1 * (h o0 3))) + v2)) ∧ ((wr ((wr (v1 * (h o0 3))) + v2)) : Int).toNat < 512 then some (h (o0 + 1) ((wr ((wr (v1 * (h o0 3))) + v2)) : Int).toNat) else none) else Di_octetAt_p57 h)) else some (-1))) else some (-1)))
set_option maxRecDepth 20000 in
theorem t_Di_octetAt {T : jT} {xs : List Int} {h : jH}  {o0 : Nat} {v1 : Int} {v2 : Int} {out : Int} (ho0 : isX0 T o0) (H : Di_octetAt h o0 v1 v2 = some out) : jEm xs 1 11 [(2, Int.ofNat o0), (0, v1), (0, v2)] (T, h) ((0, out), (T, h)) := by
  have hd : 0 ≤ 0 := Nat.le_refl _
  obtain ⟨y, ey⟩ : ∃ y : jV × jS, y = ((0, out), (T, h)) := ⟨_, rfl⟩
  rw [← ey]
  have HY : ykIp T h y out := ey
  refine jEm.ent (n := 4) (by decide +kernel) (Nat.le_of_ble_eq_true rfl) ?_
  show jEv xs 0 (11, 0, [(2, Int.ofNat o0), (0, v1), (0, v2), (3, 0)], []) (T, h) y
  unfold Di_octetAt at H
  refine jEv.blk [(.iload_n 1, 1, [])] (by decide +kernel) (pc' := 1) (ls' := [(2, Int.ofNat o0), (0, v1), (0, v2), (3, 0)]) (st' := [(0, v1)]) rfl ?_
  refine jEv.if_lt (t := 24) (show jfI 11 1 (.ifCond .lt 23) 3 [] = true by decide +kernel) rfl H (fun c1 H => ?_) (fun c1 H => ?_)
  · refine jEv.blk [(.iconst (-1), 1, [])] (by decide +kernel) (pc' := 25) (ls' := [(2, Int.ofNat o0), (0, v1), (0, v2), (3, 0)]) (st' := [(0, (-1))]) rfl ?_
    exact jEv.retI (show jfI 11 25 (.ireturn) 1 [] = true by decide +kernel) (by decide +kernel) (by cases H; exact HY)
  · refine jEv.blk [(.iload_n 1, 1, []), (.aload_n 0, 1, [])] (by decide +kernel) (pc' := 6) (ls' := [(2, Int.ofNat o0), (0, v1), (0, v2), (3, 0)]) (st' := [(2, Int.ofNat o0), (0, v1)]) rfl ?_
    refine jEv.gfI (show jfI 11 6 (.getfield 24) 3 [0, 2, 0, 0, 1183] = true by decide +kernel) (isX0_L ho0) (by decide) ?_
    refine jEv.ic_ge (t := 24) (show jfI 11 9 (.if_icmp .ge 15) 3 [] = true by decide +kernel) rfl H (fun c2 H => ?_) (fun c2 H => ?_)
    · refine jEv.blk [(.iload_n 2, 1, [])] (by decide +kernel) (pc' := 13) (ls' := [(2, Int.ofNat o0), (0, v1), (0, v2), (3, 0)]) (st' := [(0, v2)]) rfl ?_
      refine jEv.if_lt (t := 24) (show jfI 11 13 (.ifCond .lt 11) 3 [] = true by decide +kernel) rfl H (fun c3 H => ?_) (fun c3 H => ?_)
      · refine jEv.blk [(.iconst (-1), 1, [])] (by decide +kernel) (pc' := 25) (ls' := [(2, Int.ofNat o0), (0, v1), (0, v2), (3, 0)]) (st' := [(0, (-1))]) rfl ?_
        exact jEv.retI (show jfI 11 25 (.ireturn) 1 [] = true by decide +kernel) (by decide +kernel) (by cases H; exact HY)
      · refine jEv.blk [(.iload_n 2, 1, []), (.aload_n 0, 1, [])] (by decide +kernel) (pc' := 18) (ls' := [(2, Int.ofNat o0), (0, v1), (0, v2), (3, 0)]) (st' := [(2, Int.ofNat o0), (0, v2)]) rfl ?_
        refine jEv.gfI (show jfI 11 18 (.getfield 33) 3 [0, 3, 0, 0, 1188] = true by decide +kernel) (isX0_L ho0) (by decide) ?_
        refine jEv.ic_lt (t := 26) (show jfI 11 21 (.if_icmp .lt 5) 3 [] = true by decide +kernel) rfl H (fun c4 H => ?_) (fun c4 H => ?_)
        · refine jEv.blk [(.iload_n 1, 1, []), (.aload_n 0, 1, [])] (by decide +kernel) (pc' := 28) (ls' := [(2, Int.ofNat o0), (0, v1), (0, v2), (3, 0)]) (st' := [(2, Int.ofNat o0), (0, v1)]) rfl ?_
          refine jEv.gfI (show jfI 11 28 (.getfield 33) 3 [0, 3, 0, 0, 1188] = true by decide +kernel) (isX0_L ho0) (by decide) ?_
          refine jEv.blk [(.imul, 1, []), (.iload_n 2, 1, []), (.iadd, 1, []), (.istore_n 3, 1, []), (.iload_n 3, 1, [])] (by decide +kernel) (pc' := 36) (ls' := [(2, Int.ofNat o0), (0, v1), (0, v2), (0, (wr ((wr (v1 * (h o0 3))) + v2)))]) (st' := [(0, (wr ((wr (v1 * (h o0 3))) + v2)))]) rfl ?_
          refine jEv.if_lt (t := 57) (show jfI 11 36 (.ifCond .lt 21) 3 [] = true by decide +kernel) rfl H (fun c5 H => ?_) (fun c5 H => ?_)
          · exact jEv.weak (a := [(3, 0), (3, 0), (3, 0), (3, 0)]) (jles.c0 (jles.c0 (jles.c0 (jles.c0 jles.nl)))) (t_Di_octetAt_p57 (T := T) (xs := xs) (y := y) hd H HY)
          · refine jEv.blk [(.iload_n 3, 1, []), (.aload_n 0, 1, [])] (by decide +kernel) (pc' := 41) (ls' := [(2, Int.ofNat o0), (0, v1), (0, v2), (0, (wr ((wr (v1 * (h o0 3))) + v2)))]) (st' := [(2, Int.ofNat o0), (0, (wr ((wr (v1 * (h o0 3))) + v2)))]) rfl ?_
            refine jEv.gfR (o' := (o0 + 1)) (show jfI 11 41 (.getfield 9) 3 [0, 0, 5, 0, 1180] = true by decide +kernel) (isX0_L ho0) (by decide) (isX0_r0 ho0) ?_
            refine jEv.alen (show jfI 11 44 (.arraylength) 1 [] = true by decide +kernel) (isX0_a0 ho0) (by decide) ?_
            refine jEv.ic_ge (t := 57) (show jfI 11 45 (.if_icmp .ge 12) 3 [] = true by decide +kernel) rfl H (fun c6 H => ?_) (fun c6 H => ?_)
            · refine jEv.blk [(.aload_n 0, 1, [])] (by decide +kernel) (pc' := 49) (ls' := [(2, Int.ofNat o0), (0, v1), (0, v2), (0, (wr ((wr (v1 * (h o0 3))) + v2)))]) (st' := [(2, Int.ofNat o0)]) rfl ?_
              refine jEv.gfR (o' := (o0 + 1)) (show jfI 11 49 (.getfield 9) 3 [0, 0, 5, 0, 1180] = true by decide +kernel) (isX0_L ho0) (by decide) (isX0_r0 ho0) ?_
              refine jEv.blk [(.iload_n 3, 1, [])] (by decide +kernel) (pc' := 53) (ls' := [(2, Int.ofNat o0), (0, v1), (0, v2), (0, (wr ((wr (v1 * (h o0 3))) + v2)))]) (st' := [(0, (wr ((wr (v1 * (h o0 3))) + v2))), (2, Int.ofNat (o0 + 1))]) rfl ?_
              refine jEv.ald (Or.inl ⟨rfl, rfl, rfl⟩) (show jfI 11 53 (.iaload) 1 [] = true by decide +kernel) (isX0_a0 ho0) H (fun c7 H => ?_)
              refine jEv.goto (t := 58) (show jfI 11 54 (.goto 4) 3 [] = true by decide +kernel) rfl ?_
              exact jEv.retI (show jfI 11 58 (.ireturn) 1 [] = true by decide +kernel) (by decide +kernel) (by cases H; exact HY)
            · exact jEv.weak (a := [(3, 0), (3, 0), (3, 0), (3, 0)]) (jles.c0 (jles.c0 (jles.c0 (jles.c0 jles.nl)))) (t_Di_octetAt_p57 (T := T) (xs := xs) (y := y) hd H HY)
        · refine jEv.blk [(.iconst (-1), 1, [])] (by decide +kernel) (pc' := 25) (ls' := [(2, Int.ofNat o0), (0, v1), (0, v2), (3, 0)]) (st' := [(0, (-1))]) rfl ?_
          exact jEv.retI (show jfI 11 25 (.ireturn) 1 [] = true by decide +kernel) (by decide +kernel) (by cases H; exact HY)
    · refine jEv.blk [(.iconst (-1), 1, [])] (by decide +kernel) (pc' := 25) (ls' := [(2, Int.ofNat o0), (0, v1), (0, v2), (3, 0)]) (st' := [(0, (-1))]) rfl ?_
      exact jEv.retI (show jfI 11 25 (.ireturn) 1 [] = true by decide +kernel) (by decide +kernel) (by cases H; exact HY)
set_option maxRecDepth 20000 in
noncomputable def Di_serialOf  (h : jH) (o0 : Nat) (v1 : Int) : Option Int := Option.bind (Di_octetAt h o0 v1 0) (fun b1 => Option.bind (Di_octetAt h o0 v1 1) (fun b2 => some (jor (jshl b1 8) b2)))
set_option maxRecDepth 20000 in
theorem t_Di_serialOf {T : jT} {xs : List Int} {h : jH}  {o0 : Nat} {v1 : Int} {out : Int} (ho0 : isX0 T o0) (H : Di_serialOf h o0 v1 = some out) : jEm xs 2 10 [(2, Int.ofNat o0), (0, v1)] (T, h) ((0, out), (T, h)) := by
  have hd : 1 ≤ 1 := Nat.le_refl _
  obtain ⟨y, ey⟩ : ∃ y : jV × jS, y = ((0, out), (T, h)) := ⟨_, rfl⟩
  rw [← ey]
  have HY : ykIp T h y out := ey
  refine jEm.ent (n := 2) (by decide +kernel) (Nat.le_of_ble_eq_true rfl) ?_
  show jEv xs 1 (10, 0, [(2, Int.ofNat o0), (0, v1)], []) (T, h) y
  unfold Di_serialOf at H
  refine jEv.blk [(.aload_n 0, 1, []), (.iload_n 1, 1, []), (.iconst 0, 1, [])] (by decide +kernel) (pc' := 3) (ls' := [(2, Int.ofNat o0), (0, v1)]) (st' := [(0, 0), (0, v1), (2, Int.ofNat o0)]) rfl ?_
  refine jbind H (fun b1 Hb1 H => ?_)
  refine jEv.calV (st' := [(0, b1)]) (show jfI 10 3 (.invokevirtual 54) 3 [1, 11, 2, 4184] = true by decide +kernel) rfl (Or.inl rfl) rfl (Nat.le_of_ble_eq_true rfl) (by decide +kernel) (by decide) (isX0_L ho0) ((t_Di_octetAt (T := T) (xs := xs) ho0 Hb1).mono (jKle 1 hd)) rfl ?_
  refine jEv.blk [(.bipush 8, 2, []), (.ishl, 1, []), (.aload_n 0, 1, []), (.iload_n 1, 1, []), (.iconst 1, 1, [])] (by decide +kernel) (pc' := 12) (ls' := [(2, Int.ofNat o0), (0, v1)]) (st' := [(0, 1), (0, v1), (2, Int.ofNat o0), (0, (jshl b1 8))]) rfl ?_
  refine jbind H (fun b2 Hb2 H => ?_)
  refine jEv.calV (st' := [(0, b2), (0, (jshl b1 8))]) (show jfI 10 12 (.invokevirtual 54) 3 [1, 11, 2, 4184] = true by decide +kernel) rfl (Or.inl rfl) rfl (Nat.le_of_ble_eq_true rfl) (by decide +kernel) (by decide) (isX0_L ho0) ((t_Di_octetAt (T := T) (xs := xs) ho0 Hb2).mono (jKle 1 hd)) rfl ?_
  refine jEv.blk [(.ior, 1, [])] (by decide +kernel) (pc' := 16) (ls' := [(2, Int.ofNat o0), (0, v1)]) (st' := [(0, (jor (jshl b1 8) b2))]) rfl ?_
  exact jEv.retI (show jfI 10 16 (.ireturn) 1 [] = true by decide +kernel) (by decide +kernel) (by cases H; exact HY)
set_option maxRecDepth 20000 in
noncomputable def Di_headStands_p50  (h : jH)  : Option Int := some 0
set_option maxRecDepth 20000 in
theorem t_Di_headStands_p50 {T : jT} {xs : List Int} {d : Nat} {y : jV × jS} (hd : 2 ≤ d) {h : jH}   {out : Int}  (H : Di_headStands_p50 h = some out) (HY : ykIp T h y out) : jEv xs d (8, 50, [(3, 0), (3, 0), (3, 0)], []) (T, h) y := by
  unfold Di_headStands_p50 at H
  refine jEv.blk [(.iconst 0, 1, [])] (by decide +kernel) (pc' := 51) (ls' := [(3, 0), (3, 0), (3, 0)]) (st' := [(0, 0)]) rfl ?_
  exact jEv.retZ (show jfI 8 51 (.ireturn) 1 [] = true by decide +kernel) (by decide +kernel) (by decide) (by cases H; exact HY)
set_option maxRecDepth 20000 in
noncomputable def Di_headStands  (h : jH) (o0 : Nat) (v1 : Int) : Option Int := Option.bind (Di_holds h o0 v1 0) (fun b1 => (if b1 = 0 then Di_headStands_p50 h else Option.bind (Di_serialOf h o0 v1) (fun b3 => (if b3 = 0 then Di_headStands_p50 h else Option.bind (Di_octetAt h o0 v1 4) (fun b5 => Option.bind (G_checkOf h 7 (o0 + 1) 512 (wr (v1 * (h o0 3))) (wr ((wr (v1 * (h o0 3))) + 4))) (fun b6 => (if b5 = b6 then some 1 else Di_headStands_p50 h)))))))
set_option maxRecDepth 20000 in
theorem t_Di_headStands {T : jT} {xs : List Int} {h : jH}  {o0 : Nat} {v1 : Int} {out : Int} (ho0 : isX0 T o0) (H : Di_headStands h o0 v1 = some out) : jEm xs 3 8 [(2, Int.ofNat o0), (0, v1)] (T, h) ((0, out), (T, h)) := by
  have hd : 2 ≤ 2 := Nat.le_refl _
  obtain ⟨y, ey⟩ : ∃ y : jV × jS, y = ((0, out), (T, h)) := ⟨_, rfl⟩
  rw [← ey]
  have HY : ykIp T h y out := ey
  refine jEm.ent (n := 3) (by decide +kernel) (Nat.le_of_ble_eq_true rfl) ?_
  show jEv xs 2 (8, 0, [(2, Int.ofNat o0), (0, v1), (3, 0)], []) (T, h) y
  unfold Di_headStands at H
  refine jEv.blk [(.iload_n 1, 1, []), (.aload_n 0, 1, [])] (by decide +kernel) (pc' := 2) (ls' := [(2, Int.ofNat o0), (0, v1), (3, 0)]) (st' := [(2, Int.ofNat o0), (0, v1)]) rfl ?_
  refine jEv.gfI (show jfI 8 2 (.getfield 33) 3 [0, 3, 0, 0, 1188] = true by decide +kernel) (isX0_L ho0) (by decide) ?_
  refine jEv.blk [(.imul, 1, []), (.istore_n 2, 1, []), (.aload_n 0, 1, []), (.iload_n 1, 1, []), (.iconst 0, 1, [])] (by decide +kernel) (pc' := 10) (ls' := [(2, Int.ofNat o0), (0, v1), (0, (wr (v1 * (h o0 3))))]) (st' := [(0, 0), (0, v1), (2, Int.ofNat o0)]) rfl ?_
  refine jbind H (fun b1 Hb1 H => ?_)
  refine jEv.calV (st' := [(0, b1)]) (show jfI 8 10 (.invokevirtual 66) 3 [1, 9, 2, 4176] = true by decide +kernel) rfl (Or.inl rfl) rfl (Nat.le_of_ble_eq_true rfl) (by decide +kernel) (by decide) (isX0_L ho0) ((t_Di_holds (T := T) (xs := xs) ho0 Hb1).mono (jKle 1 hd)) rfl ?_
  refine jEv.if_eq (t := 50) (show jfI 8 13 (.ifCond .eq 37) 3 [] = true by decide +kernel) rfl H (fun c2 H => ?_) (fun c2 H => ?_)
  · exact jEv.weak (a := [(3, 0), (3, 0), (3, 0)]) (jles.c0 (jles.c0 (jles.c0 jles.nl))) (t_Di_headStands_p50 (T := T) (xs := xs) (y := y) hd H HY)
  · refine jEv.blk [(.aload_n 0, 1, []), (.iload_n 1, 1, [])] (by decide +kernel) (pc' := 18) (ls' := [(2, Int.ofNat o0), (0, v1), (0, (wr (v1 * (h o0 3))))]) (st' := [(0, v1), (2, Int.ofNat o0)]) rfl ?_
    refine jbind H (fun b3 Hb3 H => ?_)
    refine jEv.calV (st' := [(0, b3)]) (show jfI 8 18 (.invokevirtual 70) 3 [1, 10, 1, 4180] = true by decide +kernel) rfl (Or.inl rfl) rfl (Nat.le_of_ble_eq_true rfl) (by decide +kernel) (by decide) (isX0_L ho0) ((t_Di_serialOf (T := T) (xs := xs) ho0 Hb3).mono (jKle 2 hd)) rfl ?_
    refine jEv.if_eq (t := 50) (show jfI 8 21 (.ifCond .eq 29) 3 [] = true by decide +kernel) rfl H (fun c4 H => ?_) (fun c4 H => ?_)
    · exact jEv.weak (a := [(3, 0), (3, 0), (3, 0)]) (jles.c0 (jles.c0 (jles.c0 jles.nl))) (t_Di_headStands_p50 (T := T) (xs := xs) (y := y) hd H HY)
    · refine jEv.blk [(.aload_n 0, 1, []), (.iload_n 1, 1, []), (.iconst 4, 1, [])] (by decide +kernel) (pc' := 27) (ls' := [(2, Int.ofNat o0), (0, v1), (0, (wr (v1 * (h o0 3))))]) (st' := [(0, 4), (0, v1), (2, Int.ofNat o0)]) rfl ?_
      refine jbind H (fun b5 Hb5 H => ?_)
      refine jEv.calV (st' := [(0, b5)]) (show jfI 8 27 (.invokevirtual 54) 3 [1, 11, 2, 4184] = true by decide +kernel) rfl (Or.inl rfl) rfl (Nat.le_of_ble_eq_true rfl) (by decide +kernel) (by decide) (isX0_L ho0) ((t_Di_octetAt (T := T) (xs := xs) ho0 Hb5).mono (jKle 1 hd)) rfl ?_
      refine jEv.blk [(.bipush 7, 2, []), (.aload_n 0, 1, [])] (by decide +kernel) (pc' := 33) (ls' := [(2, Int.ofNat o0), (0, v1), (0, (wr (v1 * (h o0 3))))]) (st' := [(2, Int.ofNat o0), (0, 7), (0, b5)]) rfl ?_
      refine jEv.gfR (o' := (o0 + 1)) (show jfI 8 33 (.getfield 9) 3 [0, 0, 5, 0, 1180] = true by decide +kernel) (isX0_L ho0) (by decide) (isX0_r0 ho0) ?_
      refine jEv.blk [(.iload_n 2, 1, []), (.iload_n 2, 1, []), (.iconst 4, 1, []), (.iadd, 1, [])] (by decide +kernel) (pc' := 40) (ls' := [(2, Int.ofNat o0), (0, v1), (0, (wr (v1 * (h o0 3))))]) (st' := [(0, (wr ((wr (v1 * (h o0 3))) + 4))), (0, (wr (v1 * (h o0 3)))), (2, Int.ofNat (o0 + 1)), (0, 7), (0, b5)]) rfl ?_
      refine jbind H (fun b6 Hb6 H => ?_)
      refine jEv.calS (st' := [(0, b6), (0, b5)]) (show jfI 8 40 (.invokestatic 62) 3 [4, 145, 4, 4108] = true by decide +kernel) rfl (Or.inr rfl) rfl (Nat.le_of_ble_eq_true rfl) ((t_G_checkOf (T := T) (xs := xs) (isX0_a0 ho0) Hb6).mono (jKle 1 hd)) rfl ?_
      refine jEv.ic_ne (t := 50) (show jfI 8 43 (.if_icmp .ne 7) 3 [] = true by decide +kernel) rfl H (fun c7 H => ?_) (fun c7 H => ?_)
      · refine jEv.blk [(.iconst 1, 1, [])] (by decide +kernel) (pc' := 47) (ls' := [(2, Int.ofNat o0), (0, v1), (0, (wr (v1 * (h o0 3))))]) (st' := [(0, 1)]) rfl ?_
        refine jEv.goto (t := 51) (show jfI 8 47 (.goto 4) 3 [] = true by decide +kernel) rfl ?_
        exact jEv.retZ (show jfI 8 51 (.ireturn) 1 [] = true by decide +kernel) (by decide +kernel) (by decide) (by cases H; exact HY)
      · exact jEv.weak (a := [(3, 0), (3, 0), (3, 0)]) (jles.c0 (jles.c0 (jles.c0 jles.nl))) (t_Di_headStands_p50 (T := T) (xs := xs) (y := y) hd H HY)
set_option maxRecDepth 20000 in
noncomputable def Di_frameStart  (h : jH) (o0 : Nat) (v1 : Int) : Option Int := Option.bind (Di_blockEnd h o0 v1) (fun b1 => (if 4 < (wr (b1 - v1)) then some v1 else some b1))
set_option maxRecDepth 20000 in
theorem t_Di_frameStart {T : jT} {xs : List Int} {h : jH}  {o0 : Nat} {v1 : Int} {out : Int} (ho0 : isX0 T o0) (H : Di_frameStart h o0 v1 = some out) : jEm xs 2 12 [(2, Int.ofNat o0), (0, v1)] (T, h) ((0, out), (T, h)) := by
  have hd : 1 ≤ 1 := Nat.le_refl _
  obtain ⟨y, ey⟩ : ∃ y : jV × jS, y = ((0, out), (T, h)) := ⟨_, rfl⟩
  rw [← ey]
  have HY : ykIp T h y out := ey
  refine jEm.ent (n := 3) (by decide +kernel) (Nat.le_of_ble_eq_true rfl) ?_
  show jEv xs 1 (12, 0, [(2, Int.ofNat o0), (0, v1), (3, 0)], []) (T, h) y
  unfold Di_frameStart at H
  refine jEv.blk [(.aload_n 0, 1, []), (.iload_n 1, 1, [])] (by decide +kernel) (pc' := 2) (ls' := [(2, Int.ofNat o0), (0, v1), (3, 0)]) (st' := [(0, v1), (2, Int.ofNat o0)]) rfl ?_
  refine jbind H (fun b1 Hb1 H => ?_)
  refine jEv.calV (st' := [(0, b1)]) (show jfI 12 2 (.invokevirtual 83) 3 [1, 6, 1, 4127] = true by decide +kernel) rfl (Or.inl rfl) rfl (Nat.le_of_ble_eq_true rfl) (by decide +kernel) (by decide) (isX0_L ho0) ((t_Di_blockEnd (T := T) (xs := xs) ho0 Hb1).mono (jKle 1 hd)) rfl ?_
  refine jEv.blk [(.istore_n 2, 1, []), (.iload_n 2, 1, []), (.iload_n 1, 1, []), (.isub, 1, []), (.iconst 4, 1, [])] (by decide +kernel) (pc' := 10) (ls' := [(2, Int.ofNat o0), (0, v1), (0, b1)]) (st' := [(0, 4), (0, (wr (b1 - v1)))]) rfl ?_
  refine jEv.ic_gt (t := 17) (show jfI 12 10 (.if_icmp .gt 7) 3 [] = true by decide +kernel) rfl H (fun c2 H => ?_) (fun c2 H => ?_)
  · refine jEv.blk [(.iload_n 1, 1, [])] (by decide +kernel) (pc' := 18) (ls' := [(2, Int.ofNat o0), (0, v1), (0, b1)]) (st' := [(0, v1)]) rfl ?_
    exact jEv.retI (show jfI 12 18 (.ireturn) 1 [] = true by decide +kernel) (by decide +kernel) (by cases H; exact HY)
  · refine jEv.blk [(.iload_n 2, 1, [])] (by decide +kernel) (pc' := 14) (ls' := [(2, Int.ofNat o0), (0, v1), (0, b1)]) (st' := [(0, b1)]) rfl ?_
    refine jEv.goto (t := 18) (show jfI 12 14 (.goto 4) 3 [] = true by decide +kernel) rfl ?_
    exact jEv.retI (show jfI 12 18 (.ireturn) 1 [] = true by decide +kernel) (by decide +kernel) (by cases H; exact HY)
set_option maxRecDepth 20000 in
noncomputable def Di_frameStands_p139  (h : jH)  : Option Int := some 0
set_option maxRecDepth 20000 in
theorem t_Di_frameStands_p139 {T : jT} {xs : List Int} {d : Nat} {y : jV × jS} (hd : 1 ≤ d) {h : jH}   {out : Int}  (H : Di_frameStands_p139 h = some out) (HY : ykIp T h y out) : jEv xs d (13, 139, [(3, 0), (3, 0), (3, 0), (3, 0), (3, 0), (3, 0), (3, 0), (3, 0)], []) (T, h) y := by
  unfold Di_frameStands_p139 at H
  refine jEv.blk [(.iconst 0, 1, [])] (by decide +kernel) (pc' := 140) (ls' := [(3, 0), (3, 0), (3, 0), (3, 0), (3, 0), (3, 0), (3, 0), (3, 0)]) (st' := [(0, 0)]) rfl ?_
  exact jEv.retZ (show jfI 13 140 (.ireturn) 1 [] = true by decide +kernel) (by decide +kernel) (by decide) (by cases H; exact HY)
set_option maxRecDepth 20000 in
noncomputable def Di_frameStands  (h : jH) (o0 : Nat) (v1 : Int) (v2 : Int) (v3 : Int) : Option Int := Option.bind (Di_blockEnd h o0 v2) (fun b1 => (if (wr (v2 + 4)) < b1 then Option.bind (Di_holds h o0 v1 (wr (b1 - 1))) (fun b3 => (if b3 = 0 then some 0 else Option.bind (Di_octetAt h o0 v1 (wr (v2 + 1))) (fun b5 => Option.bind (Di_octetAt h o0 v1 (wr (v2 + 2))) (fun b6 => (if b5 < 1 then some 0 else (if 4 < b5 then some 0 else (if b6 < 1 then some 0 else (if b1 < (wr ((wr (v2 + 4)) + b6)) then some 0 else Option.bind (Di_octetAt h o0 v1 (wr (v2 + 3))) (fun b11 => (if b11 = (jand v3 255) then Option.bind (Di_octetAt h o0 v1 v2) (fun b13 => Option.bind (G_checkOf h 7 (o0 + 1) 512 (wr ((wr ((wr (v1 * (h o0 3))) + v2)) + 1)) (wr ((wr ((wr ((wr (v1 * (h o0 3))) + v2)) + 4)) + b6))) (fun b14 => (if b13 = b14 then some 1 else Di_frameStands_p139 h))) else Di_frameStands_p139 h)))))))))) else some 0))
set_option maxRecDepth 20000 in
theorem t_Di_frameStands {T : jT} {xs : List Int} {h : jH}  {o0 : Nat} {v1 : Int} {v2 : Int} {v3 : Int} {out : Int} (ho0 : isX0 T o0) (H : Di_frameStands h o0 v1 v2 v3 = some out) : jEm xs 2 13 [(2, Int.ofNat o0), (0, v1), (0, v2), (0, v3)] (T, h) ((0, out), (T, h)) := by
  have hd : 1 ≤ 1 := Nat.le_refl _
  obtain ⟨y, ey⟩ : ∃ y : jV × jS, y = ((0, out), (T, h)) := ⟨_, rfl⟩
  rw [← ey]
  have HY : ykIp T h y out := ey
  refine jEm.ent (n := 8) (by decide +kernel) (Nat.le_of_ble_eq_true rfl) ?_
  show jEv xs 1 (13, 0, [(2, Int.ofNat o0), (0, v1), (0, v2), (0, v3), (3, 0), (3, 0), (3, 0), (3, 0)], []) (T, h) y
  unfold Di_frameStands at H
  refine jEv.blk [(.aload_n 0, 1, []), (.iload_n 2, 1, [])] (by decide +kernel) (pc' := 2) (ls' := [(2, Int.ofNat o0), (0, v1), (0, v2), (0, v3), (3, 0), (3, 0), (3, 0), (3, 0)]) (st' := [(0, v2), (2, Int.ofNat o0)]) rfl ?_
  refine jbind H (fun b1 Hb1 H => ?_)
  refine jEv.calV (st' := [(0, b1)]) (show jfI 13 2 (.invokevirtual 83) 3 [1, 6, 1, 4127] = true by decide +kernel) rfl (Or.inl rfl) rfl (Nat.le_of_ble_eq_true rfl) (by decide +kernel) (by decide) (isX0_L ho0) ((t_Di_blockEnd (T := T) (xs := xs) ho0 Hb1).mono (jKle 1 hd)) rfl ?_
  refine jEv.blk [(.istore 4, 2, []), (.iload_n 2, 1, []), (.iconst 4, 1, []), (.iadd, 1, []), (.iload 4, 2, [])] (by decide +kernel) (pc' := 12) (ls' := [(2, Int.ofNat o0), (0, v1), (0, v2), (0, v3), (0, b1), (3, 0), (3, 0), (3, 0)]) (st' := [(0, b1), (0, (wr (v2 + 4)))]) rfl ?_
  refine jEv.ic_ge (t := 27) (show jfI 13 12 (.if_icmp .ge 15) 3 [] = true by decide +kernel) rfl H (fun c2 H => ?_) (fun c2 H => ?_)
  · refine jEv.blk [(.aload_n 0, 1, []), (.iload_n 1, 1, []), (.iload 4, 2, []), (.iconst 1, 1, []), (.isub, 1, [])] (by decide +kernel) (pc' := 21) (ls' := [(2, Int.ofNat o0), (0, v1), (0, v2), (0, v3), (0, b1), (3, 0), (3, 0), (3, 0)]) (st' := [(0, (wr (b1 - 1))), (0, v1), (2, Int.ofNat o0)]) rfl ?_
    refine jbind H (fun b3 Hb3 H => ?_)
    refine jEv.calV (st' := [(0, b3)]) (show jfI 13 21 (.invokevirtual 66) 3 [1, 9, 2, 4176] = true by decide +kernel) rfl (Or.inl rfl) rfl (Nat.le_of_ble_eq_true rfl) (by decide +kernel) (by decide) (isX0_L ho0) ((t_Di_holds (T := T) (xs := xs) ho0 Hb3).mono (jKle 1 hd)) rfl ?_
    refine jEv.if_ne (t := 29) (show jfI 13 24 (.ifCond .ne 5) 3 [] = true by decide +kernel) rfl H (fun c4 H => ?_) (fun c4 H => ?_)
    · refine jEv.blk [(.iconst 0, 1, [])] (by decide +kernel) (pc' := 28) (ls' := [(2, Int.ofNat o0), (0, v1), (0, v2), (0, v3), (0, b1), (3, 0), (3, 0), (3, 0)]) (st' := [(0, 0)]) rfl ?_
      exact jEv.retZ (show jfI 13 28 (.ireturn) 1 [] = true by decide +kernel) (by decide +kernel) (by decide) (by cases H; exact HY)
    · refine jEv.blk [(.aload_n 0, 1, []), (.iload_n 1, 1, []), (.iload_n 2, 1, []), (.iconst 1, 1, []), (.iadd, 1, [])] (by decide +kernel) (pc' := 34) (ls' := [(2, Int.ofNat o0), (0, v1), (0, v2), (0, v3), (0, b1), (3, 0), (3, 0), (3, 0)]) (st' := [(0, (wr (v2 + 1))), (0, v1), (2, Int.ofNat o0)]) rfl ?_
      refine jbind H (fun b5 Hb5 H => ?_)
      refine jEv.calV (st' := [(0, b5)]) (show jfI 13 34 (.invokevirtual 54) 3 [1, 11, 2, 4184] = true by decide +kernel) rfl (Or.inl rfl) rfl (Nat.le_of_ble_eq_true rfl) (by decide +kernel) (by decide) (isX0_L ho0) ((t_Di_octetAt (T := T) (xs := xs) ho0 Hb5).mono (jKle 1 hd)) rfl ?_
      refine jEv.blk [(.istore 5, 2, []), (.aload_n 0, 1, []), (.iload_n 1, 1, []), (.iload_n 2, 1, []), (.iconst 2, 1, []), (.iadd, 1, [])] (by decide +kernel) (pc' := 44) (ls' := [(2, Int.ofNat o0), (0, v1), (0, v2), (0, v3), (0, b1), (0, b5), (3, 0), (3, 0)]) (st' := [(0, (wr (v2 + 2))), (0, v1), (2, Int.ofNat o0)]) rfl ?_
      refine jbind H (fun b6 Hb6 H => ?_)
      refine jEv.calV (st' := [(0, b6)]) (show jfI 13 44 (.invokevirtual 54) 3 [1, 11, 2, 4184] = true by decide +kernel) rfl (Or.inl rfl) rfl (Nat.le_of_ble_eq_true rfl) (by decide +kernel) (by decide) (isX0_L ho0) ((t_Di_octetAt (T := T) (xs := xs) ho0 Hb6).mono (jKle 1 hd)) rfl ?_
      refine jEv.blk [(.istore 6, 2, []), (.iload 5, 2, []), (.iconst 1, 1, [])] (by decide +kernel) (pc' := 52) (ls' := [(2, Int.ofNat o0), (0, v1), (0, v2), (0, v3), (0, b1), (0, b5), (0, b6), (3, 0)]) (st' := [(0, 1), (0, b5)]) rfl ?_
      refine jEv.ic_lt (t := 78) (show jfI 13 52 (.if_icmp .lt 26) 3 [] = true by decide +kernel) rfl H (fun c7 H => ?_) (fun c7 H => ?_)
      · refine jEv.blk [(.iconst 0, 1, [])] (by decide +kernel) (pc' := 79) (ls' := [(2, Int.ofNat o0), (0, v1), (0, v2), (0, v3), (0, b1), (0, b5), (0, b6), (3, 0)]) (st' := [(0, 0)]) rfl ?_
        exact jEv.retZ (show jfI 13 79 (.ireturn) 1 [] = true by decide +kernel) (by decide +kernel) (by decide) (by cases H; exact HY)
      · refine jEv.blk [(.iload 5, 2, []), (.iconst 4, 1, [])] (by decide +kernel) (pc' := 58) (ls' := [(2, Int.ofNat o0), (0, v1), (0, v2), (0, v3), (0, b1), (0, b5), (0, b6), (3, 0)]) (st' := [(0, 4), (0, b5)]) rfl ?_
        refine jEv.ic_gt (t := 78) (show jfI 13 58 (.if_icmp .gt 20) 3 [] = true by decide +kernel) rfl H (fun c8 H => ?_) (fun c8 H => ?_)
        · refine jEv.blk [(.iconst 0, 1, [])] (by decide +kernel) (pc' := 79) (ls' := [(2, Int.ofNat o0), (0, v1), (0, v2), (0, v3), (0, b1), (0, b5), (0, b6), (3, 0)]) (st' := [(0, 0)]) rfl ?_
          exact jEv.retZ (show jfI 13 79 (.ireturn) 1 [] = true by decide +kernel) (by decide +kernel) (by decide) (by cases H; exact HY)
        · refine jEv.blk [(.iload 6, 2, []), (.iconst 1, 1, [])] (by decide +kernel) (pc' := 64) (ls' := [(2, Int.ofNat o0), (0, v1), (0, v2), (0, v3), (0, b1), (0, b5), (0, b6), (3, 0)]) (st' := [(0, 1), (0, b6)]) rfl ?_
          refine jEv.ic_lt (t := 78) (show jfI 13 64 (.if_icmp .lt 14) 3 [] = true by decide +kernel) rfl H (fun c9 H => ?_) (fun c9 H => ?_)
          · refine jEv.blk [(.iconst 0, 1, [])] (by decide +kernel) (pc' := 79) (ls' := [(2, Int.ofNat o0), (0, v1), (0, v2), (0, v3), (0, b1), (0, b5), (0, b6), (3, 0)]) (st' := [(0, 0)]) rfl ?_
            exact jEv.retZ (show jfI 13 79 (.ireturn) 1 [] = true by decide +kernel) (by decide +kernel) (by decide) (by cases H; exact HY)
          · refine jEv.blk [(.iload_n 2, 1, []), (.iconst 4, 1, []), (.iadd, 1, []), (.iload 6, 2, []), (.iadd, 1, []), (.iload 4, 2, [])] (by decide +kernel) (pc' := 75) (ls' := [(2, Int.ofNat o0), (0, v1), (0, v2), (0, v3), (0, b1), (0, b5), (0, b6), (3, 0)]) (st' := [(0, b1), (0, (wr ((wr (v2 + 4)) + b6)))]) rfl ?_
            refine jEv.ic_le (t := 80) (show jfI 13 75 (.if_icmp .le 5) 3 [] = true by decide +kernel) rfl H (fun c10 H => ?_) (fun c10 H => ?_)
            · refine jEv.blk [(.iconst 0, 1, [])] (by decide +kernel) (pc' := 79) (ls' := [(2, Int.ofNat o0), (0, v1), (0, v2), (0, v3), (0, b1), (0, b5), (0, b6), (3, 0)]) (st' := [(0, 0)]) rfl ?_
              exact jEv.retZ (show jfI 13 79 (.ireturn) 1 [] = true by decide +kernel) (by decide +kernel) (by decide) (by cases H; exact HY)
            · refine jEv.blk [(.iload_n 1, 1, []), (.aload_n 0, 1, [])] (by decide +kernel) (pc' := 82) (ls' := [(2, Int.ofNat o0), (0, v1), (0, v2), (0, v3), (0, b1), (0, b5), (0, b6), (3, 0)]) (st' := [(2, Int.ofNat o0), (0, v1)]) rfl ?_
              refine jEv.gfI (show jfI 13 82 (.getfield 33) 3 [0, 3, 0, 0, 1188] = true by decide +kernel) (isX0_L ho0) (by decide) ?_
              refine jEv.blk [(.imul, 1, []), (.iload_n 2, 1, []), (.iadd, 1, []), (.istore 7, 2, []), (.aload_n 0, 1, []), (.iload_n 1, 1, []), (.iload_n 2, 1, []), (.iconst 3, 1, []), (.iadd, 1, [])] (by decide +kernel) (pc' := 95) (ls' := [(2, Int.ofNat o0), (0, v1), (0, v2), (0, v3), (0, b1), (0, b5), (0, b6), (0, (wr ((wr (v1 * (h o0 3))) + v2)))]) (st' := [(0, (wr (v2 + 3))), (0, v1), (2, Int.ofNat o0)]) rfl ?_
              refine jbind H (fun b11 Hb11 H => ?_)
              refine jEv.calV (st' := [(0, b11)]) (show jfI 13 95 (.invokevirtual 54) 3 [1, 11, 2, 4184] = true by decide +kernel) rfl (Or.inl rfl) rfl (Nat.le_of_ble_eq_true rfl) (by decide +kernel) (by decide) (isX0_L ho0) ((t_Di_octetAt (T := T) (xs := xs) ho0 Hb11).mono (jKle 1 hd)) rfl ?_
              refine jEv.blk [(.iload_n 3, 1, []), (.sipush 255, 3, []), (.iand, 1, [])] (by decide +kernel) (pc' := 103) (ls' := [(2, Int.ofNat o0), (0, v1), (0, v2), (0, v3), (0, b1), (0, b5), (0, b6), (0, (wr ((wr (v1 * (h o0 3))) + v2)))]) (st' := [(0, (jand v3 255)), (0, b11)]) rfl ?_
              refine jEv.ic_ne (t := 139) (show jfI 13 103 (.if_icmp .ne 36) 3 [] = true by decide +kernel) rfl H (fun c12 H => ?_) (fun c12 H => ?_)
              · refine jEv.blk [(.aload_n 0, 1, []), (.iload_n 1, 1, []), (.iload_n 2, 1, [])] (by decide +kernel) (pc' := 109) (ls' := [(2, Int.ofNat o0), (0, v1), (0, v2), (0, v3), (0, b1), (0, b5), (0, b6), (0, (wr ((wr (v1 * (h o0 3))) + v2)))]) (st' := [(0, v2), (0, v1), (2, Int.ofNat o0)]) rfl ?_
                refine jbind H (fun b13 Hb13 H => ?_)
                refine jEv.calV (st' := [(0, b13)]) (show jfI 13 109 (.invokevirtual 54) 3 [1, 11, 2, 4184] = true by decide +kernel) rfl (Or.inl rfl) rfl (Nat.le_of_ble_eq_true rfl) (by decide +kernel) (by decide) (isX0_L ho0) ((t_Di_octetAt (T := T) (xs := xs) ho0 Hb13).mono (jKle 1 hd)) rfl ?_
                refine jEv.blk [(.bipush 7, 2, []), (.aload_n 0, 1, [])] (by decide +kernel) (pc' := 115) (ls' := [(2, Int.ofNat o0), (0, v1), (0, v2), (0, v3), (0, b1), (0, b5), (0, b6), (0, (wr ((wr (v1 * (h o0 3))) + v2)))]) (st' := [(2, Int.ofNat o0), (0, 7), (0, b13)]) rfl ?_
                refine jEv.gfR (o' := (o0 + 1)) (show jfI 13 115 (.getfield 9) 3 [0, 0, 5, 0, 1180] = true by decide +kernel) (isX0_L ho0) (by decide) (isX0_r0 ho0) ?_
                refine jEv.blk [(.iload 7, 2, []), (.iconst 1, 1, []), (.iadd, 1, []), (.iload 7, 2, []), (.iconst 4, 1, []), (.iadd, 1, []), (.iload 6, 2, []), (.iadd, 1, [])] (by decide +kernel) (pc' := 129) (ls' := [(2, Int.ofNat o0), (0, v1), (0, v2), (0, v3), (0, b1), (0, b5), (0, b6), (0, (wr ((wr (v1 * (h o0 3))) + v2)))]) (st' := [(0, (wr ((wr ((wr ((wr (v1 * (h o0 3))) + v2)) + 4)) + b6))), (0, (wr ((wr ((wr (v1 * (h o0 3))) + v2)) + 1))), (2, Int.ofNat (o0 + 1)), (0, 7), (0, b13)]) rfl ?_
                refine jbind H (fun b14 Hb14 H => ?_)
                refine jEv.calS (st' := [(0, b14), (0, b13)]) (show jfI 13 129 (.invokestatic 62) 3 [4, 145, 4, 4108] = true by decide +kernel) rfl (Or.inr rfl) rfl (Nat.le_of_ble_eq_true rfl) ((t_G_checkOf (T := T) (xs := xs) (isX0_a0 ho0) Hb14).mono (jKle 1 hd)) rfl ?_
                refine jEv.ic_ne (t := 139) (show jfI 13 132 (.if_icmp .ne 7) 3 [] = true by decide +kernel) rfl H (fun c15 H => ?_) (fun c15 H => ?_)
                · refine jEv.blk [(.iconst 1, 1, [])] (by decide +kernel) (pc' := 136) (ls' := [(2, Int.ofNat o0), (0, v1), (0, v2), (0, v3), (0, b1), (0, b5), (0, b6), (0, (wr ((wr (v1 * (h o0 3))) + v2)))]) (st' := [(0, 1)]) rfl ?_
                  refine jEv.goto (t := 140) (show jfI 13 136 (.goto 4) 3 [] = true by decide +kernel) rfl ?_
                  exact jEv.retZ (show jfI 13 140 (.ireturn) 1 [] = true by decide +kernel) (by decide +kernel) (by decide) (by cases H; exact HY)
                · exact jEv.weak (a := [(3, 0), (3, 0), (3, 0), (3, 0), (3, 0), (3, 0), (3, 0), (3, 0)]) (jles.c0 (jles.c0 (jles.c0 (jles.c0 (jles.c0 (jles.c0 (jles.c0 (jles.c0 jles.nl)))))))) (t_Di_frameStands_p139 (T := T) (xs := xs) (y := y) hd H HY)
              · exact jEv.weak (a := [(3, 0), (3, 0), (3, 0), (3, 0), (3, 0), (3, 0), (3, 0), (3, 0)]) (jles.c0 (jles.c0 (jles.c0 (jles.c0 (jles.c0 (jles.c0 (jles.c0 (jles.c0 jles.nl)))))))) (t_Di_frameStands_p139 (T := T) (xs := xs) (y := y) hd H HY)
  · refine jEv.blk [(.iconst 0, 1, [])] (by decide +kernel) (pc' := 28) (ls' := [(2, Int.ofNat o0), (0, v1), (0, v2), (0, v3), (0, b1), (3, 0), (3, 0), (3, 0)]) (st' := [(0, 0)]) rfl ?_
    exact jEv.retZ (show jfI 13 28 (.ireturn) 1 [] = true by decide +kernel) (by decide +kernel) (by decide) (by cases H; exact HY)
set_option maxRecDepth 20000 in
noncomputable def Di_firstOf  (h : jH) (o0 : Nat) (v1 : Int) : Option Int := Option.bind (Di_octetAt h o0 v1 2) (fun b1 => Option.bind (Di_octetAt h o0 v1 3) (fun b2 => some (jor (jshl b1 8) b2)))
set_option maxRecDepth 20000 in
theorem t_Di_firstOf {T : jT} {xs : List Int} {h : jH}  {o0 : Nat} {v1 : Int} {out : Int} (ho0 : isX0 T o0) (H : Di_firstOf h o0 v1 = some out) : jEm xs 2 14 [(2, Int.ofNat o0), (0, v1)] (T, h) ((0, out), (T, h)) := by
  have hd : 1 ≤ 1 := Nat.le_refl _
  obtain ⟨y, ey⟩ : ∃ y : jV × jS, y = ((0, out), (T, h)) := ⟨_, rfl⟩
  rw [← ey]
  have HY : ykIp T h y out := ey
  refine jEm.ent (n := 2) (by decide +kernel) (Nat.le_of_ble_eq_true rfl) ?_
  show jEv xs 1 (14, 0, [(2, Int.ofNat o0), (0, v1)], []) (T, h) y
  unfold Di_firstOf at H
  refine jEv.blk [(.aload_n 0, 1, []), (.iload_n 1, 1, []), (.iconst 2, 1, [])] (by decide +kernel) (pc' := 3) (ls' := [(2, Int.ofNat o0), (0, v1)]) (st' := [(0, 2), (0, v1), (2, Int.ofNat o0)]) rfl ?_
  refine jbind H (fun b1 Hb1 H => ?_)
  refine jEv.calV (st' := [(0, b1)]) (show jfI 14 3 (.invokevirtual 54) 3 [1, 11, 2, 4184] = true by decide +kernel) rfl (Or.inl rfl) rfl (Nat.le_of_ble_eq_true rfl) (by decide +kernel) (by decide) (isX0_L ho0) ((t_Di_octetAt (T := T) (xs := xs) ho0 Hb1).mono (jKle 1 hd)) rfl ?_
  refine jEv.blk [(.bipush 8, 2, []), (.ishl, 1, []), (.aload_n 0, 1, []), (.iload_n 1, 1, []), (.iconst 3, 1, [])] (by decide +kernel) (pc' := 12) (ls' := [(2, Int.ofNat o0), (0, v1)]) (st' := [(0, 3), (0, v1), (2, Int.ofNat o0), (0, (jshl b1 8))]) rfl ?_
  refine jbind H (fun b2 Hb2 H => ?_)
  refine jEv.calV (st' := [(0, b2), (0, (jshl b1 8))]) (show jfI 14 12 (.invokevirtual 54) 3 [1, 11, 2, 4184] = true by decide +kernel) rfl (Or.inl rfl) rfl (Nat.le_of_ble_eq_true rfl) (by decide +kernel) (by decide) (isX0_L ho0) ((t_Di_octetAt (T := T) (xs := xs) ho0 Hb2).mono (jKle 1 hd)) rfl ?_
  refine jEv.blk [(.ior, 1, [])] (by decide +kernel) (pc' := 16) (ls' := [(2, Int.ofNat o0), (0, v1)]) (st' := [(0, (jor (jshl b1 8) b2))]) rfl ?_
  exact jEv.retI (show jfI 14 16 (.ireturn) 1 [] = true by decide +kernel) (by decide +kernel) (by cases H; exact HY)
set_option maxRecDepth 20000 in
noncomputable def G_copy  (h : jH) (r0 : Nat) (n0 : Nat) (r1 : Nat) (n1 : Nat) : Option jH := (if (0 : Int) ≤ (min ((n0 : Nat) : Int) ((n1 : Nat) : Int)) ∧ (0 : Int) ≤ 0 ∧ (0 : Int) ≤ 0 ∧ (0 : Int).toNat + ((min ((n0 : Nat) : Int) ((n1 : Nat) : Int)) : Int).toNat ≤ n0 ∧ (0 : Int).toNat + ((min ((n0 : Nat) : Int) ((n1 : Nat) : Int)) : Int).toNat ≤ n1 then some (jcpy h r0 r1 (0 : Int).toNat (0 : Int).toNat ((min ((n0 : Nat) : Int) ((n1 : Nat) : Int)) : Int).toNat) else none)
set_option maxRecDepth 20000 in
theorem t_G_copy {T : jT} {xs : List Int} {h : jH}  {r0 : Nat} {n0 : Nat} {r1 : Nat} {n1 : Nat} {out : jH} (hr0 : T.1[r0]? = some (20, n0)) (hr1 : T.1[r1]? = some (20, n1)) (H : G_copy h r0 n0 r1 n1 = some out) : jEm xs 2 159 [(2, Int.ofNat r0), (2, Int.ofNat r1)] (T, h) ((3, 0), (T, out)) := by
  have hd : 1 ≤ 1 := Nat.le_refl _
  obtain ⟨y, ey⟩ : ∃ y : jV × jS, y = ((3, 0), (T, out)) := ⟨_, rfl⟩
  rw [← ey]
  have HY : ykV T y out := ey
  refine jEm.ent (n := 2) (by decide +kernel) (Nat.le_of_ble_eq_true rfl) ?_
  show jEv xs 1 (159, 0, [(2, Int.ofNat r0), (2, Int.ofNat r1)], []) (T, h) y
  unfold G_copy at H
  refine jEv.blk [(.aload_n 0, 1, []), (.iconst 0, 1, []), (.aload_n 1, 1, []), (.iconst 0, 1, []), (.aload_n 0, 1, [])] (by decide +kernel) (pc' := 5) (ls' := [(2, Int.ofNat r0), (2, Int.ofNat r1)]) (st' := [(2, Int.ofNat r0), (0, 0), (2, Int.ofNat r1), (0, 0), (2, Int.ofNat r0)]) rfl ?_
  refine jEv.alen (show jfI 159 5 (.arraylength) 1 [] = true by decide +kernel) hr0 (by decide) ?_
  refine jEv.blk [(.aload_n 1, 1, [])] (by decide +kernel) (pc' := 7) (ls' := [(2, Int.ofNat r0), (2, Int.ofNat r1)]) (st' := [(2, Int.ofNat r1), (0, ((n0 : Nat) : Int)), (0, 0), (2, Int.ofNat r1), (0, 0), (2, Int.ofNat r0)]) rfl ?_
  refine jEv.alen (show jfI 159 7 (.arraylength) 1 [] = true by decide +kernel) hr1 (by decide) ?_
  refine jEv.calS (st' := [(0, (min ((n0 : Nat) : Int) ((n1 : Nat) : Int))), (0, 0), (2, Int.ofNat r1), (0, 0), (2, Int.ofNat r0)]) (show jfI 159 8 (.invokestatic 448) 3 [3, 360, 2, 5058] = true by decide +kernel) rfl (Or.inl rfl) rfl (Nat.le_of_ble_eq_true rfl) ((t_JMath_min_0 (T := T) (xs := xs)).mono (jKle 1 hd)) rfl ?_
  refine jEv.cpy (show jfI 159 11 (.invokestatic 497) 3 [10, 0, 5, 5059] = true by decide +kernel) rfl hr0 hr1 (Nat.le_of_ble_eq_true rfl) H (fun H => ?_)
  exact jEv.retV (show jfI 159 14 (.return_) 1 [] = true by decide +kernel) (by decide +kernel) (by cases H; exact HY)
set_option maxRecDepth 20000 in
noncomputable def Di_copyFrom  (h : jH) (o0 : Nat) (o1 : Nat) : Option jH := Option.bind (G_copy (jup (jup (jup h o0 2 (h o1 2)) o0 4 ((jup h o0 2 (h o1 2)) o1 4)) o0 3 ((jup (jup h o0 2 (h o1 2)) o0 4 ((jup h o0 2 (h o1 2)) o1 4)) o1 3)) (o1 + 1) 512 (o0 + 1) 512) (fun b1 => Option.bind (G_copy b1 (o1 + 2) 512 (o0 + 2) 512) (fun b2 => some b2))
set_option maxRecDepth 20000 in
theorem t_Di_copyFrom {T : jT} {xs : List Int} {h : jH}  {o0 : Nat} {o1 : Nat} {out : jH} (ho0 : isX0 T o0) (ho1 : isX0 T o1) (H : Di_copyFrom h o0 o1 = some out) : jEm xs 3 15 [(2, Int.ofNat o0), (2, Int.ofNat o1)] (T, h) ((3, 0), (T, out)) := by
  have hd : 2 ≤ 2 := Nat.le_refl _
  obtain ⟨y, ey⟩ : ∃ y : jV × jS, y = ((3, 0), (T, out)) := ⟨_, rfl⟩
  rw [← ey]
  have HY : ykV T y out := ey
  refine jEm.ent (n := 2) (by decide +kernel) (Nat.le_of_ble_eq_true rfl) ?_
  show jEv xs 2 (15, 0, [(2, Int.ofNat o0), (2, Int.ofNat o1)], []) (T, h) y
  unfold Di_copyFrom at H
  refine jEv.blk [(.aload_n 0, 1, []), (.aload_n 1, 1, [])] (by decide +kernel) (pc' := 2) (ls' := [(2, Int.ofNat o0), (2, Int.ofNat o1)]) (st' := [(2, Int.ofNat o1), (2, Int.ofNat o0)]) rfl ?_
  refine jEv.gfI (show jfI 15 2 (.getfield 24) 3 [0, 2, 0, 0, 1183] = true by decide +kernel) (isX0_L ho1) (by decide) ?_
  refine jEv.pfI (show jfI 15 5 (.putfield 24) 3 [0, 2, 0, 0, 1183] = true by decide +kernel) (isX0_L ho0) (by decide) ?_
  refine jEv.blk [(.aload_n 0, 1, []), (.aload_n 1, 1, [])] (by decide +kernel) (pc' := 10) (ls' := [(2, Int.ofNat o0), (2, Int.ofNat o1)]) (st' := [(2, Int.ofNat o1), (2, Int.ofNat o0)]) rfl ?_
  refine jEv.gfI (show jfI 15 10 (.getfield 27) 3 [0, 4, 0, 0, 1192] = true by decide +kernel) (isX0_L ho1) (by decide) ?_
  refine jEv.pfI (show jfI 15 13 (.putfield 27) 3 [0, 4, 0, 0, 1192] = true by decide +kernel) (isX0_L ho0) (by decide) ?_
  refine jEv.blk [(.aload_n 0, 1, []), (.aload_n 1, 1, [])] (by decide +kernel) (pc' := 18) (ls' := [(2, Int.ofNat o0), (2, Int.ofNat o1)]) (st' := [(2, Int.ofNat o1), (2, Int.ofNat o0)]) rfl ?_
  refine jEv.gfI (show jfI 15 18 (.getfield 33) 3 [0, 3, 0, 0, 1188] = true by decide +kernel) (isX0_L ho1) (by decide) ?_
  refine jEv.pfI (show jfI 15 21 (.putfield 33) 3 [0, 3, 0, 0, 1188] = true by decide +kernel) (isX0_L ho0) (by decide) ?_
  refine jEv.blk [(.aload_n 1, 1, [])] (by decide +kernel) (pc' := 25) (ls' := [(2, Int.ofNat o0), (2, Int.ofNat o1)]) (st' := [(2, Int.ofNat o1)]) rfl ?_
  refine jEv.gfR (o' := (o1 + 1)) (show jfI 15 25 (.getfield 9) 3 [0, 0, 5, 0, 1180] = true by decide +kernel) (isX0_L ho1) (by decide) (isX0_r0 ho1) ?_
  refine jEv.blk [(.aload_n 0, 1, [])] (by decide +kernel) (pc' := 29) (ls' := [(2, Int.ofNat o0), (2, Int.ofNat o1)]) (st' := [(2, Int.ofNat o0), (2, Int.ofNat (o1 + 1))]) rfl ?_
  refine jEv.gfR (o' := (o0 + 1)) (show jfI 15 29 (.getfield 9) 3 [0, 0, 5, 0, 1180] = true by decide +kernel) (isX0_L ho0) (by decide) (isX0_r0 ho0) ?_
  refine jbind H (fun b1 Hb1 H => ?_)
  refine jEv.calS (st' := []) (show jfI 15 32 (.invokestatic 42) 3 [4, 159, 2, 5055] = true by decide +kernel) rfl (Or.inr rfl) rfl (Nat.le_of_ble_eq_true rfl) ((t_G_copy (T := T) (xs := xs) (isX0_a0 ho1) (isX0_a0 ho0) Hb1).mono (jKle 2 hd)) rfl ?_
  refine jEv.blk [(.aload_n 1, 1, [])] (by decide +kernel) (pc' := 36) (ls' := [(2, Int.ofNat o0), (2, Int.ofNat o1)]) (st' := [(2, Int.ofNat o1)]) rfl ?_
  refine jEv.gfR (o' := (o1 + 2)) (show jfI 15 36 (.getfield 15) 3 [0, 1, 5, 0, 1182] = true by decide +kernel) (isX0_L ho1) (by decide) (isX0_r1 ho1) ?_
  refine jEv.blk [(.aload_n 0, 1, [])] (by decide +kernel) (pc' := 40) (ls' := [(2, Int.ofNat o0), (2, Int.ofNat o1)]) (st' := [(2, Int.ofNat o0), (2, Int.ofNat (o1 + 2))]) rfl ?_
  refine jEv.gfR (o' := (o0 + 2)) (show jfI 15 40 (.getfield 15) 3 [0, 1, 5, 0, 1182] = true by decide +kernel) (isX0_L ho0) (by decide) (isX0_r1 ho0) ?_
  refine jbind H (fun b2 Hb2 H => ?_)
  refine jEv.calS (st' := []) (show jfI 15 43 (.invokestatic 42) 3 [4, 159, 2, 5055] = true by decide +kernel) rfl (Or.inr rfl) rfl (Nat.le_of_ble_eq_true rfl) ((t_G_copy (T := T) (xs := xs) (isX0_a1 ho1) (isX0_a1 ho0) Hb2).mono (jKle 2 hd)) rfl ?_
  exact jEv.retV (show jfI 15 46 (.return_) 1 [] = true by decide +kernel) (by decide +kernel) (by cases H; exact HY)
set_option maxRecDepth 20000 in
noncomputable def Di_frameLength  (h : jH) (o0 : Nat) (v1 : Int) (v2 : Int) : Option Int := Option.bind (Di_blockEnd h o0 v1) (fun b1 => some (min v2 (wr ((wr (b1 - v1)) - 4))))
set_option maxRecDepth 20000 in
theorem t_Di_frameLength {T : jT} {xs : List Int} {h : jH}  {o0 : Nat} {v1 : Int} {v2 : Int} {out : Int} (ho0 : isX0 T o0) (H : Di_frameLength h o0 v1 v2 = some out) : jEm xs 2 16 [(2, Int.ofNat o0), (0, v1), (0, v2)] (T, h) ((0, out), (T, h)) := by
  have hd : 1 ≤ 1 := Nat.le_refl _
  obtain ⟨y, ey⟩ : ∃ y : jV × jS, y = ((0, out), (T, h)) := ⟨_, rfl⟩
  rw [← ey]
  have HY : ykIp T h y out := ey
  refine jEm.ent (n := 3) (by decide +kernel) (Nat.le_of_ble_eq_true rfl) ?_
  show jEv xs 1 (16, 0, [(2, Int.ofNat o0), (0, v1), (0, v2)], []) (T, h) y
  unfold Di_frameLength at H
  refine jEv.blk [(.iload_n 2, 1, []), (.aload_n 0, 1, []), (.iload_n 1, 1, [])] (by decide +kernel) (pc' := 3) (ls' := [(2, Int.ofNat o0), (0, v1), (0, v2)]) (st' := [(0, v1), (2, Int.ofNat o0), (0, v2)]) rfl ?_
  refine jbind H (fun b1 Hb1 H => ?_)
  refine jEv.calV (st' := [(0, b1), (0, v2)]) (show jfI 16 3 (.invokevirtual 83) 3 [1, 6, 1, 4127] = true by decide +kernel) rfl (Or.inl rfl) rfl (Nat.le_of_ble_eq_true rfl) (by decide +kernel) (by decide) (isX0_L ho0) ((t_Di_blockEnd (T := T) (xs := xs) ho0 Hb1).mono (jKle 1 hd)) rfl ?_
  refine jEv.blk [(.iload_n 1, 1, []), (.isub, 1, []), (.iconst 4, 1, []), (.isub, 1, [])] (by decide +kernel) (pc' := 10) (ls' := [(2, Int.ofNat o0), (0, v1), (0, v2)]) (st' := [(0, (wr ((wr (b1 - v1)) - 4))), (0, v2)]) rfl ?_
  refine jEv.calS (st' := [(0, (min v2 (wr ((wr (b1 - v1)) - 4))))]) (show jfI 16 10 (.invokestatic 86) 3 [3, 360, 2, 4131] = true by decide +kernel) rfl (Or.inl rfl) rfl (Nat.le_of_ble_eq_true rfl) ((t_JMath_min_0 (T := T) (xs := xs)).mono (jKle 1 hd)) rfl ?_
  exact jEv.retI (show jfI 16 13 (.ireturn) 1 [] = true by decide +kernel) (by decide +kernel) (by cases H; exact HY)
def yk_Di_greatestSerial_L4 (T : jT) (xs : List Int) (d : Nat) (y : jV × jS) (h : jH)  (o0 : Nat) : ((Int × Int) ⊕ Int) → Prop
  | .inl (v1, v2) => jEv xs d (17, 4, [(2, Int.ofNat o0), (0, v1), (0, v2)], []) (T, h) y
  | .inr o => ykIp T h y o
set_option maxRecDepth 20000 in
noncomputable def Di_greatestSerial_B4  (h : jH) (o0 : Nat) (v1 : Int) (v2 : Int) : Option ((Int × Int) ⊕ Int) := (if v2 < (h o0 2) then Option.bind (Di_headStands h o0 v2) (fun b2 => (if b2 = 0 then some (.inl (v1, (wr (v2 + 1)))) else Option.bind (Di_serialOf h o0 v2) (fun b4 => some (.inl ((max v1 b4), (wr (v2 + 1))))))) else Option.map Sum.inr (some v1))
noncomputable def Di_greatestSerial_L4  (h : jH) (o0 : Nat) (v1 : Int) (v2 : Int) : Option Int := jloop (fun s : (Int × Int) => Di_greatestSerial_B4 h o0 s.1 s.2) (v1, v2)
set_option maxRecDepth 20000 in
theorem t_Di_greatestSerial_B4 {T : jT} {xs : List Int} {d : Nat} {y : jV × jS} (hd : 3 ≤ d) {h : jH}  {o0 : Nat} {v1 : Int} {v2 : Int} {out : ((Int × Int) ⊕ Int)} (ho0 : isX0 T o0) (H : Di_greatestSerial_B4 h o0 v1 v2 = some out) (HY : yk_Di_greatestSerial_L4 T xs d y h o0 out) : jEv xs d (17, 4, [(2, Int.ofNat o0), (0, v1), (0, v2)], []) (T, h) y := by
  unfold Di_greatestSerial_B4 at H
  refine jEv.blk [(.iload_n 2, 1, []), (.aload_n 0, 1, [])] (by decide +kernel) (pc' := 6) (ls' := [(2, Int.ofNat o0), (0, v1), (0, v2)]) (st' := [(2, Int.ofNat o0), (0, v2)]) rfl ?_
  refine jEv.gfI (show jfI 17 6 (.getfield 24) 3 [0, 2, 0, 0, 1183] = true by decide +kernel) (isX0_L ho0) (by decide) ?_
  refine jEv.ic_ge (t := 36) (show jfI 17 9 (.if_icmp .ge 27) 3 [] = true by decide +kernel) rfl H (fun c1 H => ?_) (fun c1 H => ?_)
  · refine jEv.blk [(.aload_n 0, 1, []), (.iload_n 2, 1, [])] (by decide +kernel) (pc' := 14) (ls' := [(2, Int.ofNat o0), (0, v1), (0, v2)]) (st' := [(0, v2), (2, Int.ofNat o0)]) rfl ?_
    refine jbind H (fun b2 Hb2 H => ?_)
    refine jEv.calV (st' := [(0, b2)]) (show jfI 17 14 (.invokevirtual 74) 3 [1, 8, 1, 6051] = true by decide +kernel) rfl (Or.inl rfl) rfl (Nat.le_of_ble_eq_true rfl) (by decide +kernel) (by decide) (isX0_L ho0) ((t_Di_headStands (T := T) (xs := xs) ho0 Hb2).mono (jKle 3 hd)) rfl ?_
    refine jEv.if_eq (t := 30) (show jfI 17 17 (.ifCond .eq 13) 3 [] = true by decide +kernel) rfl H (fun c3 H => ?_) (fun c3 H => ?_)
    · refine jEv.blk [(.iinc 2 1, 3, [])] (by decide +kernel) (pc' := 33) (ls' := [(2, Int.ofNat o0), (0, v1), (0, (wr (v2 + 1)))]) (st' := []) rfl ?_
      refine jEv.goto (t := 4) (show jfI 17 33 (.goto (-29)) 3 [] = true by decide +kernel) rfl ?_
      exact (by cases H; exact HY)
    · refine jEv.blk [(.iload_n 1, 1, []), (.aload_n 0, 1, []), (.iload_n 2, 1, [])] (by decide +kernel) (pc' := 23) (ls' := [(2, Int.ofNat o0), (0, v1), (0, v2)]) (st' := [(0, v2), (2, Int.ofNat o0), (0, v1)]) rfl ?_
      refine jbind H (fun b4 Hb4 H => ?_)
      refine jEv.calV (st' := [(0, b4), (0, v1)]) (show jfI 17 23 (.invokevirtual 70) 3 [1, 10, 1, 4180] = true by decide +kernel) rfl (Or.inl rfl) rfl (Nat.le_of_ble_eq_true rfl) (by decide +kernel) (by decide) (isX0_L ho0) ((t_Di_serialOf (T := T) (xs := xs) ho0 Hb4).mono (jKle 2 hd)) rfl ?_
      refine jEv.calS (st' := [(0, (max v1 b4))]) (show jfI 17 26 (.invokestatic 78) 3 [3, 371, 2, 6052] = true by decide +kernel) rfl (Or.inl rfl) rfl (Nat.le_of_ble_eq_true rfl) ((t_JMath_max_1 (T := T) (xs := xs)).mono (jKle 1 hd)) rfl ?_
      refine jEv.blk [(.istore_n 1, 1, [])] (by decide +kernel) (pc' := 30) (ls' := [(2, Int.ofNat o0), (0, (max v1 b4)), (0, v2)]) (st' := []) rfl ?_
      refine jEv.blk [(.iinc 2 1, 3, [])] (by decide +kernel) (pc' := 33) (ls' := [(2, Int.ofNat o0), (0, (max v1 b4)), (0, (wr (v2 + 1)))]) (st' := []) rfl ?_
      refine jEv.goto (t := 4) (show jfI 17 33 (.goto (-29)) 3 [] = true by decide +kernel) rfl ?_
      exact (by cases H; exact HY)
  · refine jmapr H HY (fun out H (HY : ykIp T h y out) => ?_)
    refine jEv.blk [(.iload_n 1, 1, [])] (by decide +kernel) (pc' := 37) (ls' := [(2, Int.ofNat o0), (0, v1), (0, v2)]) (st' := [(0, v1)]) rfl ?_
    exact jEv.retI (show jfI 17 37 (.ireturn) 1 [] = true by decide +kernel) (by decide +kernel) (by cases H; exact HY)
theorem t_Di_greatestSerial_L4 {T : jT} {xs : List Int} {d : Nat} {y : jV × jS} (hd : 3 ≤ d) {h : jH}  {o0 : Nat} {v1 : Int} {v2 : Int} {out : Int} (ho0 : isX0 T o0) (H : Di_greatestSerial_L4 h o0 v1 v2 = some out) (HY : ykIp T h y out) : jEv xs d (17, 4, [(2, Int.ofNat o0), (0, v1), (0, v2)], []) (T, h) y :=
  jloop_sound (G := fun s : (Int × Int) => jEv xs d (17, 4, [(2, Int.ofNat o0), (0, s.1), (0, s.2)], []) (T, h) y) (K := yk_Di_greatestSerial_L4 T xs d y h o0) (fun s out H HY => t_Di_greatestSerial_B4 hd ho0 H HY) (fun s' hg => hg) (s := (v1, v2)) H HY
set_option maxRecDepth 20000 in
noncomputable def Di_greatestSerial  (h : jH) (o0 : Nat) : Option Int := Di_greatestSerial_L4 h o0 0 0
set_option maxRecDepth 20000 in
theorem t_Di_greatestSerial {T : jT} {xs : List Int} {h : jH}  {o0 : Nat} {out : Int} (ho0 : isX0 T o0) (H : Di_greatestSerial h o0 = some out) : jEm xs 4 17 [(2, Int.ofNat o0)] (T, h) ((0, out), (T, h)) := by
  have hd : 3 ≤ 3 := Nat.le_refl _
  obtain ⟨y, ey⟩ : ∃ y : jV × jS, y = ((0, out), (T, h)) := ⟨_, rfl⟩
  rw [← ey]
  have HY : ykIp T h y out := ey
  refine jEm.ent (n := 3) (by decide +kernel) (Nat.le_of_ble_eq_true rfl) ?_
  show jEv xs 3 (17, 0, [(2, Int.ofNat o0), (3, 0), (3, 0)], []) (T, h) y
  unfold Di_greatestSerial at H
  refine jEv.blk [(.iconst 0, 1, []), (.istore_n 1, 1, []), (.iconst 0, 1, []), (.istore_n 2, 1, [])] (by decide +kernel) (pc' := 4) (ls' := [(2, Int.ofNat o0), (0, 0), (0, 0)]) (st' := []) rfl ?_
  exact t_Di_greatestSerial_L4 (T := T) (xs := xs) (y := y) hd ho0 H HY
set_option maxRecDepth 20000 in
noncomputable def Di_total  (h : jH) (o0 : Nat) : Option Int := some (wr ((h o0 2) * (h o0 3)))
set_option maxRecDepth 20000 in
theorem t_Di_total {T : jT} {xs : List Int} {h : jH}  {o0 : Nat} {out : Int} (ho0 : isX0 T o0) (H : Di_total h o0 = some out) : jEm xs 1 18 [(2, Int.ofNat o0)] (T, h) ((0, out), (T, h)) := by
  have hd : 0 ≤ 0 := Nat.le_refl _
  obtain ⟨y, ey⟩ : ∃ y : jV × jS, y = ((0, out), (T, h)) := ⟨_, rfl⟩
  rw [← ey]
  have HY : ykIp T h y out := ey
  refine jEm.ent (n := 1) (by decide +kernel) (Nat.le_of_ble_eq_true rfl) ?_
  show jEv xs 0 (18, 0, [(2, Int.ofNat o0)], []) (T, h) y
  unfold Di_total at H
  refine jEv.blk [(.aload_n 0, 1, [])] (by decide +kernel) (pc' := 1) (ls' := [(2, Int.ofNat o0)]) (st' := [(2, Int.ofNat o0)]) rfl ?_
  refine jEv.gfI (show jfI 18 1 (.getfield 24) 3 [0, 2, 0, 0, 1183] = true by decide +kernel) (isX0_L ho0) (by decide) ?_
  refine jEv.blk [(.aload_n 0, 1, [])] (by decide +kernel) (pc' := 5) (ls' := [(2, Int.ofNat o0)]) (st' := [(2, Int.ofNat o0), (0, (h o0 2))]) rfl ?_
  refine jEv.gfI (show jfI 18 5 (.getfield 33) 3 [0, 3, 0, 0, 1188] = true by decide +kernel) (isX0_L ho0) (by decide) ?_
  refine jEv.blk [(.imul, 1, [])] (by decide +kernel) (pc' := 9) (ls' := [(2, Int.ofNat o0)]) (st' := [(0, (wr ((h o0 2) * (h o0 3))))]) rfl ?_
  exact jEv.retI (show jfI 18 9 (.ireturn) 1 [] = true by decide +kernel) (by decide +kernel) (by cases H; exact HY)
set_option maxRecDepth 20000 in
noncomputable def G_cell_p16  (h : jH)  : Option Int := some (-1)
set_option maxRecDepth 20000 in
theorem t_G_cell_p16 {T : jT} {xs : List Int} {d : Nat} {y : jV × jS} (hd : 0 ≤ d) {h : jH}   {out : Int}  (H : G_cell_p16 h = some out) (HY : ykIp T h y out) : jEv xs d (137, 16, [(3, 0), (3, 0)], []) (T, h) y := by
  unfold G_cell_p16 at H
  refine jEv.blk [(.iconst (-1), 1, [])] (by decide +kernel) (pc' := 17) (ls' := [(3, 0), (3, 0)]) (st' := [(0, (-1))]) rfl ?_
  exact jEv.retI (show jfI 137 17 (.ireturn) 1 [] = true by decide +kernel) (by decide +kernel) (by cases H; exact HY)
set_option maxRecDepth 20000 in
noncomputable def G_cell  (h : jH) (r0 : Nat) (n0 : Nat) (v1 : Int) : Option Int := (if v1 < 0 then G_cell_p16 h else (if v1 < ((n0 : Nat) : Int) then (if (0 : Int) ≤ v1 ∧ (v1 : Int).toNat < n0 then some (h r0 (v1 : Int).toNat) else none) else G_cell_p16 h))
set_option maxRecDepth 20000 in
theorem t_G_cell {T : jT} {xs : List Int} {h : jH}  {r0 : Nat} {n0 : Nat} {v1 : Int} {out : Int} (hr0 : T.1[r0]? = some (20, n0)) (H : G_cell h r0 n0 v1 = some out) : jEm xs 1 137 [(2, Int.ofNat r0), (0, v1)] (T, h) ((0, out), (T, h)) := by
  have hd : 0 ≤ 0 := Nat.le_refl _
  obtain ⟨y, ey⟩ : ∃ y : jV × jS, y = ((0, out), (T, h)) := ⟨_, rfl⟩
  rw [← ey]
  have HY : ykIp T h y out := ey
  refine jEm.ent (n := 2) (by decide +kernel) (Nat.le_of_ble_eq_true rfl) ?_
  show jEv xs 0 (137, 0, [(2, Int.ofNat r0), (0, v1)], []) (T, h) y
  unfold G_cell at H
  refine jEv.blk [(.iload_n 1, 1, [])] (by decide +kernel) (pc' := 1) (ls' := [(2, Int.ofNat r0), (0, v1)]) (st' := [(0, v1)]) rfl ?_
  refine jEv.if_lt (t := 16) (show jfI 137 1 (.ifCond .lt 15) 3 [] = true by decide +kernel) rfl H (fun c1 H => ?_) (fun c1 H => ?_)
  · exact jEv.weak (a := [(3, 0), (3, 0)]) (jles.c0 (jles.c0 jles.nl)) (t_G_cell_p16 (T := T) (xs := xs) (y := y) hd H HY)
  · refine jEv.blk [(.iload_n 1, 1, []), (.aload_n 0, 1, [])] (by decide +kernel) (pc' := 6) (ls' := [(2, Int.ofNat r0), (0, v1)]) (st' := [(2, Int.ofNat r0), (0, v1)]) rfl ?_
    refine jEv.alen (show jfI 137 6 (.arraylength) 1 [] = true by decide +kernel) hr0 (by decide) ?_
    refine jEv.ic_ge (t := 16) (show jfI 137 7 (.if_icmp .ge 9) 3 [] = true by decide +kernel) rfl H (fun c2 H => ?_) (fun c2 H => ?_)
    · refine jEv.blk [(.aload_n 0, 1, []), (.iload_n 1, 1, [])] (by decide +kernel) (pc' := 12) (ls' := [(2, Int.ofNat r0), (0, v1)]) (st' := [(0, v1), (2, Int.ofNat r0)]) rfl ?_
      refine jEv.ald (Or.inl ⟨rfl, rfl, rfl⟩) (show jfI 137 12 (.iaload) 1 [] = true by decide +kernel) hr0 H (fun c3 H => ?_)
      refine jEv.goto (t := 17) (show jfI 137 13 (.goto 4) 3 [] = true by decide +kernel) rfl ?_
      exact jEv.retI (show jfI 137 17 (.ireturn) 1 [] = true by decide +kernel) (by decide +kernel) (by cases H; exact HY)
    · exact jEv.weak (a := [(3, 0), (3, 0)]) (jles.c0 (jles.c0 jles.nl)) (t_G_cell_p16 (T := T) (xs := xs) (y := y) hd H HY)
set_option maxRecDepth 20000 in
noncomputable def Di_turn  (h : jH) (o0 : Nat) (v1 : Int) : Option jH := Option.bind (G_cell h (o0 + 1) 512 v1) (fun b1 => Option.bind (G_put h (o0 + 1) 512 v1 (wr (255 - b1))) (fun b2 => Option.bind (G_cell b2 (o0 + 2) 512 v1) (fun b3 => Option.bind (G_put b2 (o0 + 2) 512 v1 (wr (1 - b3))) (fun b4 => some b4))))
set_option maxRecDepth 20000 in
theorem t_Di_turn {T : jT} {xs : List Int} {h : jH}  {o0 : Nat} {v1 : Int} {out : jH} (ho0 : isX0 T o0) (H : Di_turn h o0 v1 = some out) : jEm xs 2 19 [(2, Int.ofNat o0), (0, v1)] (T, h) ((3, 0), (T, out)) := by
  have hd : 1 ≤ 1 := Nat.le_refl _
  obtain ⟨y, ey⟩ : ∃ y : jV × jS, y = ((3, 0), (T, out)) := ⟨_, rfl⟩
  rw [← ey]
  have HY : ykV T y out := ey
  refine jEm.ent (n := 2) (by decide +kernel) (Nat.le_of_ble_eq_true rfl) ?_
  show jEv xs 1 (19, 0, [(2, Int.ofNat o0), (0, v1)], []) (T, h) y
  unfold Di_turn at H
  refine jEv.blk [(.aload_n 0, 1, [])] (by decide +kernel) (pc' := 1) (ls' := [(2, Int.ofNat o0), (0, v1)]) (st' := [(2, Int.ofNat o0)]) rfl ?_
  refine jEv.gfR (o' := (o0 + 1)) (show jfI 19 1 (.getfield 9) 3 [0, 0, 5, 0, 1180] = true by decide +kernel) (isX0_L ho0) (by decide) (isX0_r0 ho0) ?_
  refine jEv.blk [(.iload_n 1, 1, []), (.sipush 255, 3, []), (.aload_n 0, 1, [])] (by decide +kernel) (pc' := 9) (ls' := [(2, Int.ofNat o0), (0, v1)]) (st' := [(2, Int.ofNat o0), (0, 255), (0, v1), (2, Int.ofNat (o0 + 1))]) rfl ?_
  refine jEv.gfR (o' := (o0 + 1)) (show jfI 19 9 (.getfield 9) 3 [0, 0, 5, 0, 1180] = true by decide +kernel) (isX0_L ho0) (by decide) (isX0_r0 ho0) ?_
  refine jEv.blk [(.iload_n 1, 1, [])] (by decide +kernel) (pc' := 13) (ls' := [(2, Int.ofNat o0), (0, v1)]) (st' := [(0, v1), (2, Int.ofNat (o0 + 1)), (0, 255), (0, v1), (2, Int.ofNat (o0 + 1))]) rfl ?_
  refine jbind H (fun b1 Hb1 H => ?_)
  refine jEv.calS (st' := [(0, b1), (0, 255), (0, v1), (2, Int.ofNat (o0 + 1))]) (show jfI 19 13 (.invokestatic 50) 3 [4, 137, 2, 6073] = true by decide +kernel) rfl (Or.inr rfl) rfl (Nat.le_of_ble_eq_true rfl) ((t_G_cell (T := T) (xs := xs) (isX0_a0 ho0) Hb1).mono (jKle 1 hd)) rfl ?_
  refine jEv.blk [(.isub, 1, [])] (by decide +kernel) (pc' := 17) (ls' := [(2, Int.ofNat o0), (0, v1)]) (st' := [(0, (wr (255 - b1))), (0, v1), (2, Int.ofNat (o0 + 1))]) rfl ?_
  refine jbind H (fun b2 Hb2 H => ?_)
  refine jEv.calS (st' := []) (show jfI 19 17 (.invokestatic 46) 3 [4, 138, 3, 4107] = true by decide +kernel) rfl (Or.inr rfl) rfl (Nat.le_of_ble_eq_true rfl) ((t_G_put (T := T) (xs := xs) (isX0_a0 ho0) Hb2).mono (jKle 1 hd)) rfl ?_
  refine jEv.blk [(.aload_n 0, 1, [])] (by decide +kernel) (pc' := 21) (ls' := [(2, Int.ofNat o0), (0, v1)]) (st' := [(2, Int.ofNat o0)]) rfl ?_
  refine jEv.gfR (o' := (o0 + 2)) (show jfI 19 21 (.getfield 15) 3 [0, 1, 5, 0, 1182] = true by decide +kernel) (isX0_L ho0) (by decide) (isX0_r1 ho0) ?_
  refine jEv.blk [(.iload_n 1, 1, []), (.iconst 1, 1, []), (.aload_n 0, 1, [])] (by decide +kernel) (pc' := 27) (ls' := [(2, Int.ofNat o0), (0, v1)]) (st' := [(2, Int.ofNat o0), (0, 1), (0, v1), (2, Int.ofNat (o0 + 2))]) rfl ?_
  refine jEv.gfR (o' := (o0 + 2)) (show jfI 19 27 (.getfield 15) 3 [0, 1, 5, 0, 1182] = true by decide +kernel) (isX0_L ho0) (by decide) (isX0_r1 ho0) ?_
  refine jEv.blk [(.iload_n 1, 1, [])] (by decide +kernel) (pc' := 31) (ls' := [(2, Int.ofNat o0), (0, v1)]) (st' := [(0, v1), (2, Int.ofNat (o0 + 2)), (0, 1), (0, v1), (2, Int.ofNat (o0 + 2))]) rfl ?_
  refine jbind H (fun b3 Hb3 H => ?_)
  refine jEv.calS (st' := [(0, b3), (0, 1), (0, v1), (2, Int.ofNat (o0 + 2))]) (show jfI 19 31 (.invokestatic 50) 3 [4, 137, 2, 6073] = true by decide +kernel) rfl (Or.inr rfl) rfl (Nat.le_of_ble_eq_true rfl) ((t_G_cell (T := T) (xs := xs) (isX0_a1 ho0) Hb3).mono (jKle 1 hd)) rfl ?_
  refine jEv.blk [(.isub, 1, [])] (by decide +kernel) (pc' := 35) (ls' := [(2, Int.ofNat o0), (0, v1)]) (st' := [(0, (wr (1 - b3))), (0, v1), (2, Int.ofNat (o0 + 2))]) rfl ?_
  refine jbind H (fun b4 Hb4 H => ?_)
  refine jEv.calS (st' := []) (show jfI 19 35 (.invokestatic 46) 3 [4, 138, 3, 4107] = true by decide +kernel) rfl (Or.inr rfl) rfl (Nat.le_of_ble_eq_true rfl) ((t_G_put (T := T) (xs := xs) (isX0_a1 ho0) Hb4).mono (jKle 1 hd)) rfl ?_
  exact jEv.retV (show jfI 19 38 (.return_) 1 [] = true by decide +kernel) (by decide +kernel) (by cases H; exact HY)
def yk_Di_wipe_L5 (T : jT) (xs : List Int) (d : Nat) (y : jV × jS)  (o0 : Nat) (v1 : Int) : ((Int × Int × jH) ⊕ (Int × jH)) → Prop
  | .inl (v3, v4, h) => jEv xs d (20, 5, [(2, Int.ofNat o0), (0, v1), (3, 0), (0, v3), (0, v4)], []) (T, h) y
  | .inr o => ykI T y o
set_option maxRecDepth 20000 in
noncomputable def Di_wipe_p30  (h : jH) (o0 : Nat) (v1 : Int) (v4 : Int) (vs0 : Int) (vs1 : Int) : Option ((Int × Int × jH) ⊕ (Int × jH)) := Option.bind (Di_write h o0 (wr ((wr (v1 * (h o0 3))) + v4)) 0) (fun b4 => some (.inl ((wr (vs0 + vs1)), (wr (v4 + 1)), b4)))
set_option maxRecDepth 20000 in
theorem t_Di_wipe_p30 {T : jT} {xs : List Int} {d : Nat} {y : jV × jS} (hd : 2 ≤ d) {h : jH}  {o0 : Nat} {v1 : Int} {v4 : Int} {vs0 : Int} {vs1 : Int} {out : ((Int × Int × jH) ⊕ (Int × jH))} (ho0 : isX0 T o0) (H : Di_wipe_p30 h o0 v1 v4 vs0 vs1 = some out) (HY : yk_Di_wipe_L5 T xs d y o0 v1 out) : jEv xs d (20, 30, [(2, Int.ofNat o0), (0, v1), (3, 0), (3, 0), (0, v4)], [(0, vs1), (0, vs0)]) (T, h) y := by
  unfold Di_wipe_p30 at H
  refine jEv.blk [(.iadd, 1, []), (.istore_n 3, 1, []), (.aload_n 0, 1, []), (.iload_n 1, 1, []), (.aload_n 0, 1, [])] (by decide +kernel) (pc' := 35) (ls' := [(2, Int.ofNat o0), (0, v1), (3, 0), (0, (wr (vs0 + vs1))), (0, v4)]) (st' := [(2, Int.ofNat o0), (0, v1), (2, Int.ofNat o0)]) rfl ?_
  refine jEv.gfI (show jfI 20 35 (.getfield 33) 3 [0, 3, 0, 0, 1188] = true by decide +kernel) (isX0_L ho0) (by decide) ?_
  refine jEv.blk [(.imul, 1, []), (.iload 4, 2, []), (.iadd, 1, []), (.iconst 0, 1, [])] (by decide +kernel) (pc' := 43) (ls' := [(2, Int.ofNat o0), (0, v1), (3, 0), (0, (wr (vs0 + vs1))), (0, v4)]) (st' := [(0, 0), (0, (wr ((wr (v1 * (h o0 3))) + v4))), (2, Int.ofNat o0)]) rfl ?_
  refine jbind H (fun b4 Hb4 H => ?_)
  refine jEv.calV (st' := []) (show jfI 20 43 (.invokevirtual 58) 3 [1, 4, 2, 4103] = true by decide +kernel) rfl (Or.inl rfl) rfl (Nat.le_of_ble_eq_true rfl) (by decide +kernel) (by decide) (isX0_L ho0) ((t_Di_write (T := T) (xs := xs) ho0 Hb4).mono (jKle 2 hd)) rfl ?_
  refine jEv.blk [(.iinc 4 1, 3, [])] (by decide +kernel) (pc' := 49) (ls' := [(2, Int.ofNat o0), (0, v1), (3, 0), (0, (wr (vs0 + vs1))), (0, (wr (v4 + 1)))]) (st' := []) rfl ?_
  refine jEv.goto (t := 5) (show jfI 20 49 (.goto (-44)) 3 [] = true by decide +kernel) rfl ?_
  exact (by cases H; exact HY)
set_option maxRecDepth 20000 in
noncomputable def Di_wipe_B5  (h : jH) (o0 : Nat) (v1 : Int) (v3 : Int) (v4 : Int) : Option ((Int × Int × jH) ⊕ (Int × jH)) := (if v4 < (h o0 3) then Option.bind (Di_octetAt h o0 v1 v4) (fun b2 => (if b2 = 0 then Di_wipe_p30 h o0 v1 v4 v3 0 else Di_wipe_p30 h o0 v1 v4 v3 1)) else Option.map Sum.inr (some (v3, h)))
noncomputable def Di_wipe_L5  (h : jH) (o0 : Nat) (v1 : Int) (v3 : Int) (v4 : Int) : Option (Int × jH) := jloop (fun s : (Int × Int × jH) => Di_wipe_B5 s.2.2 o0 v1 s.1 s.2.1) (v3, v4, h)
set_option maxRecDepth 20000 in
theorem t_Di_wipe_B5 {T : jT} {xs : List Int} {d : Nat} {y : jV × jS} (hd : 2 ≤ d) {h : jH}  {o0 : Nat} {v1 : Int} {v3 : Int} {v4 : Int} {out : ((Int × Int × jH) ⊕ (Int × jH))} (ho0 : isX0 T o0) (H : Di_wipe_B5 h o0 v1 v3 v4 = some out) (HY : yk_Di_wipe_L5 T xs d y o0 v1 out) : jEv xs d (20, 5, [(2, Int.ofNat o0), (0, v1), (3, 0), (0, v3), (0, v4)], []) (T, h) y := by
  unfold Di_wipe_B5 at H
  refine jEv.blk [(.iload 4, 2, []), (.aload_n 0, 1, [])] (by decide +kernel) (pc' := 8) (ls' := [(2, Int.ofNat o0), (0, v1), (3, 0), (0, v3), (0, v4)]) (st' := [(2, Int.ofNat o0), (0, v4)]) rfl ?_
  refine jEv.gfI (show jfI 20 8 (.getfield 33) 3 [0, 3, 0, 0, 1188] = true by decide +kernel) (isX0_L ho0) (by decide) ?_
  refine jEv.ic_ge (t := 52) (show jfI 20 11 (.if_icmp .ge 41) 3 [] = true by decide +kernel) rfl H (fun c1 H => ?_) (fun c1 H => ?_)
  · refine jEv.blk [(.iload_n 3, 1, []), (.aload_n 0, 1, []), (.iload_n 1, 1, []), (.iload 4, 2, [])] (by decide +kernel) (pc' := 19) (ls' := [(2, Int.ofNat o0), (0, v1), (3, 0), (0, v3), (0, v4)]) (st' := [(0, v4), (0, v1), (2, Int.ofNat o0), (0, v3)]) rfl ?_
    refine jbind H (fun b2 Hb2 H => ?_)
    refine jEv.calV (st' := [(0, b2), (0, v3)]) (show jfI 20 19 (.invokevirtual 54) 3 [1, 11, 2, 4184] = true by decide +kernel) rfl (Or.inl rfl) rfl (Nat.le_of_ble_eq_true rfl) (by decide +kernel) (by decide) (isX0_L ho0) ((t_Di_octetAt (T := T) (xs := xs) ho0 Hb2).mono (jKle 1 hd)) rfl ?_
    refine jEv.if_eq (t := 29) (show jfI 20 22 (.ifCond .eq 7) 3 [] = true by decide +kernel) rfl H (fun c3 H => ?_) (fun c3 H => ?_)
    · refine jEv.blk [(.iconst 0, 1, [])] (by decide +kernel) (pc' := 30) (ls' := [(2, Int.ofNat o0), (0, v1), (3, 0), (0, v3), (0, v4)]) (st' := [(0, 0), (0, v3)]) rfl ?_
      exact jEv.weak (a := [(2, Int.ofNat o0), (0, v1), (3, 0), (3, 0), (0, v4)]) (jles.c1 (jles.c1 (jles.c0 (jles.c0 (jles.c1 jles.nl))))) (t_Di_wipe_p30 (T := T) (xs := xs) (y := y) hd ho0 H HY)
    · refine jEv.blk [(.iconst 1, 1, [])] (by decide +kernel) (pc' := 26) (ls' := [(2, Int.ofNat o0), (0, v1), (3, 0), (0, v3), (0, v4)]) (st' := [(0, 1), (0, v3)]) rfl ?_
      refine jEv.goto (t := 30) (show jfI 20 26 (.goto 4) 3 [] = true by decide +kernel) rfl ?_
      exact jEv.weak (a := [(2, Int.ofNat o0), (0, v1), (3, 0), (3, 0), (0, v4)]) (jles.c1 (jles.c1 (jles.c0 (jles.c0 (jles.c1 jles.nl))))) (t_Di_wipe_p30 (T := T) (xs := xs) (y := y) hd ho0 H HY)
  · refine jmapr H HY (fun out H (HY : ykI T y out) => ?_)
    refine jEv.blk [(.iload_n 3, 1, [])] (by decide +kernel) (pc' := 53) (ls' := [(2, Int.ofNat o0), (0, v1), (3, 0), (0, v3), (0, v4)]) (st' := [(0, v3)]) rfl ?_
    exact jEv.retI (show jfI 20 53 (.ireturn) 1 [] = true by decide +kernel) (by decide +kernel) (by cases H; exact HY)
theorem t_Di_wipe_L5 {T : jT} {xs : List Int} {d : Nat} {y : jV × jS} (hd : 2 ≤ d) {h : jH}  {o0 : Nat} {v1 : Int} {v3 : Int} {v4 : Int} {out : (Int × jH)} (ho0 : isX0 T o0) (H : Di_wipe_L5 h o0 v1 v3 v4 = some out) (HY : ykI T y out) : jEv xs d (20, 5, [(2, Int.ofNat o0), (0, v1), (3, 0), (0, v3), (0, v4)], []) (T, h) y :=
  jloop_sound (G := fun s : (Int × Int × jH) => jEv xs d (20, 5, [(2, Int.ofNat o0), (0, v1), (3, 0), (0, s.1), (0, s.2.1)], []) (T, s.2.2) y) (K := yk_Di_wipe_L5 T xs d y o0 v1) (fun s out H HY => t_Di_wipe_B5 hd ho0 H HY) (fun s' hg => hg) (s := (v3, v4, h)) H HY
set_option maxRecDepth 20000 in
noncomputable def Di_wipe  (h : jH) (o0 : Nat) (v1 : Int) (v2 : Int) : Option (Int × jH) := Di_wipe_L5 h o0 v1 0 v2
set_option maxRecDepth 20000 in
theorem t_Di_wipe {T : jT} {xs : List Int} {h : jH}  {o0 : Nat} {v1 : Int} {v2 : Int} {out : (Int × jH)} (ho0 : isX0 T o0) (H : Di_wipe h o0 v1 v2 = some out) : jEm xs 3 20 [(2, Int.ofNat o0), (0, v1), (0, v2)] (T, h) ((0, out.1), (T, out.2)) := by
  have hd : 2 ≤ 2 := Nat.le_refl _
  obtain ⟨y, ey⟩ : ∃ y : jV × jS, y = ((0, out.1), (T, out.2)) := ⟨_, rfl⟩
  rw [← ey]
  have HY : ykI T y out := ey
  refine jEm.ent (n := 5) (by decide +kernel) (Nat.le_of_ble_eq_true rfl) ?_
  show jEv xs 2 (20, 0, [(2, Int.ofNat o0), (0, v1), (0, v2), (3, 0), (3, 0)], []) (T, h) y
  unfold Di_wipe at H
  refine jEv.blk [(.iconst 0, 1, []), (.istore_n 3, 1, []), (.iload_n 2, 1, []), (.istore 4, 2, [])] (by decide +kernel) (pc' := 5) (ls' := [(2, Int.ofNat o0), (0, v1), (0, v2), (0, 0), (0, v2)]) (st' := []) rfl ?_
  exact jEv.weak (a := [(2, Int.ofNat o0), (0, v1), (3, 0), (0, 0), (0, v2)]) (jles.c1 (jles.c1 (jles.c0 (jles.c1 (jles.c1 jles.nl))))) (t_Di_wipe_L5 (T := T) (xs := xs) (y := y) hd ho0 H HY)
set_option maxRecDepth 20000 in
noncomputable def Fl_clear  (h : jH) (o0 : Nat) : Option jH := some (jup (jup h o0 2 0) o0 3 0)
set_option maxRecDepth 20000 in
theorem t_Fl_clear {T : jT} {xs : List Int} {h : jH}  {o0 : Nat} {out : jH} (ho0 : isX1 T o0) (H : Fl_clear h o0 = some out) : jEm xs 1 22 [(2, Int.ofNat o0)] (T, h) ((3, 0), (T, out)) := by
  have hd : 0 ≤ 0 := Nat.le_refl _
  obtain ⟨y, ey⟩ : ∃ y : jV × jS, y = ((3, 0), (T, out)) := ⟨_, rfl⟩
  rw [← ey]
  have HY : ykV T y out := ey
  refine jEm.ent (n := 1) (by decide +kernel) (Nat.le_of_ble_eq_true rfl) ?_
  show jEv xs 0 (22, 0, [(2, Int.ofNat o0)], []) (T, h) y
  unfold Fl_clear at H
  refine jEv.blk [(.aload_n 0, 1, []), (.iconst 0, 1, [])] (by decide +kernel) (pc' := 2) (ls' := [(2, Int.ofNat o0)]) (st' := [(0, 0), (2, Int.ofNat o0)]) rfl ?_
  refine jEv.pfI (show jfI 22 2 (.putfield 18) 3 [1, 2, 0, 0, 1213] = true by decide +kernel) (isX1_L ho0) (by decide) ?_
  refine jEv.blk [(.aload_n 0, 1, []), (.iconst 0, 1, [])] (by decide +kernel) (pc' := 7) (ls' := [(2, Int.ofNat o0)]) (st' := [(0, 0), (2, Int.ofNat o0)]) rfl ?_
  refine jEv.pfI (show jfI 22 7 (.putfield 22) 3 [1, 3, 0, 0, 1217] = true by decide +kernel) (isX1_L ho0) (by decide) ?_
  exact jEv.retV (show jfI 22 10 (.return_) 1 [] = true by decide +kernel) (by decide +kernel) (by cases H; exact HY)
set_option maxRecDepth 20000 in
noncomputable def Fl_copyFrom  (h : jH) (o0 : Nat) (o1 : Nat) : Option jH := Option.bind (G_copy (jup (jup h o0 2 (h o1 2)) o0 3 ((jup h o0 2 (h o1 2)) o1 3)) (o1 + 1) 512 (o0 + 1) 512) (fun b1 => Option.bind (G_copy b1 (o1 + 2) 512 (o0 + 2) 512) (fun b2 => some b2))
set_option maxRecDepth 20000 in
theorem t_Fl_copyFrom {T : jT} {xs : List Int} {h : jH}  {o0 : Nat} {o1 : Nat} {out : jH} (ho0 : isX1 T o0) (ho1 : isX1 T o1) (H : Fl_copyFrom h o0 o1 = some out) : jEm xs 3 23 [(2, Int.ofNat o0), (2, Int.ofNat o1)] (T, h) ((3, 0), (T, out)) := by
  have hd : 2 ≤ 2 := Nat.le_refl _
  obtain ⟨y, ey⟩ : ∃ y : jV × jS, y = ((3, 0), (T, out)) := ⟨_, rfl⟩
  rw [← ey]
  have HY : ykV T y out := ey
  refine jEm.ent (n := 2) (by decide +kernel) (Nat.le_of_ble_eq_true rfl) ?_
  show jEv xs 2 (23, 0, [(2, Int.ofNat o0), (2, Int.ofNat o1)], []) (T, h) y
  unfold Fl_copyFrom at H
  refine jEv.blk [(.aload_n 0, 1, []), (.aload_n 1, 1, [])] (by decide +kernel) (pc' := 2) (ls' := [(2, Int.ofNat o0), (2, Int.ofNat o1)]) (st' := [(2, Int.ofNat o1), (2, Int.ofNat o0)]) rfl ?_
  refine jEv.gfI (show jfI 23 2 (.getfield 18) 3 [1, 2, 0, 0, 1213] = true by decide +kernel) (isX1_L ho1) (by decide) ?_
  refine jEv.pfI (show jfI 23 5 (.putfield 18) 3 [1, 2, 0, 0, 1213] = true by decide +kernel) (isX1_L ho0) (by decide) ?_
  refine jEv.blk [(.aload_n 0, 1, []), (.aload_n 1, 1, [])] (by decide +kernel) (pc' := 10) (ls' := [(2, Int.ofNat o0), (2, Int.ofNat o1)]) (st' := [(2, Int.ofNat o1), (2, Int.ofNat o0)]) rfl ?_
  refine jEv.gfI (show jfI 23 10 (.getfield 22) 3 [1, 3, 0, 0, 1217] = true by decide +kernel) (isX1_L ho1) (by decide) ?_
  refine jEv.pfI (show jfI 23 13 (.putfield 22) 3 [1, 3, 0, 0, 1217] = true by decide +kernel) (isX1_L ho0) (by decide) ?_
  refine jEv.blk [(.aload_n 1, 1, [])] (by decide +kernel) (pc' := 17) (ls' := [(2, Int.ofNat o0), (2, Int.ofNat o1)]) (st' := [(2, Int.ofNat o1)]) rfl ?_
  refine jEv.gfR (o' := (o1 + 1)) (show jfI 23 17 (.getfield 9) 3 [1, 0, 5, 0, 1210] = true by decide +kernel) (isX1_L ho1) (by decide) (isX1_r0 ho1) ?_
  refine jEv.blk [(.aload_n 0, 1, [])] (by decide +kernel) (pc' := 21) (ls' := [(2, Int.ofNat o0), (2, Int.ofNat o1)]) (st' := [(2, Int.ofNat o0), (2, Int.ofNat (o1 + 1))]) rfl ?_
  refine jEv.gfR (o' := (o0 + 1)) (show jfI 23 21 (.getfield 9) 3 [1, 0, 5, 0, 1210] = true by decide +kernel) (isX1_L ho0) (by decide) (isX1_r0 ho0) ?_
  refine jbind H (fun b1 Hb1 H => ?_)
  refine jEv.calS (st' := []) (show jfI 23 24 (.invokestatic 25) 3 [4, 159, 2, 5066] = true by decide +kernel) rfl (Or.inr rfl) rfl (Nat.le_of_ble_eq_true rfl) ((t_G_copy (T := T) (xs := xs) (isX1_a0 ho1) (isX1_a0 ho0) Hb1).mono (jKle 2 hd)) rfl ?_
  refine jEv.blk [(.aload_n 1, 1, [])] (by decide +kernel) (pc' := 28) (ls' := [(2, Int.ofNat o0), (2, Int.ofNat o1)]) (st' := [(2, Int.ofNat o1)]) rfl ?_
  refine jEv.gfR (o' := (o1 + 2)) (show jfI 23 28 (.getfield 15) 3 [1, 1, 5, 0, 1211] = true by decide +kernel) (isX1_L ho1) (by decide) (isX1_r1 ho1) ?_
  refine jEv.blk [(.aload_n 0, 1, [])] (by decide +kernel) (pc' := 32) (ls' := [(2, Int.ofNat o0), (2, Int.ofNat o1)]) (st' := [(2, Int.ofNat o0), (2, Int.ofNat (o1 + 2))]) rfl ?_
  refine jEv.gfR (o' := (o0 + 2)) (show jfI 23 32 (.getfield 15) 3 [1, 1, 5, 0, 1211] = true by decide +kernel) (isX1_L ho0) (by decide) (isX1_r1 ho0) ?_
  refine jbind H (fun b2 Hb2 H => ?_)
  refine jEv.calS (st' := []) (show jfI 23 35 (.invokestatic 25) 3 [4, 159, 2, 5066] = true by decide +kernel) rfl (Or.inr rfl) rfl (Nat.le_of_ble_eq_true rfl) ((t_G_copy (T := T) (xs := xs) (isX1_a1 ho1) (isX1_a1 ho0) Hb2).mono (jKle 2 hd)) rfl ?_
  exact jEv.retV (show jfI 23 38 (.return_) 1 [] = true by decide +kernel) (by decide +kernel) (by cases H; exact HY)
