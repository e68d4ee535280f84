/-! methods as functions -/
set_option maxRecDepth 20000 in
noncomputable def G_canPass_p37 (T : jT) (h : jH)  : Option Int := some 0
set_option maxRecDepth 20000 in
theorem t_G_canPass_p37 {T : jT} {xs : List Int} {d : Nat} {y : jV × jS} (hd : 1 ≤ d) {h : jH}   {out : Int}  (H : G_canPass_p37 T h = some out) (HY : ykIp T h y out) : jEv xs d (181, 37, [(3, 0), (3, 0)], []) (T, h) y := by
  unfold G_canPass_p37 at H
  refine jEv.blk [(.iconst 0, 1, [])] (by decide +kernel) (pc' := 38) (ls' := [(3, 0), (3, 0)]) (st' := [(0, 0)]) rfl ?_
  exact jEv.retZ (show jfI 181 38 (.ireturn) 1 [] = true by decide +kernel) (by decide +kernel) (by decide) (by cases H; exact HY)
set_option maxRecDepth 20000 in
noncomputable def G_canPass (T : jT) (h : jH) (o0 : Nat) (v1 : Int) : Option Int := Option.bind (G_isTold T h o0) (fun b1 => (if b1 = 0 then G_canPass_p37 T h else (if v1 < 1 then G_canPass_p37 T h else (if 100 < v1 then G_canPass_p37 T h else (if 999 < (wr ((h (o0 + 35) 9) + v1)) then G_canPass_p37 T h else some 1)))))
set_option maxRecDepth 20000 in
theorem t_G_canPass {T : jT} {xs : List Int} {h : jH}  {o0 : Nat} {v1 : Int} {out : Int} (ho0 : isX11 T o0) (H : G_canPass T h o0 v1 = some out) : jEm xs 2 181 [(2, Int.ofNat o0), (0, v1)] (T, h) ((0, out), (T, h)) := by
  have hd : 1 ≤ 1 := Nat.le_refl _
  obtain ⟨y, ey⟩ : ∃ y : jV × jS, y = ((0, out), (T, h)) := ⟨_, rfl⟩
  rw [← ey]
  have HY : ykIp T h y out := ey
  refine jEm.ent (n := 2) (by decide +kernel) (Nat.le_of_ble_eq_true rfl) ?_
  show jEv xs 1 (181, 0, [(2, Int.ofNat o0), (0, v1)], []) (T, h) y
  unfold G_canPass at H
  refine jEv.blk [(.aload_n 0, 1, [])] (by decide +kernel) (pc' := 1) (ls' := [(2, Int.ofNat o0), (0, v1)]) (st' := [(2, Int.ofNat o0)]) rfl ?_
  refine jbind H (fun b1 Hb1 H => ?_)
  refine jEv.calV (st' := [(0, b1)]) (show jfI 181 1 (.invokevirtual 228) 3 [1, 152, 0, 5004] = true by decide +kernel) rfl (Or.inl rfl) rfl (Nat.le_of_ble_eq_true rfl) (by decide +kernel) (by decide) (isX11_L ho0) ((t_G_isTold (T := T) (xs := xs) ho0 Hb1).mono (jKle 1 hd)) rfl ?_
  refine jEv.if_eq (t := 37) (show jfI 181 4 (.ifCond .eq 33) 3 [] = true by decide +kernel) rfl H (fun c2 H => ?_) (fun c2 H => ?_)
  · exact jEv.weak (a := [(3, 0), (3, 0)]) (jles.c0 (jles.c0 jles.nl)) (t_G_canPass_p37 (T := T) (xs := xs) (y := y) hd H HY)
  · refine jEv.blk [(.iload_n 1, 1, []), (.iconst 1, 1, [])] (by decide +kernel) (pc' := 9) (ls' := [(2, Int.ofNat o0), (0, v1)]) (st' := [(0, 1), (0, v1)]) rfl ?_
    refine jEv.ic_lt (t := 37) (show jfI 181 9 (.if_icmp .lt 28) 3 [] = true by decide +kernel) rfl H (fun c3 H => ?_) (fun c3 H => ?_)
    · exact jEv.weak (a := [(3, 0), (3, 0)]) (jles.c0 (jles.c0 jles.nl)) (t_G_canPass_p37 (T := T) (xs := xs) (y := y) hd H HY)
    · refine jEv.blk [(.iload_n 1, 1, []), (.bipush 100, 2, [])] (by decide +kernel) (pc' := 15) (ls' := [(2, Int.ofNat o0), (0, v1)]) (st' := [(0, 100), (0, v1)]) rfl ?_
      refine jEv.ic_gt (t := 37) (show jfI 181 15 (.if_icmp .gt 22) 3 [] = true by decide +kernel) rfl H (fun c4 H => ?_) (fun c4 H => ?_)
      · exact jEv.weak (a := [(3, 0), (3, 0)]) (jles.c0 (jles.c0 jles.nl)) (t_G_canPass_p37 (T := T) (xs := xs) (y := y) hd H HY)
      · refine jEv.blk [(.aload_n 0, 1, [])] (by decide +kernel) (pc' := 19) (ls' := [(2, Int.ofNat o0), (0, v1)]) (st' := [(2, Int.ofNat o0)]) rfl ?_
        refine jEv.gfR (o' := (o0 + 35)) (show jfI 181 19 (.getfield 45) 3 [11, 10, 5, 0, 3011] = true by decide +kernel) (isX11_L ho0) (by decide) (isX11_r10 ho0) ?_
        refine jEv.gfI (show jfI 181 22 (.getfield 127) 3 [9, 9, 0, 0, 2085] = true by decide +kernel) (isX9_L (isX11_s10 ho0)) (by decide) ?_
        refine jEv.blk [(.iload_n 1, 1, []), (.iadd, 1, []), (.sipush 999, 3, [])] (by decide +kernel) (pc' := 30) (ls' := [(2, Int.ofNat o0), (0, v1)]) (st' := [(0, 999), (0, (wr ((h (o0 + 35) 9) + v1)))]) rfl ?_
        refine jEv.ic_gt (t := 37) (show jfI 181 30 (.if_icmp .gt 7) 3 [] = true by decide +kernel) rfl H (fun c5 H => ?_) (fun c5 H => ?_)
        · exact jEv.weak (a := [(3, 0), (3, 0)]) (jles.c0 (jles.c0 jles.nl)) (t_G_canPass_p37 (T := T) (xs := xs) (y := y) hd H HY)
        · refine jEv.blk [(.iconst 1, 1, [])] (by decide +kernel) (pc' := 34) (ls' := [(2, Int.ofNat o0), (0, v1)]) (st' := [(0, 1)]) rfl ?_
          refine jEv.goto (t := 38) (show jfI 181 34 (.goto 4) 3 [] = true by decide +kernel) rfl ?_
          exact jEv.retZ (show jfI 181 38 (.ireturn) 1 [] = true by decide +kernel) (by decide +kernel) (by decide) (by cases H; exact HY)
def yk_G_ticks_L22 (T : jT) (xs : List Int) (d : Nat) (y : jV × jS)  (o0 : Nat) (v1 : Int) : ((Int × Int × jH) ⊕ (Int × jH)) → Prop
  | .inl (v2, v3, h) => jEv xs d (180, 22, [(2, Int.ofNat o0), (0, v1), (0, v2), (0, v3)], []) (T, h) y
  | .inr o => ykI T y o
set_option maxRecDepth 20000 in
noncomputable def G_ticks_B22 (T : jT) (h : jH) (o0 : Nat) (v1 : Int) (v2 : Int) (v3 : Int) : Option ((Int × Int × jH) ⊕ (Int × jH)) := (if v3 < v1 then Option.bind (St_passTick T h (o0 + 35) (o0 + 78) 0) (fun b6 => some (.inl ((wr (v2 + b6.1)), (wr (v3 + 1)), b6.2))) else Option.map Sum.inr (some (v2, h)))
noncomputable def G_ticks_L22 (T : jT) (h : jH) (o0 : Nat) (v1 : Int) (v2 : Int) (v3 : Int) : Option (Int × jH) := jloop (fun s : (Int × Int × jH) => G_ticks_B22 T s.2.2 o0 v1 s.1 s.2.1) (v2, v3, h)
set_option maxRecDepth 20000 in
theorem t_G_ticks_B22 {T : jT} {xs : List Int} {d : Nat} {y : jV × jS} (hd : 6 ≤ d) {h : jH}  {o0 : Nat} {v1 : Int} {v2 : Int} {v3 : Int} {out : ((Int × Int × jH) ⊕ (Int × jH))} (ho0 : isX11 T o0) (H : G_ticks_B22 T h o0 v1 v2 v3 = some out) (HY : yk_G_ticks_L22 T xs d y o0 v1 out) : jEv xs d (180, 22, [(2, Int.ofNat o0), (0, v1), (0, v2), (0, v3)], []) (T, h) y := by
  unfold G_ticks_B22 at H
  refine jEv.blk [(.iload_n 3, 1, []), (.iload_n 1, 1, [])] (by decide +kernel) (pc' := 24) (ls' := [(2, Int.ofNat o0), (0, v1), (0, v2), (0, v3)]) (st' := [(0, v1), (0, v3)]) rfl ?_
  refine jEv.ic_ge (t := 48) (show jfI 180 24 (.if_icmp .ge 24) 3 [] = true by decide +kernel) rfl H (fun c5 H => ?_) (fun c5 H => ?_)
  · refine jEv.blk [(.iload_n 2, 1, []), (.aload_n 0, 1, [])] (by decide +kernel) (pc' := 29) (ls' := [(2, Int.ofNat o0), (0, v1), (0, v2), (0, v3)]) (st' := [(2, Int.ofNat o0), (0, v2)]) rfl ?_
    refine jEv.gfR (o' := (o0 + 35)) (show jfI 180 29 (.getfield 45) 3 [11, 10, 5, 0, 3011] = true by decide +kernel) (isX11_L ho0) (by decide) (isX11_r10 ho0) ?_
    refine jEv.blk [(.aload_n 0, 1, [])] (by decide +kernel) (pc' := 33) (ls' := [(2, Int.ofNat o0), (0, v1), (0, v2), (0, v3)]) (st' := [(2, Int.ofNat o0), (2, Int.ofNat (o0 + 35)), (0, v2)]) rfl ?_
    refine jEv.gfR (o' := (o0 + 78)) (show jfI 180 33 (.getfield 59) 3 [11, 15, 5, 0, 3016] = true by decide +kernel) (isX11_L ho0) (by decide) (isX11_r15 ho0) ?_
    refine jEv.blk [(.iconst 0, 1, [])] (by decide +kernel) (pc' := 37) (ls' := [(2, Int.ofNat o0), (0, v1), (0, v2), (0, v3)]) (st' := [(0, 0), (2, Int.ofNat (o0 + 78)), (2, Int.ofNat (o0 + 35)), (0, v2)]) rfl ?_
    refine jbind H (fun b6 Hb6 H => ?_)
    refine jEv.calV (st' := [(0, b6.1), (0, v2)]) (show jfI 180 37 (.invokevirtual 270) 3 [1, 115, 2, 5078] = true by decide +kernel) rfl (Or.inl rfl) rfl (Nat.le_of_ble_eq_true rfl) (by decide +kernel) (by decide) (isX9_L (isX11_s10 ho0)) ((t_St_passTick (T := T) (xs := xs) (isX11_s10 ho0) (isX11_s15 ho0) Hb6).mono (jKle 6 hd)) rfl ?_
    refine jEv.blk [(.iadd, 1, []), (.istore_n 2, 1, []), (.iinc 3 1, 3, [])] (by decide +kernel) (pc' := 45) (ls' := [(2, Int.ofNat o0), (0, v1), (0, (wr (v2 + b6.1))), (0, (wr (v3 + 1)))]) (st' := []) rfl ?_
    refine jEv.goto (t := 22) (show jfI 180 45 (.goto (-23)) 3 [] = true by decide +kernel) rfl ?_
    exact (by cases H; exact HY)
  · refine jmapr H HY (fun out H (HY : ykI T y out) => ?_)
    refine jEv.blk [(.iload_n 2, 1, [])] (by decide +kernel) (pc' := 49) (ls' := [(2, Int.ofNat o0), (0, v1), (0, v2), (0, v3)]) (st' := [(0, v2)]) rfl ?_
    exact jEv.retI (show jfI 180 49 (.ireturn) 1 [] = true by decide +kernel) (by decide +kernel) (by cases H; exact HY)
theorem t_G_ticks_L22 {T : jT} {xs : List Int} {d : Nat} {y : jV × jS} (hd : 6 ≤ d) {h : jH}  {o0 : Nat} {v1 : Int} {v2 : Int} {v3 : Int} {out : (Int × jH)} (ho0 : isX11 T o0) (H : G_ticks_L22 T h o0 v1 v2 v3 = some out) (HY : ykI T y out) : jEv xs d (180, 22, [(2, Int.ofNat o0), (0, v1), (0, v2), (0, v3)], []) (T, h) y :=
  jloop_sound (G := fun s : (Int × Int × jH) => jEv xs d (180, 22, [(2, Int.ofNat o0), (0, v1), (0, s.1), (0, s.2.1)], []) (T, s.2.2) y) (K := yk_G_ticks_L22 T xs d y o0 v1) (fun s out H HY => t_G_ticks_B22 hd ho0 H HY) (fun s' hg => hg) (s := (v2, v3, h)) H HY
set_option maxRecDepth 20000 in
noncomputable def G_ticks (T : jT) (h : jH) (o0 : Nat) (v1 : Int) : Option (Int × jH) := Option.bind (G_canPass T h o0 v1) (fun b1 => (if b1 = 0 then Option.bind (G_refuse h o0 3) (fun b3 => some (b3.1, b3.2)) else Option.bind (G_remember T h o0) (fun b4 => G_ticks_L22 T b4 o0 v1 0 0)))
set_option maxRecDepth 20000 in
theorem t_G_ticks {T : jT} {xs : List Int} {h : jH}  {o0 : Nat} {v1 : Int} {out : (Int × jH)} (ho0 : isX11 T o0) (H : G_ticks T h o0 v1 = some out) : jEm xs 7 180 [(2, Int.ofNat o0), (0, v1)] (T, h) ((0, out.1), (T, out.2)) := by
  have hd : 6 ≤ 6 := Nat.le_refl _
  obtain ⟨y, ey⟩ : ∃ y : jV × jS, y = ((0, out.1), (T, out.2)) := ⟨_, rfl⟩
  rw [← ey]
  have HY : ykI T y out := ey
  refine jEm.ent (n := 4) (by decide +kernel) (Nat.le_of_ble_eq_true rfl) ?_
  show jEv xs 6 (180, 0, [(2, Int.ofNat o0), (0, v1), (3, 0), (3, 0)], []) (T, h) y
  unfold G_ticks at H
  refine jEv.blk [(.aload_n 0, 1, []), (.iload_n 1, 1, [])] (by decide +kernel) (pc' := 2) (ls' := [(2, Int.ofNat o0), (0, v1), (3, 0), (3, 0)]) (st' := [(0, v1), (2, Int.ofNat o0)]) rfl ?_
  refine jbind H (fun b1 Hb1 H => ?_)
  refine jEv.calV (st' := [(0, b1)]) (show jfI 180 2 (.invokevirtual 343) 3 [1, 181, 1, 6136] = true by decide +kernel) rfl (Or.inl rfl) rfl (Nat.le_of_ble_eq_true rfl) (by decide +kernel) (by decide) (isX11_L ho0) ((t_G_canPass (T := T) (xs := xs) ho0 Hb1).mono (jKle 2 hd)) rfl ?_
  refine jEv.if_ne (t := 14) (show jfI 180 5 (.ifCond .ne 9) 3 [] = true by decide +kernel) rfl H (fun c2 H => ?_) (fun c2 H => ?_)
  · refine jEv.blk [(.aload_n 0, 1, []), (.iconst 3, 1, [])] (by decide +kernel) (pc' := 10) (ls' := [(2, Int.ofNat o0), (0, v1), (3, 0), (3, 0)]) (st' := [(0, 3), (2, Int.ofNat o0)]) rfl ?_
    refine jbind H (fun b3 Hb3 H => ?_)
    refine jEv.calV (st' := [(0, b3.1)]) (show jfI 180 10 (.invokevirtual 80) 3 [1, 136, 1, 3066] = true by decide +kernel) rfl (Or.inl rfl) rfl (Nat.le_of_ble_eq_true rfl) (by decide +kernel) (by decide) (isX11_L ho0) ((t_G_refuse (T := T) (xs := xs) ho0 Hb3).mono (jKle 2 hd)) rfl ?_
    exact jEv.retI (show jfI 180 13 (.ireturn) 1 [] = true by decide +kernel) (by decide +kernel) (by cases H; exact HY)
  · refine jEv.blk [(.aload_n 0, 1, [])] (by decide +kernel) (pc' := 15) (ls' := [(2, Int.ofNat o0), (0, v1), (3, 0), (3, 0)]) (st' := [(2, Int.ofNat o0)]) rfl ?_
    refine jbind H (fun b4 Hb4 H => ?_)
    refine jEv.calV (st' := []) (show jfI 180 15 (.invokevirtual 333) 3 [1, 178, 0, 6116] = true by decide +kernel) rfl (Or.inl rfl) rfl (Nat.le_of_ble_eq_true rfl) (by decide +kernel) (by decide) (isX11_L ho0) ((t_G_remember (T := T) (xs := xs) ho0 Hb4).mono (jKle 5 hd)) rfl ?_
    refine jEv.blk [(.iconst 0, 1, []), (.istore_n 2, 1, []), (.iconst 0, 1, []), (.istore_n 3, 1, [])] (by decide +kernel) (pc' := 22) (ls' := [(2, Int.ofNat o0), (0, v1), (0, 0), (0, 0)]) (st' := []) rfl ?_
    exact t_G_ticks_L22 (T := T) (xs := xs) (y := y) hd ho0 H HY
set_option maxRecDepth 20000 in
noncomputable def G_draw  (h : jH) (o0 : Nat) (v1 : Int) : Option (Int × jH) := (if 0 < v1 then (if v1 ≠ 0 then some ((wr (Int.tmod (wl (Int.tdiv ((jup h o0 5 (jlan (wl ((wl (1103515245 * (h o0 5))) + 12345)) 2147483647)) o0 5) 64)) v1)), (jup h o0 5 (jlan (wl ((wl (1103515245 * (h o0 5))) + 12345)) 2147483647))) else none) else some (0, (jup h o0 5 (jlan (wl ((wl (1103515245 * (h o0 5))) + 12345)) 2147483647))))
set_option maxRecDepth 20000 in
theorem t_G_draw {T : jT} {xs : List Int} {h : jH}  {o0 : Nat} {v1 : Int} {out : (Int × jH)} (ho0 : isX11 T o0) (H : G_draw h o0 v1 = some out) : jEm xs 1 183 [(2, Int.ofNat o0), (0, v1)] (T, h) ((0, out.1), (T, out.2)) := by
  have hd : 0 ≤ 0 := Nat.le_refl _
  obtain ⟨y, ey⟩ : ∃ y : jV × jS, y = ((0, out.1), (T, out.2)) := ⟨_, rfl⟩
  rw [← ey]
  have HY : ykI T y out := ey
  refine jEm.ent (n := 2) (by decide +kernel) (Nat.le_of_ble_eq_true rfl) ?_
  show jEv xs 0 (183, 0, [(2, Int.ofNat o0), (0, v1)], []) (T, h) y
  unfold G_draw at H
  refine jEv.blk [(.aload_n 0, 1, []), (.ldc2_w 453, 3, [1, 0, 1103515245, 6148]), (.aload_n 0, 1, [])] (by decide +kernel) (pc' := 5) (ls' := [(2, Int.ofNat o0), (0, v1)]) (st' := [(2, Int.ofNat o0), (1, 1103515245), (2, Int.ofNat o0)]) rfl ?_
  refine jEv.gfJ (show jfI 183 5 (.getfield 19) 3 [11, 5, 1, 0, 3006] = true by decide +kernel) (isX11_L ho0) (by decide) ?_
  refine jEv.blk [(.lmul, 1, []), (.ldc2_w 455, 3, [1, 0, 12345, 6149]), (.ladd, 1, []), (.ldc2_w 457, 3, [1, 0, 2147483647, 6150]), (.land, 1, [])] (by decide +kernel) (pc' := 17) (ls' := [(2, Int.ofNat o0), (0, v1)]) (st' := [(1, (jlan (wl ((wl (1103515245 * (h o0 5))) + 12345)) 2147483647)), (2, Int.ofNat o0)]) rfl ?_
  refine jEv.pfJ (show jfI 183 17 (.putfield 19) 3 [11, 5, 1, 0, 3006] = true by decide +kernel) (isX11_L ho0) (by decide) ?_
  refine jEv.blk [(.iload_n 1, 1, [])] (by decide +kernel) (pc' := 21) (ls' := [(2, Int.ofNat o0), (0, v1)]) (st' := [(0, v1)]) rfl ?_
  refine jEv.if_le (t := 39) (show jfI 183 21 (.ifCond .le 18) 3 [] = true by decide +kernel) rfl H (fun c1 H => ?_) (fun c1 H => ?_)
  · refine jEv.blk [(.aload_n 0, 1, [])] (by decide +kernel) (pc' := 25) (ls' := [(2, Int.ofNat o0), (0, v1)]) (st' := [(2, Int.ofNat o0)]) rfl ?_
    refine jEv.gfJ (show jfI 183 25 (.getfield 19) 3 [11, 5, 1, 0, 3006] = true by decide +kernel) (isX11_L ho0) (by decide) ?_
    refine jEv.blk [(.ldc2_w 459, 3, [1, 0, 64, 6151])] (by decide +kernel) (pc' := 31) (ls' := [(2, Int.ofNat o0), (0, v1)]) (st' := [(1, 64), (1, ((jup h o0 5 (jlan (wl ((wl (1103515245 * (h o0 5))) + 12345)) 2147483647)) o0 5))]) rfl ?_
    refine jEv.ldiv (show jfI 183 31 (.ldiv) 1 [] = true by decide +kernel) (by decide) ?_
    refine jEv.blk [(.iload_n 1, 1, []), (.i2l, 1, [])] (by decide +kernel) (pc' := 34) (ls' := [(2, Int.ofNat o0), (0, v1)]) (st' := [(1, v1), (1, (wl (Int.tdiv ((jup h o0 5 (jlan (wl ((wl (1103515245 * (h o0 5))) + 12345)) 2147483647)) o0 5) 64)))]) rfl ?_
    refine jchk H (fun c2 H => ?_)
    refine jEv.lrem (show jfI 183 34 (.lrem) 1 [] = true by decide +kernel) c2 ?_
    refine jEv.blk [(.l2i, 1, [])] (by decide +kernel) (pc' := 36) (ls' := [(2, Int.ofNat o0), (0, v1)]) (st' := [(0, (wr (Int.tmod (wl (Int.tdiv ((jup h o0 5 (jlan (wl ((wl (1103515245 * (h o0 5))) + 12345)) 2147483647)) o0 5) 64)) v1)))]) rfl ?_
    refine jEv.goto (t := 40) (show jfI 183 36 (.goto 4) 3 [] = true by decide +kernel) rfl ?_
    exact jEv.retI (show jfI 183 40 (.ireturn) 1 [] = true by decide +kernel) (by decide +kernel) (by cases H; exact HY)
  · refine jEv.blk [(.iconst 0, 1, [])] (by decide +kernel) (pc' := 40) (ls' := [(2, Int.ofNat o0), (0, v1)]) (st' := [(0, 0)]) rfl ?_
    exact jEv.retI (show jfI 183 40 (.ireturn) 1 [] = true by decide +kernel) (by decide +kernel) (by cases H; exact HY)
def yk_G_chance_L22 (T : jT) (xs : List Int) (d : Nat) (y : jV × jS)  (o0 : Nat) (v1 : Int) : ((Int × Int × jH) ⊕ (Int × jH)) → Prop
  | .inl (v2, v3, h) => jEv xs d (182, 22, [(2, Int.ofNat o0), (0, v1), (0, v2), (0, v3), (3, 0)], []) (T, h) y
  | .inr o => ykI T y o
set_option maxRecDepth 20000 in
noncomputable def G_chance_p100 (T : jT) (h : jH) (o0 : Nat) (v1 : Int) (v2 : Int) (v3 : Int) : Option ((Int × Int × jH) ⊕ (Int × jH)) := Option.bind (St_passTick T h (o0 + 35) (o0 + 78) 0) (fun b12 => some (.inl (v2, (wr (v3 + 1)), b12.2)))
set_option maxRecDepth 20000 in
theorem t_G_chance_p100 {T : jT} {xs : List Int} {d : Nat} {y : jV × jS} (hd : 6 ≤ d) {h : jH}  {o0 : Nat} {v1 : Int} {v2 : Int} {v3 : Int} {out : ((Int × Int × jH) ⊕ (Int × jH))} (ho0 : isX11 T o0) (H : G_chance_p100 T h o0 v1 v2 v3 = some out) (HY : yk_G_chance_L22 T xs d y o0 v1 out) : jEv xs d (182, 100, [(2, Int.ofNat o0), (0, v1), (0, v2), (0, v3), (3, 0)], []) (T, h) y := by
  unfold G_chance_p100 at H
  refine jEv.blk [(.aload_n 0, 1, [])] (by decide +kernel) (pc' := 101) (ls' := [(2, Int.ofNat o0), (0, v1), (0, v2), (0, v3), (3, 0)]) (st' := [(2, Int.ofNat o0)]) rfl ?_
  refine jEv.gfR (o' := (o0 + 35)) (show jfI 182 101 (.getfield 45) 3 [11, 10, 5, 0, 3011] = true by decide +kernel) (isX11_L ho0) (by decide) (isX11_r10 ho0) ?_
  refine jEv.blk [(.aload_n 0, 1, [])] (by decide +kernel) (pc' := 105) (ls' := [(2, Int.ofNat o0), (0, v1), (0, v2), (0, v3), (3, 0)]) (st' := [(2, Int.ofNat o0), (2, Int.ofNat (o0 + 35))]) rfl ?_
  refine jEv.gfR (o' := (o0 + 78)) (show jfI 182 105 (.getfield 59) 3 [11, 15, 5, 0, 3016] = true by decide +kernel) (isX11_L ho0) (by decide) (isX11_r15 ho0) ?_
  refine jEv.blk [(.iconst 0, 1, [])] (by decide +kernel) (pc' := 109) (ls' := [(2, Int.ofNat o0), (0, v1), (0, v2), (0, v3), (3, 0)]) (st' := [(0, 0), (2, Int.ofNat (o0 + 78)), (2, Int.ofNat (o0 + 35))]) rfl ?_
  refine jbind H (fun b12 Hb12 H => ?_)
  refine jEv.calV (st' := [(0, b12.1)]) (show jfI 182 109 (.invokevirtual 270) 3 [1, 115, 2, 5078] = true by decide +kernel) rfl (Or.inl rfl) rfl (Nat.le_of_ble_eq_true rfl) (by decide +kernel) (by decide) (isX9_L (isX11_s10 ho0)) ((t_St_passTick (T := T) (xs := xs) (isX11_s10 ho0) (isX11_s15 ho0) Hb12).mono (jKle 6 hd)) rfl ?_
  refine jEv.blk [(.pop, 1, []), (.iinc 3 1, 3, [])] (by decide +kernel) (pc' := 116) (ls' := [(2, Int.ofNat o0), (0, v1), (0, v2), (0, (wr (v3 + 1))), (3, 0)]) (st' := []) rfl ?_
  refine jEv.goto (t := 22) (show jfI 182 116 (.goto (-94)) 3 [] = true by decide +kernel) rfl ?_
  exact (by cases H; exact HY)
set_option maxRecDepth 20000 in
noncomputable def G_chance_B22 (T : jT) (h : jH) (o0 : Nat) (v1 : Int) (v2 : Int) (v3 : Int) : Option ((Int × Int × jH) ⊕ (Int × jH)) := (if v3 < v1 then Option.bind (G_draw h o0 100) (fun b6 => Option.bind (jdyn (isX6 T) (b6.2 o0 8)) (fun q7 => (if b6.1 < (b6.2 q7 3) then Option.bind (G_draw b6.2 o0 (b6.2 (o0 + 36) 2)) (fun b9 => Option.bind (G_draw b9.2 o0 (b9.2 (o0 + 36) 3)) (fun b10 => Option.bind (Di_turn b10.2 (o0 + 36) (wr ((wr (b9.1 * (b9.2 (o0 + 36) 3))) + b10.1))) (fun b11 => G_chance_p100 T b11 o0 v1 (wr (v2 + 1)) v3))) else G_chance_p100 T b6.2 o0 v1 v2 v3))) else Option.map Sum.inr (some (v2, h)))
noncomputable def G_chance_L22 (T : jT) (h : jH) (o0 : Nat) (v1 : Int) (v2 : Int) (v3 : Int) : Option (Int × jH) := jloop (fun s : (Int × Int × jH) => G_chance_B22 T s.2.2 o0 v1 s.1 s.2.1) (v2, v3, h)
set_option maxRecDepth 20000 in
theorem t_G_chance_B22 {T : jT} {xs : List Int} {d : Nat} {y : jV × jS} (hd : 6 ≤ d) {h : jH}  {o0 : Nat} {v1 : Int} {v2 : Int} {v3 : Int} {out : ((Int × Int × jH) ⊕ (Int × jH))} (ho0 : isX11 T o0) (H : G_chance_B22 T h o0 v1 v2 v3 = some out) (HY : yk_G_chance_L22 T xs d y o0 v1 out) : jEv xs d (182, 22, [(2, Int.ofNat o0), (0, v1), (0, v2), (0, v3), (3, 0)], []) (T, h) y := by
  unfold G_chance_B22 at H
  refine jEv.blk [(.iload_n 3, 1, []), (.iload_n 1, 1, [])] (by decide +kernel) (pc' := 24) (ls' := [(2, Int.ofNat o0), (0, v1), (0, v2), (0, v3), (3, 0)]) (st' := [(0, v1), (0, v3)]) rfl ?_
  refine jEv.ic_ge (t := 119) (show jfI 182 24 (.if_icmp .ge 95) 3 [] = true by decide +kernel) rfl H (fun c5 H => ?_) (fun c5 H => ?_)
  · refine jEv.blk [(.aload_n 0, 1, []), (.bipush 100, 2, [])] (by decide +kernel) (pc' := 30) (ls' := [(2, Int.ofNat o0), (0, v1), (0, v2), (0, v3), (3, 0)]) (st' := [(0, 100), (2, Int.ofNat o0)]) rfl ?_
    refine jbind H (fun b6 Hb6 H => ?_)
    refine jEv.calV (st' := [(0, b6.1)]) (show jfI 182 30 (.invokevirtual 346) 3 [1, 183, 1, 6144] = true by decide +kernel) rfl (Or.inl rfl) rfl (Nat.le_of_ble_eq_true rfl) (by decide +kernel) (by decide) (isX11_L ho0) ((t_G_draw (T := T) (xs := xs) ho0 Hb6).mono (jKle 1 hd)) rfl ?_
    refine jEv.blk [(.aload_n 0, 1, [])] (by decide +kernel) (pc' := 34) (ls' := [(2, Int.ofNat o0), (0, v1), (0, v2), (0, v3), (3, 0)]) (st' := [(2, Int.ofNat o0), (0, b6.1)]) rfl ?_
    refine jEv.gfD (show jfI 182 34 (.getfield 29) 3 [11, 8, 2, 0, 3009] = true by decide +kernel) (isX11_L ho0) (by decide) H (fun q7 hq7 H => ?_)
    refine jEv.gfI (show jfI 182 37 (.getfield 349) 3 [6, 3, 0, 0, 1067] = true by decide +kernel) (isX6_L hq7) (by decide) ?_
    refine jEv.ic_ge (t := 100) (show jfI 182 40 (.if_icmp .ge 60) 3 [] = true by decide +kernel) rfl H (fun c8 H => ?_) (fun c8 H => ?_)
    · refine jEv.blk [(.aload_n 0, 1, []), (.aload_n 0, 1, [])] (by decide +kernel) (pc' := 45) (ls' := [(2, Int.ofNat o0), (0, v1), (0, v2), (0, v3), (3, 0)]) (st' := [(2, Int.ofNat o0), (2, Int.ofNat o0)]) rfl ?_
      refine jEv.gfR (o' := (o0 + 35)) (show jfI 182 45 (.getfield 45) 3 [11, 10, 5, 0, 3011] = true by decide +kernel) (isX11_L ho0) (by decide) (isX11_r10 ho0) ?_
      refine jEv.gfR (o' := (o0 + 36)) (show jfI 182 48 (.getfield 115) 3 [9, 1, 5, 0, 2067] = true by decide +kernel) (isX9_L (isX11_s10 ho0)) (by decide) (isX9_r1 (isX11_s10 ho0)) ?_
      refine jEv.gfI (show jfI 182 51 (.getfield 119) 3 [0, 2, 0, 0, 1185] = true by decide +kernel) (isX0_L (isX9_s1 (isX11_s10 ho0))) (by decide) ?_
      refine jbind H (fun b9 Hb9 H => ?_)
      refine jEv.calV (st' := [(0, b9.1)]) (show jfI 182 54 (.invokevirtual 346) 3 [1, 183, 1, 6144] = true by decide +kernel) rfl (Or.inl rfl) rfl (Nat.le_of_ble_eq_true rfl) (by decide +kernel) (by decide) (isX11_L ho0) ((t_G_draw (T := T) (xs := xs) ho0 Hb9).mono (jKle 1 hd)) rfl ?_
      refine jEv.blk [(.istore 4, 2, []), (.aload_n 0, 1, [])] (by decide +kernel) (pc' := 60) (ls' := [(2, Int.ofNat o0), (0, v1), (0, v2), (0, v3), (0, b9.1)]) (st' := [(2, Int.ofNat o0)]) rfl ?_
      refine jEv.gfR (o' := (o0 + 35)) (show jfI 182 60 (.getfield 45) 3 [11, 10, 5, 0, 3011] = true by decide +kernel) (isX11_L ho0) (by decide) (isX11_r10 ho0) ?_
      refine jEv.gfR (o' := (o0 + 36)) (show jfI 182 63 (.getfield 115) 3 [9, 1, 5, 0, 2067] = true by decide +kernel) (isX9_L (isX11_s10 ho0)) (by decide) (isX9_r1 (isX11_s10 ho0)) ?_
      refine jEv.blk [(.iload 4, 2, []), (.aload_n 0, 1, [])] (by decide +kernel) (pc' := 69) (ls' := [(2, Int.ofNat o0), (0, v1), (0, v2), (0, v3), (0, b9.1)]) (st' := [(2, Int.ofNat o0), (0, b9.1), (2, Int.ofNat (o0 + 36))]) rfl ?_
      refine jEv.gfR (o' := (o0 + 35)) (show jfI 182 69 (.getfield 45) 3 [11, 10, 5, 0, 3011] = true by decide +kernel) (isX11_L ho0) (by decide) (isX11_r10 ho0) ?_
      refine jEv.gfR (o' := (o0 + 36)) (show jfI 182 72 (.getfield 115) 3 [9, 1, 5, 0, 2067] = true by decide +kernel) (isX9_L (isX11_s10 ho0)) (by decide) (isX9_r1 (isX11_s10 ho0)) ?_
      refine jEv.gfI (show jfI 182 75 (.getfield 124) 3 [0, 3, 0, 0, 1190] = true by decide +kernel) (isX0_L (isX9_s1 (isX11_s10 ho0))) (by decide) ?_
      refine jEv.blk [(.imul, 1, []), (.aload_n 0, 1, []), (.aload_n 0, 1, [])] (by decide +kernel) (pc' := 81) (ls' := [(2, Int.ofNat o0), (0, v1), (0, v2), (0, v3), (0, b9.1)]) (st' := [(2, Int.ofNat o0), (2, Int.ofNat o0), (0, (wr (b9.1 * (b9.2 (o0 + 36) 3)))), (2, Int.ofNat (o0 + 36))]) rfl ?_
      refine jEv.gfR (o' := (o0 + 35)) (show jfI 182 81 (.getfield 45) 3 [11, 10, 5, 0, 3011] = true by decide +kernel) (isX11_L ho0) (by decide) (isX11_r10 ho0) ?_
      refine jEv.gfR (o' := (o0 + 36)) (show jfI 182 84 (.getfield 115) 3 [9, 1, 5, 0, 2067] = true by decide +kernel) (isX9_L (isX11_s10 ho0)) (by decide) (isX9_r1 (isX11_s10 ho0)) ?_
      refine jEv.gfI (show jfI 182 87 (.getfield 124) 3 [0, 3, 0, 0, 1190] = true by decide +kernel) (isX0_L (isX9_s1 (isX11_s10 ho0))) (by decide) ?_
      refine jbind H (fun b10 Hb10 H => ?_)
      refine jEv.calV (st' := [(0, b10.1), (0, (wr (b9.1 * (b9.2 (o0 + 36) 3)))), (2, Int.ofNat (o0 + 36))]) (show jfI 182 90 (.invokevirtual 346) 3 [1, 183, 1, 6144] = true by decide +kernel) rfl (Or.inl rfl) rfl (Nat.le_of_ble_eq_true rfl) (by decide +kernel) (by decide) (isX11_L ho0) ((t_G_draw (T := T) (xs := xs) ho0 Hb10).mono (jKle 1 hd)) rfl ?_
      refine jEv.blk [(.iadd, 1, [])] (by decide +kernel) (pc' := 94) (ls' := [(2, Int.ofNat o0), (0, v1), (0, v2), (0, v3), (0, b9.1)]) (st' := [(0, (wr ((wr (b9.1 * (b9.2 (o0 + 36) 3))) + b10.1))), (2, Int.ofNat (o0 + 36))]) rfl ?_
      refine jbind H (fun b11 Hb11 H => ?_)
      refine jEv.calV (st' := []) (show jfI 182 94 (.invokevirtual 314) 3 [1, 19, 1, 6069] = true by decide +kernel) rfl (Or.inl rfl) rfl (Nat.le_of_ble_eq_true rfl) (by decide +kernel) (by decide) (isX0_L (isX9_s1 (isX11_s10 ho0))) ((t_Di_turn (T := T) (xs := xs) (isX9_s1 (isX11_s10 ho0)) Hb11).mono (jKle 2 hd)) rfl ?_
      refine jEv.blk [(.iinc 2 1, 3, [])] (by decide +kernel) (pc' := 100) (ls' := [(2, Int.ofNat o0), (0, v1), (0, (wr (v2 + 1))), (0, v3), (0, b9.1)]) (st' := []) rfl ?_
      exact jEv.weak (a := [(2, Int.ofNat o0), (0, v1), (0, (wr (v2 + 1))), (0, v3), (3, 0)]) (jles.c1 (jles.c1 (jles.c1 (jles.c1 (jles.c0 jles.nl))))) (t_G_chance_p100 (T := T) (xs := xs) (y := y) hd ho0 H HY)
    · exact t_G_chance_p100 (T := T) (xs := xs) (y := y) hd ho0 H HY
  · refine jmapr H HY (fun out H (HY : ykI T y out) => ?_)
    refine jEv.blk [(.iload_n 2, 1, [])] (by decide +kernel) (pc' := 120) (ls' := [(2, Int.ofNat o0), (0, v1), (0, v2), (0, v3), (3, 0)]) (st' := [(0, v2)]) rfl ?_
    exact jEv.retI (show jfI 182 120 (.ireturn) 1 [] = true by decide +kernel) (by decide +kernel) (by cases H; exact HY)
theorem t_G_chance_L22 {T : jT} {xs : List Int} {d : Nat} {y : jV × jS} (hd : 6 ≤ d) {h : jH}  {o0 : Nat} {v1 : Int} {v2 : Int} {v3 : Int} {out : (Int × jH)} (ho0 : isX11 T o0) (H : G_chance_L22 T h o0 v1 v2 v3 = some out) (HY : ykI T y out) : jEv xs d (182, 22, [(2, Int.ofNat o0), (0, v1), (0, v2), (0, v3), (3, 0)], []) (T, h) y :=
  jloop_sound (G := fun s : (Int × Int × jH) => jEv xs d (182, 22, [(2, Int.ofNat o0), (0, v1), (0, s.1), (0, s.2.1), (3, 0)], []) (T, s.2.2) y) (K := yk_G_chance_L22 T xs d y o0 v1) (fun s out H HY => t_G_chance_B22 hd ho0 H HY) (fun s' hg => hg) (s := (v2, v3, h)) H HY
set_option maxRecDepth 20000 in
noncomputable def G_chance (T : jT) (h : jH) (o0 : Nat) (v1 : Int) : Option (Int × jH) := Option.bind (G_canPass T h o0 v1) (fun b1 => (if b1 = 0 then Option.bind (G_refuse h o0 3) (fun b3 => some (b3.1, b3.2)) else Option.bind (G_remember T h o0) (fun b4 => G_chance_L22 T b4 o0 v1 0 0)))
set_option maxRecDepth 20000 in
theorem t_G_chance {T : jT} {xs : List Int} {h : jH}  {o0 : Nat} {v1 : Int} {out : (Int × jH)} (ho0 : isX11 T o0) (H : G_chance T h o0 v1 = some out) : jEm xs 7 182 [(2, Int.ofNat o0), (0, v1)] (T, h) ((0, out.1), (T, out.2)) := by
  have hd : 6 ≤ 6 := Nat.le_refl _
  obtain ⟨y, ey⟩ : ∃ y : jV × jS, y = ((0, out.1), (T, out.2)) := ⟨_, rfl⟩
  rw [← ey]
  have HY : ykI T y out := ey
  refine jEm.ent (n := 5) (by decide +kernel) (Nat.le_of_ble_eq_true rfl) ?_
  show jEv xs 6 (182, 0, [(2, Int.ofNat o0), (0, v1), (3, 0), (3, 0), (3, 0)], []) (T, h) y
  unfold G_chance at H
  refine jEv.blk [(.aload_n 0, 1, []), (.iload_n 1, 1, [])] (by decide +kernel) (pc' := 2) (ls' := [(2, Int.ofNat o0), (0, v1), (3, 0), (3, 0), (3, 0)]) (st' := [(0, v1), (2, Int.ofNat o0)]) rfl ?_
  refine jbind H (fun b1 Hb1 H => ?_)
  refine jEv.calV (st' := [(0, b1)]) (show jfI 182 2 (.invokevirtual 343) 3 [1, 181, 1, 6136] = true by decide +kernel) rfl (Or.inl rfl) rfl (Nat.le_of_ble_eq_true rfl) (by decide +kernel) (by decide) (isX11_L ho0) ((t_G_canPass (T := T) (xs := xs) ho0 Hb1).mono (jKle 2 hd)) rfl ?_
  refine jEv.if_ne (t := 14) (show jfI 182 5 (.ifCond .ne 9) 3 [] = true by decide +kernel) rfl H (fun c2 H => ?_) (fun c2 H => ?_)
  · refine jEv.blk [(.aload_n 0, 1, []), (.iconst 3, 1, [])] (by decide +kernel) (pc' := 10) (ls' := [(2, Int.ofNat o0), (0, v1), (3, 0), (3, 0), (3, 0)]) (st' := [(0, 3), (2, Int.ofNat o0)]) rfl ?_
    refine jbind H (fun b3 Hb3 H => ?_)
    refine jEv.calV (st' := [(0, b3.1)]) (show jfI 182 10 (.invokevirtual 80) 3 [1, 136, 1, 3066] = true by decide +kernel) rfl (Or.inl rfl) rfl (Nat.le_of_ble_eq_true rfl) (by decide +kernel) (by decide) (isX11_L ho0) ((t_G_refuse (T := T) (xs := xs) ho0 Hb3).mono (jKle 2 hd)) rfl ?_
    exact jEv.retI (show jfI 182 13 (.ireturn) 1 [] = true by decide +kernel) (by decide +kernel) (by cases H; exact HY)
  · refine jEv.blk [(.aload_n 0, 1, [])] (by decide +kernel) (pc' := 15) (ls' := [(2, Int.ofNat o0), (0, v1), (3, 0), (3, 0), (3, 0)]) (st' := [(2, Int.ofNat o0)]) rfl ?_
    refine jbind H (fun b4 Hb4 H => ?_)
    refine jEv.calV (st' := []) (show jfI 182 15 (.invokevirtual 333) 3 [1, 178, 0, 6116] = true by decide +kernel) rfl (Or.inl rfl) rfl (Nat.le_of_ble_eq_true rfl) (by decide +kernel) (by decide) (isX11_L ho0) ((t_G_remember (T := T) (xs := xs) ho0 Hb4).mono (jKle 5 hd)) rfl ?_
    refine jEv.blk [(.iconst 0, 1, []), (.istore_n 2, 1, []), (.iconst 0, 1, []), (.istore_n 3, 1, [])] (by decide +kernel) (pc' := 22) (ls' := [(2, Int.ofNat o0), (0, v1), (0, 0), (0, 0), (3, 0)]) (st' := []) rfl ?_
    exact t_G_chance_L22 (T := T) (xs := xs) (y := y) hd ho0 H HY
set_option maxRecDepth 20000 in
noncomputable def G_snap_p37 (T : jT) (h : jH) (o0 : Nat) : Option (Int × jH) := Option.bind (G_refuse h o0 4) (fun b7 => some (b7.1, b7.2))
set_option maxRecDepth 20000 in
theorem t_G_snap_p37 {T : jT} {xs : List Int} {d : Nat} {y : jV × jS} (hd : 5 ≤ d) {h : jH}  {o0 : Nat} {out : (Int × jH)} (ho0 : isX11 T o0) (H : G_snap_p37 T h o0 = some out) (HY : ykI T y out) : jEv xs d (184, 37, [(2, Int.ofNat o0)], []) (T, h) y := by
  unfold G_snap_p37 at H
  refine jEv.blk [(.aload_n 0, 1, []), (.iconst 4, 1, [])] (by decide +kernel) (pc' := 39) (ls' := [(2, Int.ofNat o0)]) (st' := [(0, 4), (2, Int.ofNat o0)]) rfl ?_
  refine jbind H (fun b7 Hb7 H => ?_)
  refine jEv.calV (st' := [(0, b7.1)]) (show jfI 184 39 (.invokevirtual 80) 3 [1, 136, 1, 3066] = true by decide +kernel) rfl (Or.inl rfl) rfl (Nat.le_of_ble_eq_true rfl) (by decide +kernel) (by decide) (isX11_L ho0) ((t_G_refuse (T := T) (xs := xs) ho0 Hb7).mono (jKle 2 hd)) rfl ?_
  exact jEv.retI (show jfI 184 42 (.ireturn) 1 [] = true by decide +kernel) (by decide +kernel) (by cases H; exact HY)
set_option maxRecDepth 20000 in
noncomputable def G_snap (T : jT) (h : jH) (o0 : Nat) : Option (Int × jH) := Option.bind (G_isTold T h o0) (fun b1 => (if b1 = 0 then G_snap_p37 T h o0 else (if (h (o0 + 35) 14) = 0 then (if (h (o0 + 35) 7) = (h (o0 + 42) 4) then G_snap_p37 T h o0 else Option.bind (G_remember T h o0) (fun b5 => Option.bind (St_takeSnap b5 (o0 + 35)) (fun b6 => some ((b6 (o0 + 35) 7), b6)))) else G_snap_p37 T h o0)))
set_option maxRecDepth 20000 in
theorem t_G_snap {T : jT} {xs : List Int} {h : jH}  {o0 : Nat} {out : (Int × jH)} (ho0 : isX11 T o0) (H : G_snap T h o0 = some out) : jEm xs 6 184 [(2, Int.ofNat o0)] (T, h) ((0, out.1), (T, out.2)) := by
  have hd : 5 ≤ 5 := Nat.le_refl _
  obtain ⟨y, ey⟩ : ∃ y : jV × jS, y = ((0, out.1), (T, out.2)) := ⟨_, rfl⟩
  rw [← ey]
  have HY : ykI T y out := ey
  refine jEm.ent (n := 1) (by decide +kernel) (Nat.le_of_ble_eq_true rfl) ?_
  show jEv xs 5 (184, 0, [(2, Int.ofNat o0)], []) (T, h) y
  unfold G_snap at H
  refine jEv.blk [(.aload_n 0, 1, [])] (by decide +kernel) (pc' := 1) (ls' := [(2, Int.ofNat o0)]) (st' := [(2, Int.ofNat o0)]) rfl ?_
  refine jbind H (fun b1 Hb1 H => ?_)
  refine jEv.calV (st' := [(0, b1)]) (show jfI 184 1 (.invokevirtual 228) 3 [1, 152, 0, 5004] = true by decide +kernel) rfl (Or.inl rfl) rfl (Nat.le_of_ble_eq_true rfl) (by decide +kernel) (by decide) (isX11_L ho0) ((t_G_isTold (T := T) (xs := xs) ho0 Hb1).mono (jKle 1 hd)) rfl ?_
  refine jEv.if_eq (t := 37) (show jfI 184 4 (.ifCond .eq 33) 3 [] = true by decide +kernel) rfl H (fun c2 H => ?_) (fun c2 H => ?_)
  · exact t_G_snap_p37 (T := T) (xs := xs) (y := y) hd ho0 H HY
  · refine jEv.blk [(.aload_n 0, 1, [])] (by decide +kernel) (pc' := 8) (ls' := [(2, Int.ofNat o0)]) (st' := [(2, Int.ofNat o0)]) rfl ?_
    refine jEv.gfR (o' := (o0 + 35)) (show jfI 184 8 (.getfield 45) 3 [11, 10, 5, 0, 3011] = true by decide +kernel) (isX11_L ho0) (by decide) (isX11_r10 ho0) ?_
    refine jEv.gfI (show jfI 184 11 (.getfield 179) 3 [9, 14, 0, 1, 2099] = true by decide +kernel) (isX9_L (isX11_s10 ho0)) (by decide) ?_
    refine jEv.if_ne (t := 37) (show jfI 184 14 (.ifCond .ne 23) 3 [] = true by decide +kernel) rfl H (fun c3 H => ?_) (fun c3 H => ?_)
    · refine jEv.blk [(.aload_n 0, 1, [])] (by decide +kernel) (pc' := 18) (ls' := [(2, Int.ofNat o0)]) (st' := [(2, Int.ofNat o0)]) rfl ?_
      refine jEv.gfR (o' := (o0 + 35)) (show jfI 184 18 (.getfield 45) 3 [11, 10, 5, 0, 3011] = true by decide +kernel) (isX11_L ho0) (by decide) (isX11_r10 ho0) ?_
      refine jEv.gfI (show jfI 184 21 (.getfield 157) 3 [9, 7, 0, 0, 2081] = true by decide +kernel) (isX9_L (isX11_s10 ho0)) (by decide) ?_
      refine jEv.blk [(.aload_n 0, 1, [])] (by decide +kernel) (pc' := 25) (ls' := [(2, Int.ofNat o0)]) (st' := [(2, Int.ofNat o0), (0, (h (o0 + 35) 7))]) rfl ?_
      refine jEv.gfR (o' := (o0 + 35)) (show jfI 184 25 (.getfield 45) 3 [11, 10, 5, 0, 3011] = true by decide +kernel) (isX11_L ho0) (by decide) (isX11_r10 ho0) ?_
      refine jEv.gfR (o' := (o0 + 42)) (show jfI 184 28 (.getfield 130) 3 [9, 3, 5, 0, 2073] = true by decide +kernel) (isX9_L (isX11_s10 ho0)) (by decide) (isX9_r3 (isX11_s10 ho0)) ?_
      refine jEv.gfI (show jfI 184 31 (.getfield 139) 3 [7, 4, 0, 0, 2008] = true by decide +kernel) (isX7_L (isX9_s3 (isX11_s10 ho0))) (by decide) ?_
      refine jEv.ic_ne (t := 43) (show jfI 184 34 (.if_icmp .ne 9) 3 [] = true by decide +kernel) rfl H (fun c4 H => ?_) (fun c4 H => ?_)
      · exact t_G_snap_p37 (T := T) (xs := xs) (y := y) hd ho0 H HY
      · refine jEv.blk [(.aload_n 0, 1, [])] (by decide +kernel) (pc' := 44) (ls' := [(2, Int.ofNat o0)]) (st' := [(2, Int.ofNat o0)]) rfl ?_
        refine jbind H (fun b5 Hb5 H => ?_)
        refine jEv.calV (st' := []) (show jfI 184 44 (.invokevirtual 333) 3 [1, 178, 0, 6116] = true by decide +kernel) rfl (Or.inl rfl) rfl (Nat.le_of_ble_eq_true rfl) (by decide +kernel) (by decide) (isX11_L ho0) ((t_G_remember (T := T) (xs := xs) ho0 Hb5).mono (jKle 5 hd)) rfl ?_
        refine jEv.blk [(.aload_n 0, 1, [])] (by decide +kernel) (pc' := 48) (ls' := [(2, Int.ofNat o0)]) (st' := [(2, Int.ofNat o0)]) rfl ?_
        refine jEv.gfR (o' := (o0 + 35)) (show jfI 184 48 (.getfield 45) 3 [11, 10, 5, 0, 3011] = true by decide +kernel) (isX11_L ho0) (by decide) (isX11_r10 ho0) ?_
        refine jbind H (fun b6 Hb6 H => ?_)
        refine jEv.calV (st' := []) (show jfI 184 51 (.invokevirtual 352) 3 [1, 120, 0, 6156] = true by decide +kernel) rfl (Or.inl rfl) rfl (Nat.le_of_ble_eq_true rfl) (by decide +kernel) (by decide) (isX9_L (isX11_s10 ho0)) ((t_St_takeSnap (T := T) (xs := xs) (isX11_s10 ho0) Hb6).mono (jKle 3 hd)) rfl ?_
        refine jEv.blk [(.aload_n 0, 1, [])] (by decide +kernel) (pc' := 55) (ls' := [(2, Int.ofNat o0)]) (st' := [(2, Int.ofNat o0)]) rfl ?_
        refine jEv.gfR (o' := (o0 + 35)) (show jfI 184 55 (.getfield 45) 3 [11, 10, 5, 0, 3011] = true by decide +kernel) (isX11_L ho0) (by decide) (isX11_r10 ho0) ?_
        refine jEv.gfI (show jfI 184 58 (.getfield 157) 3 [9, 7, 0, 0, 2081] = true by decide +kernel) (isX9_L (isX11_s10 ho0)) (by decide) ?_
        exact jEv.retI (show jfI 184 61 (.ireturn) 1 [] = true by decide +kernel) (by decide +kernel) (by cases H; exact HY)
    · exact t_G_snap_p37 (T := T) (xs := xs) (y := y) hd ho0 H HY
set_option maxRecDepth 20000 in
noncomputable def G_crash_p25 (T : jT) (h : jH) (o0 : Nat) : Option (Int × jH) := Option.bind (G_refuse h o0 4) (fun b8 => some (b8.1, b8.2))
set_option maxRecDepth 20000 in
theorem t_G_crash_p25 {T : jT} {xs : List Int} {d : Nat} {y : jV × jS} (hd : 7 ≤ d) {h : jH}  {o0 : Nat} {out : (Int × jH)} (ho0 : isX11 T o0) (H : G_crash_p25 T h o0 = some out) (HY : ykI T y out) : jEv xs d (185, 25, [(2, Int.ofNat o0), (3, 0)], []) (T, h) y := by
  unfold G_crash_p25 at H
  refine jEv.blk [(.aload_n 0, 1, []), (.iconst 4, 1, [])] (by decide +kernel) (pc' := 27) (ls' := [(2, Int.ofNat o0), (3, 0)]) (st' := [(0, 4), (2, Int.ofNat o0)]) rfl ?_
  refine jbind H (fun b8 Hb8 H => ?_)
  refine jEv.calV (st' := [(0, b8.1)]) (show jfI 185 27 (.invokevirtual 80) 3 [1, 136, 1, 3066] = true by decide +kernel) rfl (Or.inl rfl) rfl (Nat.le_of_ble_eq_true rfl) (by decide +kernel) (by decide) (isX11_L ho0) ((t_G_refuse (T := T) (xs := xs) ho0 Hb8).mono (jKle 2 hd)) rfl ?_
  exact jEv.retI (show jfI 185 30 (.ireturn) 1 [] = true by decide +kernel) (by decide +kernel) (by cases H; exact HY)
set_option maxRecDepth 20000 in
noncomputable def G_crash (T : jT) (h : jH) (o0 : Nat) (v1 : Int) : Option (Int × jH) := Option.bind (G_isTold T h o0) (fun b1 => (if b1 = 0 then G_crash_p25 T h o0 else (if v1 < 0 then G_crash_p25 T h o0 else (if (h (o0 + 39) 2) < v1 then G_crash_p25 T h o0 else Option.bind (G_remember T h o0) (fun b5 => Option.bind (St_crashBy b5 (o0 + 35) v1 (o0 + 79)) (fun b6 => Option.bind (Qu_behindLast b6 (o0 + 42)) (fun b7 => some (b7, b6))))))))
set_option maxRecDepth 20000 in
theorem t_G_crash {T : jT} {xs : List Int} {h : jH}  {o0 : Nat} {v1 : Int} {out : (Int × jH)} (ho0 : isX11 T o0) (H : G_crash T h o0 v1 = some out) : jEm xs 8 185 [(2, Int.ofNat o0), (0, v1)] (T, h) ((0, out.1), (T, out.2)) := by
  have hd : 7 ≤ 7 := Nat.le_refl _
  obtain ⟨y, ey⟩ : ∃ y : jV × jS, y = ((0, out.1), (T, out.2)) := ⟨_, rfl⟩
  rw [← ey]
  have HY : ykI T y out := ey
  refine jEm.ent (n := 2) (by decide +kernel) (Nat.le_of_ble_eq_true rfl) ?_
  show jEv xs 7 (185, 0, [(2, Int.ofNat o0), (0, v1)], []) (T, h) y
  unfold G_crash at H
  refine jEv.blk [(.aload_n 0, 1, [])] (by decide +kernel) (pc' := 1) (ls' := [(2, Int.ofNat o0), (0, v1)]) (st' := [(2, Int.ofNat o0)]) rfl ?_
  refine jbind H (fun b1 Hb1 H => ?_)
  refine jEv.calV (st' := [(0, b1)]) (show jfI 185 1 (.invokevirtual 228) 3 [1, 152, 0, 5004] = true by decide +kernel) rfl (Or.inl rfl) rfl (Nat.le_of_ble_eq_true rfl) (by decide +kernel) (by decide) (isX11_L ho0) ((t_G_isTold (T := T) (xs := xs) ho0 Hb1).mono (jKle 1 hd)) rfl ?_
  refine jEv.if_eq (t := 25) (show jfI 185 4 (.ifCond .eq 21) 3 [] = true by decide +kernel) rfl H (fun c2 H => ?_) (fun c2 H => ?_)
  · exact jEv.weak (a := [(2, Int.ofNat o0), (3, 0)]) (jles.c1 (jles.c0 jles.nl)) (t_G_crash_p25 (T := T) (xs := xs) (y := y) hd ho0 H HY)
  · refine jEv.blk [(.iload_n 1, 1, [])] (by decide +kernel) (pc' := 8) (ls' := [(2, Int.ofNat o0), (0, v1)]) (st' := [(0, v1)]) rfl ?_
    refine jEv.if_lt (t := 25) (show jfI 185 8 (.ifCond .lt 17) 3 [] = true by decide +kernel) rfl H (fun c3 H => ?_) (fun c3 H => ?_)
    · exact jEv.weak (a := [(2, Int.ofNat o0), (3, 0)]) (jles.c1 (jles.c0 jles.nl)) (t_G_crash_p25 (T := T) (xs := xs) (y := y) hd ho0 H HY)
    · refine jEv.blk [(.iload_n 1, 1, []), (.aload_n 0, 1, [])] (by decide +kernel) (pc' := 13) (ls' := [(2, Int.ofNat o0), (0, v1)]) (st' := [(2, Int.ofNat o0), (0, v1)]) rfl ?_
      refine jEv.gfR (o' := (o0 + 35)) (show jfI 185 13 (.getfield 45) 3 [11, 10, 5, 0, 3011] = true by decide +kernel) (isX11_L ho0) (by decide) (isX11_r10 ho0) ?_
      refine jEv.gfR (o' := (o0 + 39)) (show jfI 185 16 (.getfield 145) 3 [9, 2, 5, 0, 2069] = true by decide +kernel) (isX9_L (isX11_s10 ho0)) (by decide) (isX9_r2 (isX11_s10 ho0)) ?_
      refine jEv.gfI (show jfI 185 19 (.getfield 149) 3 [1, 2, 0, 0, 1214] = true by decide +kernel) (isX1_L (isX9_s2 (isX11_s10 ho0))) (by decide) ?_
      refine jEv.ic_le (t := 31) (show jfI 185 22 (.if_icmp .le 9) 3 [] = true by decide +kernel) rfl H (fun c4 H => ?_) (fun c4 H => ?_)
      · exact jEv.weak (a := [(2, Int.ofNat o0), (3, 0)]) (jles.c1 (jles.c0 jles.nl)) (t_G_crash_p25 (T := T) (xs := xs) (y := y) hd ho0 H HY)
      · refine jEv.blk [(.aload_n 0, 1, [])] (by decide +kernel) (pc' := 32) (ls' := [(2, Int.ofNat o0), (0, v1)]) (st' := [(2, Int.ofNat o0)]) rfl ?_
        refine jbind H (fun b5 Hb5 H => ?_)
        refine jEv.calV (st' := []) (show jfI 185 32 (.invokevirtual 333) 3 [1, 178, 0, 6116] = true by decide +kernel) rfl (Or.inl rfl) rfl (Nat.le_of_ble_eq_true rfl) (by decide +kernel) (by decide) (isX11_L ho0) ((t_G_remember (T := T) (xs := xs) ho0 Hb5).mono (jKle 5 hd)) rfl ?_
        refine jEv.blk [(.aload_n 0, 1, [])] (by decide +kernel) (pc' := 36) (ls' := [(2, Int.ofNat o0), (0, v1)]) (st' := [(2, Int.ofNat o0)]) rfl ?_
        refine jEv.gfR (o' := (o0 + 35)) (show jfI 185 36 (.getfield 45) 3 [11, 10, 5, 0, 3011] = true by decide +kernel) (isX11_L ho0) (by decide) (isX11_r10 ho0) ?_
        refine jEv.blk [(.iload_n 1, 1, []), (.aload_n 0, 1, [])] (by decide +kernel) (pc' := 41) (ls' := [(2, Int.ofNat o0), (0, v1)]) (st' := [(2, Int.ofNat o0), (0, v1), (2, Int.ofNat (o0 + 35))]) rfl ?_
        refine jEv.gfR (o' := (o0 + 79)) (show jfI 185 41 (.getfield 66) 3 [11, 16, 5, 0, 3017] = true by decide +kernel) (isX11_L ho0) (by decide) (isX11_r16 ho0) ?_
        refine jbind H (fun b6 Hb6 H => ?_)
        refine jEv.calV (st' := []) (show jfI 185 44 (.invokevirtual 355) 3 [1, 121, 2, 6164] = true by decide +kernel) rfl (Or.inl rfl) rfl (Nat.le_of_ble_eq_true rfl) (by decide +kernel) (by decide) (isX9_L (isX11_s10 ho0)) ((t_St_crashBy (T := T) (xs := xs) (isX11_s10 ho0) (isX11_s16 ho0) Hb6).mono (jKle 7 hd)) rfl ?_
        refine jEv.blk [(.aload_n 0, 1, [])] (by decide +kernel) (pc' := 48) (ls' := [(2, Int.ofNat o0), (0, v1)]) (st' := [(2, Int.ofNat o0)]) rfl ?_
        refine jEv.gfR (o' := (o0 + 35)) (show jfI 185 48 (.getfield 45) 3 [11, 10, 5, 0, 3011] = true by decide +kernel) (isX11_L ho0) (by decide) (isX11_r10 ho0) ?_
        refine jEv.gfR (o' := (o0 + 42)) (show jfI 185 51 (.getfield 130) 3 [9, 3, 5, 0, 2073] = true by decide +kernel) (isX9_L (isX11_s10 ho0)) (by decide) (isX9_r3 (isX11_s10 ho0)) ?_
        refine jbind H (fun b7 Hb7 H => ?_)
        refine jEv.calV (st' := [(0, b7)]) (show jfI 185 54 (.invokevirtual 134) 3 [1, 94, 0, 4146] = true by decide +kernel) rfl (Or.inl rfl) rfl (Nat.le_of_ble_eq_true rfl) (by decide +kernel) (by decide) (isX7_L (isX9_s3 (isX11_s10 ho0))) ((t_Qu_behindLast (T := T) (xs := xs) (isX9_s3 (isX11_s10 ho0)) Hb7).mono (jKle 1 hd)) rfl ?_
        exact jEv.retI (show jfI 185 57 (.ireturn) 1 [] = true by decide +kernel) (by decide +kernel) (by cases H; exact HY)
set_option maxRecDepth 20000 in
noncomputable def G_giveUp (T : jT) (h : jH) (o0 : Nat) : Option (Int × jH) := (if (h (o0 + 35) 14) = 0 then Option.bind (G_refuse h o0 4) (fun b2 => some (b2.1, b2.2)) else Option.bind (G_remember T h o0) (fun b3 => Option.bind (St_giveUpRest b3 (o0 + 35)) (fun b4 => some (b4.1, b4.2))))
set_option maxRecDepth 20000 in
theorem t_G_giveUp {T : jT} {xs : List Int} {h : jH}  {o0 : Nat} {out : (Int × jH)} (ho0 : isX11 T o0) (H : G_giveUp T h o0 = some out) : jEm xs 6 186 [(2, Int.ofNat o0)] (T, h) ((0, out.1), (T, out.2)) := by
  have hd : 5 ≤ 5 := Nat.le_refl _
  obtain ⟨y, ey⟩ : ∃ y : jV × jS, y = ((0, out.1), (T, out.2)) := ⟨_, rfl⟩
  rw [← ey]
  have HY : ykI T y out := ey
  refine jEm.ent (n := 1) (by decide +kernel) (Nat.le_of_ble_eq_true rfl) ?_
  show jEv xs 5 (186, 0, [(2, Int.ofNat o0)], []) (T, h) y
  unfold G_giveUp at H
  refine jEv.blk [(.aload_n 0, 1, [])] (by decide +kernel) (pc' := 1) (ls' := [(2, Int.ofNat o0)]) (st' := [(2, Int.ofNat o0)]) rfl ?_
  refine jEv.gfR (o' := (o0 + 35)) (show jfI 186 1 (.getfield 45) 3 [11, 10, 5, 0, 3011] = true by decide +kernel) (isX11_L ho0) (by decide) (isX11_r10 ho0) ?_
  refine jEv.gfI (show jfI 186 4 (.getfield 179) 3 [9, 14, 0, 1, 2099] = true by decide +kernel) (isX9_L (isX11_s10 ho0)) (by decide) ?_
  refine jEv.if_ne (t := 16) (show jfI 186 7 (.ifCond .ne 9) 3 [] = true by decide +kernel) rfl H (fun c1 H => ?_) (fun c1 H => ?_)
  · refine jEv.blk [(.aload_n 0, 1, []), (.iconst 4, 1, [])] (by decide +kernel) (pc' := 12) (ls' := [(2, Int.ofNat o0)]) (st' := [(0, 4), (2, Int.ofNat o0)]) rfl ?_
    refine jbind H (fun b2 Hb2 H => ?_)
    refine jEv.calV (st' := [(0, b2.1)]) (show jfI 186 12 (.invokevirtual 80) 3 [1, 136, 1, 3066] = true by decide +kernel) rfl (Or.inl rfl) rfl (Nat.le_of_ble_eq_true rfl) (by decide +kernel) (by decide) (isX11_L ho0) ((t_G_refuse (T := T) (xs := xs) ho0 Hb2).mono (jKle 2 hd)) rfl ?_
    exact jEv.retI (show jfI 186 15 (.ireturn) 1 [] = true by decide +kernel) (by decide +kernel) (by cases H; exact HY)
  · refine jEv.blk [(.aload_n 0, 1, [])] (by decide +kernel) (pc' := 17) (ls' := [(2, Int.ofNat o0)]) (st' := [(2, Int.ofNat o0)]) rfl ?_
    refine jbind H (fun b3 Hb3 H => ?_)
    refine jEv.calV (st' := []) (show jfI 186 17 (.invokevirtual 333) 3 [1, 178, 0, 6116] = true by decide +kernel) rfl (Or.inl rfl) rfl (Nat.le_of_ble_eq_true rfl) (by decide +kernel) (by decide) (isX11_L ho0) ((t_G_remember (T := T) (xs := xs) ho0 Hb3).mono (jKle 5 hd)) rfl ?_
    refine jEv.blk [(.aload_n 0, 1, [])] (by decide +kernel) (pc' := 21) (ls' := [(2, Int.ofNat o0)]) (st' := [(2, Int.ofNat o0)]) rfl ?_
    refine jEv.gfR (o' := (o0 + 35)) (show jfI 186 21 (.getfield 45) 3 [11, 10, 5, 0, 3011] = true by decide +kernel) (isX11_L ho0) (by decide) (isX11_r10 ho0) ?_
    refine jbind H (fun b4 Hb4 H => ?_)
    refine jEv.calV (st' := [(0, b4.1)]) (show jfI 186 24 (.invokevirtual 359) 3 [1, 123, 0, 6181] = true by decide +kernel) rfl (Or.inl rfl) rfl (Nat.le_of_ble_eq_true rfl) (by decide +kernel) (by decide) (isX9_L (isX11_s10 ho0)) ((t_St_giveUpRest (T := T) (xs := xs) (isX11_s10 ho0) Hb4).mono (jKle 5 hd)) rfl ?_
    exact jEv.retI (show jfI 186 27 (.ireturn) 1 [] = true by decide +kernel) (by decide +kernel) (by cases H; exact HY)
set_option maxRecDepth 20000 in
noncomputable def G_flip (T : jT) (h : jH) (o0 : Nat) (v1 : Int) (v2 : Int) : Option (Int × jH) := Option.bind (Di_holds h (o0 + 36) v1 v2) (fun b1 => (if b1 = 0 then Option.bind (G_refuse h o0 4) (fun b3 => some (b3.1, b3.2)) else Option.bind (G_remember T h o0) (fun b4 => Option.bind (Di_turn b4 (o0 + 36) (wr ((wr (v1 * (b4 (o0 + 36) 3))) + v2))) (fun b5 => Option.bind (Di_octetAt b5 (o0 + 36) v1 v2) (fun b6 => some (b6, b5))))))
set_option maxRecDepth 20000 in
theorem t_G_flip {T : jT} {xs : List Int} {h : jH}  {o0 : Nat} {v1 : Int} {v2 : Int} {out : (Int × jH)} (ho0 : isX11 T o0) (H : G_flip T h o0 v1 v2 = some out) : jEm xs 6 187 [(2, Int.ofNat o0), (0, v1), (0, v2)] (T, h) ((0, out.1), (T, out.2)) := by
  have hd : 5 ≤ 5 := Nat.le_refl _
  obtain ⟨y, ey⟩ : ∃ y : jV × jS, y = ((0, out.1), (T, out.2)) := ⟨_, rfl⟩
  rw [← ey]
  have HY : ykI T y out := ey
  refine jEm.ent (n := 3) (by decide +kernel) (Nat.le_of_ble_eq_true rfl) ?_
  show jEv xs 5 (187, 0, [(2, Int.ofNat o0), (0, v1), (0, v2)], []) (T, h) y
  unfold G_flip at H
  refine jEv.blk [(.aload_n 0, 1, [])] (by decide +kernel) (pc' := 1) (ls' := [(2, Int.ofNat o0), (0, v1), (0, v2)]) (st' := [(2, Int.ofNat o0)]) rfl ?_
  refine jEv.gfR (o' := (o0 + 35)) (show jfI 187 1 (.getfield 45) 3 [11, 10, 5, 0, 3011] = true by decide +kernel) (isX11_L ho0) (by decide) (isX11_r10 ho0) ?_
  refine jEv.gfR (o' := (o0 + 36)) (show jfI 187 4 (.getfield 115) 3 [9, 1, 5, 0, 2067] = true by decide +kernel) (isX9_L (isX11_s10 ho0)) (by decide) (isX9_r1 (isX11_s10 ho0)) ?_
  refine jEv.blk [(.iload_n 1, 1, []), (.iload_n 2, 1, [])] (by decide +kernel) (pc' := 9) (ls' := [(2, Int.ofNat o0), (0, v1), (0, v2)]) (st' := [(0, v2), (0, v1), (2, Int.ofNat (o0 + 36))]) rfl ?_
  refine jbind H (fun b1 Hb1 H => ?_)
  refine jEv.calV (st' := [(0, b1)]) (show jfI 187 9 (.invokevirtual 362) 3 [1, 9, 2, 6192] = true by decide +kernel) rfl (Or.inl rfl) rfl (Nat.le_of_ble_eq_true rfl) (by decide +kernel) (by decide) (isX0_L (isX9_s1 (isX11_s10 ho0))) ((t_Di_holds (T := T) (xs := xs) (isX9_s1 (isX11_s10 ho0)) Hb1).mono (jKle 1 hd)) rfl ?_
  refine jEv.if_ne (t := 21) (show jfI 187 12 (.ifCond .ne 9) 3 [] = true by decide +kernel) rfl H (fun c2 H => ?_) (fun c2 H => ?_)
  · refine jEv.blk [(.aload_n 0, 1, []), (.iconst 4, 1, [])] (by decide +kernel) (pc' := 17) (ls' := [(2, Int.ofNat o0), (0, v1), (0, v2)]) (st' := [(0, 4), (2, Int.ofNat o0)]) rfl ?_
    refine jbind H (fun b3 Hb3 H => ?_)
    refine jEv.calV (st' := [(0, b3.1)]) (show jfI 187 17 (.invokevirtual 80) 3 [1, 136, 1, 3066] = true by decide +kernel) rfl (Or.inl rfl) rfl (Nat.le_of_ble_eq_true rfl) (by decide +kernel) (by decide) (isX11_L ho0) ((t_G_refuse (T := T) (xs := xs) ho0 Hb3).mono (jKle 2 hd)) rfl ?_
    exact jEv.retI (show jfI 187 20 (.ireturn) 1 [] = true by decide +kernel) (by decide +kernel) (by cases H; exact HY)
  · refine jEv.blk [(.aload_n 0, 1, [])] (by decide +kernel) (pc' := 22) (ls' := [(2, Int.ofNat o0), (0, v1), (0, v2)]) (st' := [(2, Int.ofNat o0)]) rfl ?_
    refine jbind H (fun b4 Hb4 H => ?_)
    refine jEv.calV (st' := []) (show jfI 187 22 (.invokevirtual 333) 3 [1, 178, 0, 6116] = true by decide +kernel) rfl (Or.inl rfl) rfl (Nat.le_of_ble_eq_true rfl) (by decide +kernel) (by decide) (isX11_L ho0) ((t_G_remember (T := T) (xs := xs) ho0 Hb4).mono (jKle 5 hd)) rfl ?_
    refine jEv.blk [(.aload_n 0, 1, [])] (by decide +kernel) (pc' := 26) (ls' := [(2, Int.ofNat o0), (0, v1), (0, v2)]) (st' := [(2, Int.ofNat o0)]) rfl ?_
    refine jEv.gfR (o' := (o0 + 35)) (show jfI 187 26 (.getfield 45) 3 [11, 10, 5, 0, 3011] = true by decide +kernel) (isX11_L ho0) (by decide) (isX11_r10 ho0) ?_
    refine jEv.gfR (o' := (o0 + 36)) (show jfI 187 29 (.getfield 115) 3 [9, 1, 5, 0, 2067] = true by decide +kernel) (isX9_L (isX11_s10 ho0)) (by decide) (isX9_r1 (isX11_s10 ho0)) ?_
    refine jEv.blk [(.iload_n 1, 1, []), (.aload_n 0, 1, [])] (by decide +kernel) (pc' := 34) (ls' := [(2, Int.ofNat o0), (0, v1), (0, v2)]) (st' := [(2, Int.ofNat o0), (0, v1), (2, Int.ofNat (o0 + 36))]) rfl ?_
    refine jEv.gfR (o' := (o0 + 35)) (show jfI 187 34 (.getfield 45) 3 [11, 10, 5, 0, 3011] = true by decide +kernel) (isX11_L ho0) (by decide) (isX11_r10 ho0) ?_
    refine jEv.gfR (o' := (o0 + 36)) (show jfI 187 37 (.getfield 115) 3 [9, 1, 5, 0, 2067] = true by decide +kernel) (isX9_L (isX11_s10 ho0)) (by decide) (isX9_r1 (isX11_s10 ho0)) ?_
    refine jEv.gfI (show jfI 187 40 (.getfield 124) 3 [0, 3, 0, 0, 1190] = true by decide +kernel) (isX0_L (isX9_s1 (isX11_s10 ho0))) (by decide) ?_
    refine jEv.blk [(.imul, 1, []), (.iload_n 2, 1, []), (.iadd, 1, [])] (by decide +kernel) (pc' := 46) (ls' := [(2, Int.ofNat o0), (0, v1), (0, v2)]) (st' := [(0, (wr ((wr (v1 * (b4 (o0 + 36) 3))) + v2))), (2, Int.ofNat (o0 + 36))]) rfl ?_
    refine jbind H (fun b5 Hb5 H => ?_)
    refine jEv.calV (st' := []) (show jfI 187 46 (.invokevirtual 314) 3 [1, 19, 1, 6069] = true by decide +kernel) rfl (Or.inl rfl) rfl (Nat.le_of_ble_eq_true rfl) (by decide +kernel) (by decide) (isX0_L (isX9_s1 (isX11_s10 ho0))) ((t_Di_turn (T := T) (xs := xs) (isX9_s1 (isX11_s10 ho0)) Hb5).mono (jKle 2 hd)) rfl ?_
    refine jEv.blk [(.aload_n 0, 1, [])] (by decide +kernel) (pc' := 50) (ls' := [(2, Int.ofNat o0), (0, v1), (0, v2)]) (st' := [(2, Int.ofNat o0)]) rfl ?_
    refine jEv.gfR (o' := (o0 + 35)) (show jfI 187 50 (.getfield 45) 3 [11, 10, 5, 0, 3011] = true by decide +kernel) (isX11_L ho0) (by decide) (isX11_r10 ho0) ?_
    refine jEv.gfR (o' := (o0 + 36)) (show jfI 187 53 (.getfield 115) 3 [9, 1, 5, 0, 2067] = true by decide +kernel) (isX9_L (isX11_s10 ho0)) (by decide) (isX9_r1 (isX11_s10 ho0)) ?_
    refine jEv.blk [(.iload_n 1, 1, []), (.iload_n 2, 1, [])] (by decide +kernel) (pc' := 58) (ls' := [(2, Int.ofNat o0), (0, v1), (0, v2)]) (st' := [(0, v2), (0, v1), (2, Int.ofNat (o0 + 36))]) rfl ?_
    refine jbind H (fun b6 Hb6 H => ?_)
    refine jEv.calV (st' := [(0, b6)]) (show jfI 187 58 (.invokevirtual 224) 3 [1, 11, 2, 4239] = true by decide +kernel) rfl (Or.inl rfl) rfl (Nat.le_of_ble_eq_true rfl) (by decide +kernel) (by decide) (isX0_L (isX9_s1 (isX11_s10 ho0))) ((t_Di_octetAt (T := T) (xs := xs) (isX9_s1 (isX11_s10 ho0)) Hb6).mono (jKle 1 hd)) rfl ?_
    exact jEv.retI (show jfI 187 61 (.ireturn) 1 [] = true by decide +kernel) (by decide +kernel) (by cases H; exact HY)
set_option maxRecDepth 20000 in
noncomputable def G_undo (T : jT) (h : jH) (o0 : Nat) : Option (Int × jH) := (if 0 < (h o0 13) then (if ((jup (jup h o0 13 (wr ((h o0 13) - 1))) o0 14 (Int.tmod (wr ((wr (((jup h o0 13 (wr ((h o0 13) - 1))) o0 14) + 20)) - 1)) 20)) o0 14) < 0 then some (1, (jup (jup h o0 13 (wr ((h o0 13) - 1))) o0 14 (Int.tmod (wr ((wr (((jup h o0 13 (wr ((h o0 13) - 1))) o0 14) + 20)) - 1)) 20))) else (if ((jup (jup h o0 13 (wr ((h o0 13) - 1))) o0 14 (Int.tmod (wr ((wr (((jup h o0 13 (wr ((h o0 13) - 1))) o0 14) + 20)) - 1)) 20)) o0 14) < ((20 : Nat) : Int) then (if (0 : Int) ≤ ((jup (jup h o0 13 (wr ((h o0 13) - 1))) o0 14 (Int.tmod (wr ((wr (((jup h o0 13 (wr ((h o0 13) - 1))) o0 14) + 20)) - 1)) 20)) o0 14) ∧ (((jup (jup h o0 13 (wr ((h o0 13) - 1))) o0 14 (Int.tmod (wr ((wr (((jup h o0 13 (wr ((h o0 13) - 1))) o0 14) + 20)) - 1)) 20)) o0 14) : Int).toNat < 20 then Option.bind (jdyn (isX9 T) (Int.ofNat (T.2 (o0 + 77) (((jup (jup h o0 13 (wr ((h o0 13) - 1))) o0 14 (Int.tmod (wr ((wr (((jup h o0 13 (wr ((h o0 13) - 1))) o0 14) + 20)) - 1)) 20)) o0 14) : Int).toNat))) (fun q2 => Option.bind (St_copyFrom T (jup (jup h o0 13 (wr ((h o0 13) - 1))) o0 14 (Int.tmod (wr ((wr (((jup h o0 13 (wr ((h o0 13) - 1))) o0 14) + 20)) - 1)) 20)) (o0 + 35) q2) (fun b6 => some (1, b6))) else none) else some (1, (jup (jup h o0 13 (wr ((h o0 13) - 1))) o0 14 (Int.tmod (wr ((wr (((jup h o0 13 (wr ((h o0 13) - 1))) o0 14) + 20)) - 1)) 20))))) else Option.bind (G_deny h o0 5) (fun b7 => (if b7.1 = 0 ∨ b7.1 = 1 then some (b7.1, b7.2) else none)))
set_option maxRecDepth 20000 in
theorem t_G_undo {T : jT} {xs : List Int} {h : jH}  {o0 : Nat} {out : (Int × jH)} (ho0 : isX11 T o0) (H : G_undo T h o0 = some out) : jEm xs 5 188 [(2, Int.ofNat o0)] (T, h) ((0, out.1), (T, out.2)) := by
  have hd : 4 ≤ 4 := Nat.le_refl _
  obtain ⟨y, ey⟩ : ∃ y : jV × jS, y = ((0, out.1), (T, out.2)) := ⟨_, rfl⟩
  rw [← ey]
  have HY : ykI T y out := ey
  refine jEm.ent (n := 2) (by decide +kernel) (Nat.le_of_ble_eq_true rfl) ?_
  show jEv xs 4 (188, 0, [(2, Int.ofNat o0), (3, 0)], []) (T, h) y
  unfold G_undo at H
  refine jEv.blk [(.aload_n 0, 1, [])] (by decide +kernel) (pc' := 1) (ls' := [(2, Int.ofNat o0), (3, 0)]) (st' := [(2, Int.ofNat o0)]) rfl ?_
  refine jEv.gfI (show jfI 188 1 (.getfield 176) 3 [11, 13, 0, 0, 3014] = true by decide +kernel) (isX11_L ho0) (by decide) ?_
  refine jEv.if_gt (t := 13) (show jfI 188 4 (.ifCond .gt 9) 3 [] = true by decide +kernel) rfl H (fun c1 H => ?_) (fun c1 H => ?_)
  · refine jEv.blk [(.aload_n 0, 1, []), (.dup, 1, [])] (by decide +kernel) (pc' := 15) (ls' := [(2, Int.ofNat o0), (3, 0)]) (st' := [(2, Int.ofNat o0), (2, Int.ofNat o0)]) rfl ?_
    refine jEv.gfI (show jfI 188 15 (.getfield 176) 3 [11, 13, 0, 0, 3014] = true by decide +kernel) (isX11_L ho0) (by decide) ?_
    refine jEv.blk [(.iconst 1, 1, []), (.isub, 1, [])] (by decide +kernel) (pc' := 20) (ls' := [(2, Int.ofNat o0), (3, 0)]) (st' := [(0, (wr ((h o0 13) - 1))), (2, Int.ofNat o0)]) rfl ?_
    refine jEv.pfI (show jfI 188 20 (.putfield 176) 3 [11, 13, 0, 0, 3014] = true by decide +kernel) (isX11_L ho0) (by decide) ?_
    refine jEv.blk [(.aload_n 0, 1, []), (.aload_n 0, 1, [])] (by decide +kernel) (pc' := 25) (ls' := [(2, Int.ofNat o0), (3, 0)]) (st' := [(2, Int.ofNat o0), (2, Int.ofNat o0)]) rfl ?_
    refine jEv.gfI (show jfI 188 25 (.getfield 366) 3 [11, 14, 0, 0, 3015] = true by decide +kernel) (isX11_L ho0) (by decide) ?_
    refine jEv.blk [(.bipush 20, 2, []), (.iadd, 1, []), (.iconst 1, 1, []), (.isub, 1, []), (.bipush 20, 2, [])] (by decide +kernel) (pc' := 35) (ls' := [(2, Int.ofNat o0), (3, 0)]) (st' := [(0, 20), (0, (wr ((wr (((jup h o0 13 (wr ((h o0 13) - 1))) o0 14) + 20)) - 1))), (2, Int.ofNat o0)]) rfl ?_
    refine jEv.irem (show jfI 188 35 (.irem) 1 [] = true by decide +kernel) (by decide) ?_
    refine jEv.pfI (show jfI 188 36 (.putfield 366) 3 [11, 14, 0, 0, 3015] = true by decide +kernel) (isX11_L ho0) (by decide) ?_
    refine jEv.blk [(.aload_n 0, 1, []), (.aload_n 0, 1, [])] (by decide +kernel) (pc' := 41) (ls' := [(2, Int.ofNat o0), (3, 0)]) (st' := [(2, Int.ofNat o0), (2, Int.ofNat o0)]) rfl ?_
    refine jEv.gfI (show jfI 188 41 (.getfield 366) 3 [11, 14, 0, 0, 3015] = true by decide +kernel) (isX11_L ho0) (by decide) ?_
    refine jite H (fun c3 H => ?_) (fun c3 H => ?_)
    · refine jEv.calV (st' := [(5, 0)]) (show jfI 188 44 (.invokevirtual 369) 3 [1, 372, 1, 6120] = true by decide +kernel) rfl (Or.inl rfl) rfl (Nat.le_of_ble_eq_true rfl) (by decide +kernel) (by decide) (isX11_L ho0) ((t_G_pastAt_n (T := T) (xs := xs) ho0 (Or.inl c3)).mono (jKle 1 hd)) rfl ?_
      refine jEv.blk [(.astore_n 1, 1, []), (.aload_n 1, 1, [])] (by decide +kernel) (pc' := 49) (ls' := [(2, Int.ofNat o0), (5, 0)]) (st' := [(5, 0)]) rfl ?_
      refine jEv.ifN (t := 60) (show jfI 188 49 (.ifnull 11) 3 [] = true by decide +kernel) rfl ?_
      refine jEv.blk [(.iconst 1, 1, [])] (by decide +kernel) (pc' := 61) (ls' := [(2, Int.ofNat o0), (5, 0)]) (st' := [(0, 1)]) rfl ?_
      exact jEv.retZ (show jfI 188 61 (.ireturn) 1 [] = true by decide +kernel) (by decide +kernel) (by decide) (by cases H; exact HY)
    · refine jite H (fun c4 H => ?_) (fun c4 H => ?_)
      · refine jchk H (fun c5 H => ?_)
        refine jbind H (fun q2 Hq2 H => ?_)
        have hq2 := (jdyn_of Hq2).1
        refine jEv.calV (st' := [(2, Int.ofNat q2)]) (show jfI 188 44 (.invokevirtual 369) 3 [1, 372, 1, 6120] = true by decide +kernel) rfl (Or.inl rfl) rfl (Nat.le_of_ble_eq_true rfl) (by decide +kernel) (by decide) (isX11_L ho0) ((t_G_pastAt_y (T := T) (xs := xs) ho0 c3 c4 (jdyn_of Hq2).2).mono (jKle 1 hd)) rfl ?_
        refine jEv.blk [(.astore_n 1, 1, []), (.aload_n 1, 1, [])] (by decide +kernel) (pc' := 49) (ls' := [(2, Int.ofNat o0), (2, Int.ofNat q2)]) (st' := [(2, Int.ofNat q2)]) rfl ?_
        refine jEv.ifR (show jfI 188 49 (.ifnull 11) 3 [] = true by decide +kernel) (isX9_L hq2) (by decide) ?_
        refine jEv.blk [(.aload_n 0, 1, [])] (by decide +kernel) (pc' := 53) (ls' := [(2, Int.ofNat o0), (2, Int.ofNat q2)]) (st' := [(2, Int.ofNat o0)]) rfl ?_
        refine jEv.gfR (o' := (o0 + 35)) (show jfI 188 53 (.getfield 45) 3 [11, 10, 5, 0, 3011] = true by decide +kernel) (isX11_L ho0) (by decide) (isX11_r10 ho0) ?_
        refine jEv.blk [(.aload_n 1, 1, [])] (by decide +kernel) (pc' := 57) (ls' := [(2, Int.ofNat o0), (2, Int.ofNat q2)]) (st' := [(2, Int.ofNat q2), (2, Int.ofNat (o0 + 35))]) rfl ?_
        refine jbind H (fun b6 Hb6 H => ?_)
        refine jEv.calV (st' := []) (show jfI 188 57 (.invokevirtual 266) 3 [1, 114, 1, 5047] = true by decide +kernel) rfl (Or.inl rfl) rfl (Nat.le_of_ble_eq_true rfl) (by decide +kernel) (by decide) (isX9_L (isX11_s10 ho0)) ((t_St_copyFrom (T := T) (xs := xs) (isX11_s10 ho0) hq2 Hb6).mono (jKle 4 hd)) rfl ?_
        refine jEv.blk [(.iconst 1, 1, [])] (by decide +kernel) (pc' := 61) (ls' := [(2, Int.ofNat o0), (2, Int.ofNat q2)]) (st' := [(0, 1)]) rfl ?_
        exact jEv.retZ (show jfI 188 61 (.ireturn) 1 [] = true by decide +kernel) (by decide +kernel) (by decide) (by cases H; exact HY)
      · refine jEv.calV (st' := [(5, 0)]) (show jfI 188 44 (.invokevirtual 369) 3 [1, 372, 1, 6120] = true by decide +kernel) rfl (Or.inl rfl) rfl (Nat.le_of_ble_eq_true rfl) (by decide +kernel) (by decide) (isX11_L ho0) ((t_G_pastAt_n (T := T) (xs := xs) ho0 (Or.inr c4)).mono (jKle 1 hd)) rfl ?_
        refine jEv.blk [(.astore_n 1, 1, []), (.aload_n 1, 1, [])] (by decide +kernel) (pc' := 49) (ls' := [(2, Int.ofNat o0), (5, 0)]) (st' := [(5, 0)]) rfl ?_
        refine jEv.ifN (t := 60) (show jfI 188 49 (.ifnull 11) 3 [] = true by decide +kernel) rfl ?_
        refine jEv.blk [(.iconst 1, 1, [])] (by decide +kernel) (pc' := 61) (ls' := [(2, Int.ofNat o0), (5, 0)]) (st' := [(0, 1)]) rfl ?_
        exact jEv.retZ (show jfI 188 61 (.ireturn) 1 [] = true by decide +kernel) (by decide +kernel) (by decide) (by cases H; exact HY)
  · refine jEv.blk [(.aload_n 0, 1, []), (.iconst 5, 1, [])] (by decide +kernel) (pc' := 9) (ls' := [(2, Int.ofNat o0), (3, 0)]) (st' := [(0, 5), (2, Int.ofNat o0)]) rfl ?_
    refine jbind H (fun b7 Hb7 H => ?_)
    refine jEv.calV (st' := [(0, b7.1)]) (show jfI 188 9 (.invokevirtual 88) 3 [1, 141, 1, 3084] = true by decide +kernel) rfl (Or.inl rfl) rfl (Nat.le_of_ble_eq_true rfl) (by decide +kernel) (by decide) (isX11_L ho0) ((t_G_deny (T := T) (xs := xs) ho0 Hb7).mono (jKle 3 hd)) rfl ?_
    refine jchk H (fun c8 H => ?_)
    exact jEv.retZ (show jfI 188 12 (.ireturn) 1 [] = true by decide +kernel) (by decide +kernel) c8 (by cases H; exact HY)
set_option maxRecDepth 20000 in
noncomputable def G_seed  (h : jH) (o0 : Nat) (v1 : Int) : Option (Int × jH) := (if v1 < 0 then Option.bind (G_deny h o0 6) (fun b2 => (if b2.1 = 0 ∨ b2.1 = 1 then some (b2.1, b2.2) else none)) else some (1, (jup h o0 5 v1)))
set_option maxRecDepth 20000 in
theorem t_G_seed {T : jT} {xs : List Int} {h : jH}  {o0 : Nat} {v1 : Int} {out : (Int × jH)} (ho0 : isX11 T o0) (H : G_seed h o0 v1 = some out) : jEm xs 4 189 [(2, Int.ofNat o0), (0, v1)] (T, h) ((0, out.1), (T, out.2)) := by
  have hd : 3 ≤ 3 := Nat.le_refl _
  obtain ⟨y, ey⟩ : ∃ y : jV × jS, y = ((0, out.1), (T, out.2)) := ⟨_, rfl⟩
  rw [← ey]
  have HY : ykI T y out := ey
  refine jEm.ent (n := 2) (by decide +kernel) (Nat.le_of_ble_eq_true rfl) ?_
  show jEv xs 3 (189, 0, [(2, Int.ofNat o0), (0, v1)], []) (T, h) y
  unfold G_seed at H
  refine jEv.blk [(.iload_n 1, 1, [])] (by decide +kernel) (pc' := 1) (ls' := [(2, Int.ofNat o0), (0, v1)]) (st' := [(0, v1)]) rfl ?_
  refine jEv.if_ge (t := 11) (show jfI 189 1 (.ifCond .ge 10) 3 [] = true by decide +kernel) rfl H (fun c1 H => ?_) (fun c1 H => ?_)
  · refine jEv.blk [(.aload_n 0, 1, []), (.bipush 6, 2, [])] (by decide +kernel) (pc' := 7) (ls' := [(2, Int.ofNat o0), (0, v1)]) (st' := [(0, 6), (2, Int.ofNat o0)]) rfl ?_
    refine jbind H (fun b2 Hb2 H => ?_)
    refine jEv.calV (st' := [(0, b2.1)]) (show jfI 189 7 (.invokevirtual 88) 3 [1, 141, 1, 3084] = true by decide +kernel) rfl (Or.inl rfl) rfl (Nat.le_of_ble_eq_true rfl) (by decide +kernel) (by decide) (isX11_L ho0) ((t_G_deny (T := T) (xs := xs) ho0 Hb2).mono (jKle 3 hd)) rfl ?_
    refine jchk H (fun c3 H => ?_)
    exact jEv.retZ (show jfI 189 10 (.ireturn) 1 [] = true by decide +kernel) (by decide +kernel) c3 (by cases H; exact HY)
  · refine jEv.blk [(.aload_n 0, 1, []), (.iload_n 1, 1, []), (.i2l, 1, [])] (by decide +kernel) (pc' := 14) (ls' := [(2, Int.ofNat o0), (0, v1)]) (st' := [(1, v1), (2, Int.ofNat o0)]) rfl ?_
    refine jEv.pfJ (show jfI 189 14 (.putfield 19) 3 [11, 5, 1, 0, 3006] = true by decide +kernel) (isX11_L ho0) (by decide) ?_
    refine jEv.blk [(.iconst 1, 1, [])] (by decide +kernel) (pc' := 18) (ls' := [(2, Int.ofNat o0), (0, v1)]) (st' := [(0, 1)]) rfl ?_
    exact jEv.retZ (show jfI 189 18 (.ireturn) 1 [] = true by decide +kernel) (by decide +kernel) (by decide) (by cases H; exact HY)
def yk_G_tellSegment_L152 (T : jT) (xs : List Int) (d : Nat) (y : jV × jS)  (o0 : Nat) (o1 : Nat) (v2 : Int) : ((Int × jH) ⊕ jH) → Prop
  | .inl (v4, h) => jEv xs d (192, 152, [(2, Int.ofNat o0), (2, Int.ofNat o1), (0, v2), (3, 0), (0, v4)], []) (T, h) y
  | .inr o => ykV T y o
def yk_G_tellSegment_L111 (T : jT) (xs : List Int) (d : Nat) (y : jV × jS)  (o0 : Nat) (o1 : Nat) (v2 : Int) : ((Int × jH) ⊕ jH) → Prop
  | .inl (v4, h) => jEv xs d (192, 111, [(2, Int.ofNat o0), (2, Int.ofNat o1), (0, v2), (3, 0), (0, v4)], []) (T, h) y
  | .inr o => ykV T y o
set_option maxRecDepth 20000 in
noncomputable def G_tellSegment_B152  (h : jH) (o0 : Nat) (o1 : Nat) (v2 : Int) (v4 : Int) : Option ((Int × jH) ⊕ jH) := (if v4 < (h (o0 + 36) 3) then Option.bind (Di_octetAt h (o0 + 36) v2 v4) (fun b17 => Option.bind (Fo_tell h o1 (wr (32 + v4)) b17) (fun b18 => some (.inl ((wr (v4 + 1)), b18)))) else Option.map Sum.inr (some h))
noncomputable def G_tellSegment_L152  (h : jH) (o0 : Nat) (o1 : Nat) (v2 : Int) (v4 : Int) : Option jH := jloop (fun s : (Int × jH) => G_tellSegment_B152 s.2 o0 o1 v2 s.1) (v4, h)
set_option maxRecDepth 20000 in
theorem t_G_tellSegment_B152 {T : jT} {xs : List Int} {d : Nat} {y : jV × jS} (hd : 4 ≤ d) {h : jH}  {o0 : Nat} {o1 : Nat} {v2 : Int} {v4 : Int} {out : ((Int × jH) ⊕ jH)} (ho0 : isX11 T o0) (ho1 : isX2 T o1) (H : G_tellSegment_B152 h o0 o1 v2 v4 = some out) (HY : yk_G_tellSegment_L152 T xs d y o0 o1 v2 out) : jEv xs d (192, 152, [(2, Int.ofNat o0), (2, Int.ofNat o1), (0, v2), (3, 0), (0, v4)], []) (T, h) y := by
  unfold G_tellSegment_B152 at H
  refine jEv.blk [(.iload 4, 2, []), (.aload_n 0, 1, [])] (by decide +kernel) (pc' := 155) (ls' := [(2, Int.ofNat o0), (2, Int.ofNat o1), (0, v2), (3, 0), (0, v4)]) (st' := [(2, Int.ofNat o0), (0, v4)]) rfl ?_
  refine jEv.gfR (o' := (o0 + 35)) (show jfI 192 155 (.getfield 45) 3 [11, 10, 5, 0, 3011] = true by decide +kernel) (isX11_L ho0) (by decide) (isX11_r10 ho0) ?_
  refine jEv.gfR (o' := (o0 + 36)) (show jfI 192 158 (.getfield 115) 3 [9, 1, 5, 0, 2067] = true by decide +kernel) (isX9_L (isX11_s10 ho0)) (by decide) (isX9_r1 (isX11_s10 ho0)) ?_
  refine jEv.gfI (show jfI 192 161 (.getfield 124) 3 [0, 3, 0, 0, 1190] = true by decide +kernel) (isX0_L (isX9_s1 (isX11_s10 ho0))) (by decide) ?_
  refine jEv.ic_ge (t := 195) (show jfI 192 164 (.if_icmp .ge 31) 3 [] = true by decide +kernel) rfl H (fun c16 H => ?_) (fun c16 H => ?_)
  · refine jEv.blk [(.aload_n 1, 1, []), (.bipush 32, 2, []), (.iload 4, 2, []), (.iadd, 1, []), (.aload_n 0, 1, [])] (by decide +kernel) (pc' := 174) (ls' := [(2, Int.ofNat o0), (2, Int.ofNat o1), (0, v2), (3, 0), (0, v4)]) (st' := [(2, Int.ofNat o0), (0, (wr (32 + v4))), (2, Int.ofNat o1)]) rfl ?_
    refine jEv.gfR (o' := (o0 + 35)) (show jfI 192 174 (.getfield 45) 3 [11, 10, 5, 0, 3011] = true by decide +kernel) (isX11_L ho0) (by decide) (isX11_r10 ho0) ?_
    refine jEv.gfR (o' := (o0 + 36)) (show jfI 192 177 (.getfield 115) 3 [9, 1, 5, 0, 2067] = true by decide +kernel) (isX9_L (isX11_s10 ho0)) (by decide) (isX9_r1 (isX11_s10 ho0)) ?_
    refine jEv.blk [(.iload_n 2, 1, []), (.iload 4, 2, [])] (by decide +kernel) (pc' := 183) (ls' := [(2, Int.ofNat o0), (2, Int.ofNat o1), (0, v2), (3, 0), (0, v4)]) (st' := [(0, v4), (0, v2), (2, Int.ofNat (o0 + 36)), (0, (wr (32 + v4))), (2, Int.ofNat o1)]) rfl ?_
    refine jbind H (fun b17 Hb17 H => ?_)
    refine jEv.calV (st' := [(0, b17), (0, (wr (32 + v4))), (2, Int.ofNat o1)]) (show jfI 192 183 (.invokevirtual 224) 3 [1, 11, 2, 4239] = true by decide +kernel) rfl (Or.inl rfl) rfl (Nat.le_of_ble_eq_true rfl) (by decide +kernel) (by decide) (isX0_L (isX9_s1 (isX11_s10 ho0))) ((t_Di_octetAt (T := T) (xs := xs) (isX9_s1 (isX11_s10 ho0)) Hb17).mono (jKle 1 hd)) rfl ?_
    refine jbind H (fun b18 Hb18 H => ?_)
    refine jEv.calV (st' := []) (show jfI 192 186 (.invokevirtual 494) 3 [1, 30, 2, 6234] = true by decide +kernel) rfl (Or.inl rfl) rfl (Nat.le_of_ble_eq_true rfl) (by decide +kernel) (by decide) (isX2_L ho1) ((t_Fo_tell (T := T) (xs := xs) ho1 Hb18).mono (jKle 2 hd)) rfl ?_
    refine jEv.blk [(.iinc 4 1, 3, [])] (by decide +kernel) (pc' := 192) (ls' := [(2, Int.ofNat o0), (2, Int.ofNat o1), (0, v2), (3, 0), (0, (wr (v4 + 1)))]) (st' := []) rfl ?_
    refine jEv.goto (t := 152) (show jfI 192 192 (.goto (-40)) 3 [] = true by decide +kernel) rfl ?_
    exact (by cases H; exact HY)
  · refine jmapr H HY (fun out H (HY : ykV T y out) => ?_)
    exact jEv.retV (show jfI 192 195 (.return_) 1 [] = true by decide +kernel) (by decide +kernel) (by cases H; exact HY)
theorem t_G_tellSegment_L152 {T : jT} {xs : List Int} {d : Nat} {y : jV × jS} (hd : 4 ≤ d) {h : jH}  {o0 : Nat} {o1 : Nat} {v2 : Int} {v4 : Int} {out : jH} (ho0 : isX11 T o0) (ho1 : isX2 T o1) (H : G_tellSegment_L152 h o0 o1 v2 v4 = some out) (HY : ykV T y out) : jEv xs d (192, 152, [(2, Int.ofNat o0), (2, Int.ofNat o1), (0, v2), (3, 0), (0, v4)], []) (T, h) y :=
  jloop_sound (G := fun s : (Int × jH) => jEv xs d (192, 152, [(2, Int.ofNat o0), (2, Int.ofNat o1), (0, v2), (3, 0), (0, s.1)], []) (T, s.2) y) (K := yk_G_tellSegment_L152 T xs d y o0 o1 v2) (fun s out H HY => t_G_tellSegment_B152 hd ho0 ho1 H HY) (fun s' hg => hg) (s := (v4, h)) H HY
set_option maxRecDepth 20000 in
noncomputable def G_tellSegment_B111  (h : jH) (o0 : Nat) (o1 : Nat) (v2 : Int) (v4 : Int) : Option ((Int × jH) ⊕ jH) := (if v4 < 16 then Option.bind (G_cell h (o0 + 53) 16 v4) (fun b14 => Option.bind (Fo_tell h o1 (wr (16 + v4)) (max 0 b14)) (fun b15 => some (.inl ((wr (v4 + 1)), b15)))) else Option.map Sum.inr (G_tellSegment_L152 h o0 o1 v2 0))
noncomputable def G_tellSegment_L111  (h : jH) (o0 : Nat) (o1 : Nat) (v2 : Int) (v4 : Int) : Option jH := jloop (fun s : (Int × jH) => G_tellSegment_B111 s.2 o0 o1 v2 s.1) (v4, h)
set_option maxRecDepth 20000 in
theorem t_G_tellSegment_B111 {T : jT} {xs : List Int} {d : Nat} {y : jV × jS} (hd : 4 ≤ d) {h : jH}  {o0 : Nat} {o1 : Nat} {v2 : Int} {v4 : Int} {out : ((Int × jH) ⊕ jH)} (ho0 : isX11 T o0) (ho1 : isX2 T o1) (H : G_tellSegment_B111 h o0 o1 v2 v4 = some out) (HY : yk_G_tellSegment_L111 T xs d y o0 o1 v2 out) : jEv xs d (192, 111, [(2, Int.ofNat o0), (2, Int.ofNat o1), (0, v2), (3, 0), (0, v4)], []) (T, h) y := by
  unfold G_tellSegment_B111 at H
  refine jEv.blk [(.iload 4, 2, []), (.bipush 16, 2, [])] (by decide +kernel) (pc' := 115) (ls' := [(2, Int.ofNat o0), (2, Int.ofNat o1), (0, v2), (3, 0), (0, v4)]) (st' := [(0, 16), (0, v4)]) rfl ?_
  refine jEv.ic_ge (t := 149) (show jfI 192 115 (.if_icmp .ge 34) 3 [] = true by decide +kernel) rfl H (fun c13 H => ?_) (fun c13 H => ?_)
  · refine jEv.blk [(.aload_n 1, 1, []), (.bipush 16, 2, []), (.iload 4, 2, []), (.iadd, 1, []), (.iconst 0, 1, []), (.aload_n 0, 1, [])] (by decide +kernel) (pc' := 126) (ls' := [(2, Int.ofNat o0), (2, Int.ofNat o1), (0, v2), (3, 0), (0, v4)]) (st' := [(2, Int.ofNat o0), (0, 0), (0, (wr (16 + v4))), (2, Int.ofNat o1)]) rfl ?_
    refine jEv.gfR (o' := (o0 + 35)) (show jfI 192 126 (.getfield 45) 3 [11, 10, 5, 0, 3011] = true by decide +kernel) (isX11_L ho0) (by decide) (isX11_r10 ho0) ?_
    refine jEv.gfR (o' := (o0 + 53)) (show jfI 192 129 (.getfield 238) 3 [9, 5, 5, 0, 2077] = true by decide +kernel) (isX9_L (isX11_s10 ho0)) (by decide) (isX9_r5 (isX11_s10 ho0)) ?_
    refine jEv.blk [(.iload 4, 2, [])] (by decide +kernel) (pc' := 134) (ls' := [(2, Int.ofNat o0), (2, Int.ofNat o1), (0, v2), (3, 0), (0, v4)]) (st' := [(0, v4), (2, Int.ofNat (o0 + 53)), (0, 0), (0, (wr (16 + v4))), (2, Int.ofNat o1)]) rfl ?_
    refine jbind H (fun b14 Hb14 H => ?_)
    refine jEv.calS (st' := [(0, b14), (0, 0), (0, (wr (16 + v4))), (2, Int.ofNat o1)]) (show jfI 192 134 (.invokestatic 241) 3 [3, 137, 2, 3070] = true by decide +kernel) rfl (Or.inl rfl) rfl (Nat.le_of_ble_eq_true rfl) ((t_G_cell (T := T) (xs := xs) (isX9_a5 (isX11_s10 ho0)) Hb14).mono (jKle 1 hd)) rfl ?_
    refine jEv.calS (st' := [(0, (max 0 b14)), (0, (wr (16 + v4))), (2, Int.ofNat o1)]) (show jfI 192 137 (.invokestatic 477) 3 [3, 371, 2, 6111] = true by decide +kernel) rfl (Or.inl rfl) rfl (Nat.le_of_ble_eq_true rfl) ((t_JMath_max_1 (T := T) (xs := xs)).mono (jKle 1 hd)) rfl ?_
    refine jbind H (fun b15 Hb15 H => ?_)
    refine jEv.calV (st' := []) (show jfI 192 140 (.invokevirtual 494) 3 [1, 30, 2, 6234] = true by decide +kernel) rfl (Or.inl rfl) rfl (Nat.le_of_ble_eq_true rfl) (by decide +kernel) (by decide) (isX2_L ho1) ((t_Fo_tell (T := T) (xs := xs) ho1 Hb15).mono (jKle 2 hd)) rfl ?_
    refine jEv.blk [(.iinc 4 1, 3, [])] (by decide +kernel) (pc' := 146) (ls' := [(2, Int.ofNat o0), (2, Int.ofNat o1), (0, v2), (3, 0), (0, (wr (v4 + 1)))]) (st' := []) rfl ?_
    refine jEv.goto (t := 111) (show jfI 192 146 (.goto (-35)) 3 [] = true by decide +kernel) rfl ?_
    exact (by cases H; exact HY)
  · refine jmapr H HY (fun out H (HY : ykV T y out) => ?_)
    refine jEv.blk [(.iconst 0, 1, []), (.istore 4, 2, [])] (by decide +kernel) (pc' := 152) (ls' := [(2, Int.ofNat o0), (2, Int.ofNat o1), (0, v2), (3, 0), (0, 0)]) (st' := []) rfl ?_
    exact t_G_tellSegment_L152 (T := T) (xs := xs) (y := y) hd ho0 ho1 H HY
theorem t_G_tellSegment_L111 {T : jT} {xs : List Int} {d : Nat} {y : jV × jS} (hd : 4 ≤ d) {h : jH}  {o0 : Nat} {o1 : Nat} {v2 : Int} {v4 : Int} {out : jH} (ho0 : isX11 T o0) (ho1 : isX2 T o1) (H : G_tellSegment_L111 h o0 o1 v2 v4 = some out) (HY : ykV T y out) : jEv xs d (192, 111, [(2, Int.ofNat o0), (2, Int.ofNat o1), (0, v2), (3, 0), (0, v4)], []) (T, h) y :=
  jloop_sound (G := fun s : (Int × jH) => jEv xs d (192, 111, [(2, Int.ofNat o0), (2, Int.ofNat o1), (0, v2), (3, 0), (0, s.1)], []) (T, s.2) y) (K := yk_G_tellSegment_L111 T xs d y o0 o1 v2) (fun s out H HY => t_G_tellSegment_B111 hd ho0 ho1 H HY) (fun s' hg => hg) (s := (v4, h)) H HY
set_option maxRecDepth 20000 in
noncomputable def G_tellSegment_p81  (h : jH) (o0 : Nat) (o1 : Nat) (v2 : Int) (os0 : Nat) (vs1 : Int) (vs2 : Int) : Option jH := Option.bind (Fo_tell h os0 vs1 vs2) (fun b10 => Option.bind (FR_frameCount b10 (o0 + 80) (o0 + 36) v2) (fun b11 => Option.bind (Fo_tell b11.2 o1 8 b11.1) (fun b12 => G_tellSegment_L111 b12 o0 o1 v2 0)))
set_option maxRecDepth 20000 in
theorem t_G_tellSegment_p81 {T : jT} {xs : List Int} {d : Nat} {y : jV × jS} (hd : 4 ≤ d) {h : jH}  {o0 : Nat} {o1 : Nat} {v2 : Int} {os0 : Nat} {vs1 : Int} {vs2 : Int} {out : jH} (ho0 : isX11 T o0) (ho1 : isX2 T o1) (hos0 : isX2 T os0) (H : G_tellSegment_p81 h o0 o1 v2 os0 vs1 vs2 = some out) (HY : ykV T y out) : jEv xs d (192, 81, [(2, Int.ofNat o0), (2, Int.ofNat o1), (0, v2), (3, 0), (3, 0)], [(0, vs2), (0, vs1), (2, Int.ofNat os0)]) (T, h) y := by
  unfold G_tellSegment_p81 at H
  refine jbind H (fun b10 Hb10 H => ?_)
  refine jEv.calV (st' := []) (show jfI 192 81 (.invokevirtual 494) 3 [1, 30, 2, 6234] = true by decide +kernel) rfl (Or.inl rfl) rfl (Nat.le_of_ble_eq_true rfl) (by decide +kernel) (by decide) (isX2_L hos0) ((t_Fo_tell (T := T) (xs := xs) hos0 Hb10).mono (jKle 2 hd)) rfl ?_
  refine jEv.blk [(.aload_n 1, 1, []), (.bipush 8, 2, []), (.aload_n 0, 1, [])] (by decide +kernel) (pc' := 88) (ls' := [(2, Int.ofNat o0), (2, Int.ofNat o1), (0, v2), (3, 0), (3, 0)]) (st' := [(2, Int.ofNat o0), (0, 8), (2, Int.ofNat o1)]) rfl ?_
  refine jEv.gfR (o' := (o0 + 79)) (show jfI 192 88 (.getfield 66) 3 [11, 16, 5, 0, 3017] = true by decide +kernel) (isX11_L ho0) (by decide) (isX11_r16 ho0) ?_
  refine jEv.gfR (o' := (o0 + 80)) (show jfI 192 91 (.getfield 189) 3 [8, 0, 5, 0, 2204] = true by decide +kernel) (isX8_L (isX11_s16 ho0)) (by decide) (isX8_r0 (isX11_s16 ho0)) ?_
  refine jEv.blk [(.aload_n 0, 1, [])] (by decide +kernel) (pc' := 95) (ls' := [(2, Int.ofNat o0), (2, Int.ofNat o1), (0, v2), (3, 0), (3, 0)]) (st' := [(2, Int.ofNat o0), (2, Int.ofNat (o0 + 80)), (0, 8), (2, Int.ofNat o1)]) rfl ?_
  refine jEv.gfR (o' := (o0 + 35)) (show jfI 192 95 (.getfield 45) 3 [11, 10, 5, 0, 3011] = true by decide +kernel) (isX11_L ho0) (by decide) (isX11_r10 ho0) ?_
  refine jEv.gfR (o' := (o0 + 36)) (show jfI 192 98 (.getfield 115) 3 [9, 1, 5, 0, 2067] = true by decide +kernel) (isX9_L (isX11_s10 ho0)) (by decide) (isX9_r1 (isX11_s10 ho0)) ?_
  refine jEv.blk [(.iload_n 2, 1, [])] (by decide +kernel) (pc' := 102) (ls' := [(2, Int.ofNat o0), (2, Int.ofNat o1), (0, v2), (3, 0), (3, 0)]) (st' := [(0, v2), (2, Int.ofNat (o0 + 36)), (2, Int.ofNat (o0 + 80)), (0, 8), (2, Int.ofNat o1)]) rfl ?_
  refine jbind H (fun b11 Hb11 H => ?_)
  refine jEv.calV (st' := [(0, b11.1), (0, 8), (2, Int.ofNat o1)]) (show jfI 192 102 (.invokevirtual 193) 3 [1, 39, 2, 4168] = true by decide +kernel) rfl (Or.inl rfl) rfl (Nat.le_of_ble_eq_true rfl) (by decide +kernel) (by decide) (isX3_L (isX8_s0 (isX11_s16 ho0))) ((t_FR_frameCount (T := T) (xs := xs) (isX8_s0 (isX11_s16 ho0)) (isX9_s1 (isX11_s10 ho0)) Hb11).mono (jKle 4 hd)) rfl ?_
  refine jbind H (fun b12 Hb12 H => ?_)
  refine jEv.calV (st' := []) (show jfI 192 105 (.invokevirtual 494) 3 [1, 30, 2, 6234] = true by decide +kernel) rfl (Or.inl rfl) rfl (Nat.le_of_ble_eq_true rfl) (by decide +kernel) (by decide) (isX2_L ho1) ((t_Fo_tell (T := T) (xs := xs) ho1 Hb12).mono (jKle 2 hd)) rfl ?_
  refine jEv.blk [(.iconst 0, 1, []), (.istore 4, 2, [])] (by decide +kernel) (pc' := 111) (ls' := [(2, Int.ofNat o0), (2, Int.ofNat o1), (0, v2), (3, 0), (0, 0)]) (st' := []) rfl ?_
  exact t_G_tellSegment_L111 (T := T) (xs := xs) (y := y) hd ho0 ho1 H HY
set_option maxRecDepth 20000 in
noncomputable def G_tellSegment_p56  (h : jH) (o0 : Nat) (o1 : Nat) (v2 : Int) (v3 : Int) (os0 : Nat) (vs1 : Int) (vs2 : Int) : Option jH := Option.bind (Fo_tell h os0 vs1 vs2) (fun b7 => (if v3 = 0 then G_tellSegment_p81 b7 o0 o1 v2 o1 7 0 else Option.bind (Di_firstOf b7 (o0 + 36) v2) (fun b9 => G_tellSegment_p81 b7 o0 o1 v2 o1 7 b9)))
set_option maxRecDepth 20000 in
theorem t_G_tellSegment_p56 {T : jT} {xs : List Int} {d : Nat} {y : jV × jS} (hd : 4 ≤ d) {h : jH}  {o0 : Nat} {o1 : Nat} {v2 : Int} {v3 : Int} {os0 : Nat} {vs1 : Int} {vs2 : Int} {out : jH} (ho0 : isX11 T o0) (ho1 : isX2 T o1) (hos0 : isX2 T os0) (H : G_tellSegment_p56 h o0 o1 v2 v3 os0 vs1 vs2 = some out) (HY : ykV T y out) : jEv xs d (192, 56, [(2, Int.ofNat o0), (2, Int.ofNat o1), (0, v2), (0, v3), (3, 0)], [(0, vs2), (0, vs1), (2, Int.ofNat os0)]) (T, h) y := by
  unfold G_tellSegment_p56 at H
  refine jbind H (fun b7 Hb7 H => ?_)
  refine jEv.calV (st' := []) (show jfI 192 56 (.invokevirtual 494) 3 [1, 30, 2, 6234] = true by decide +kernel) rfl (Or.inl rfl) rfl (Nat.le_of_ble_eq_true rfl) (by decide +kernel) (by decide) (isX2_L hos0) ((t_Fo_tell (T := T) (xs := xs) hos0 Hb7).mono (jKle 2 hd)) rfl ?_
  refine jEv.blk [(.aload_n 1, 1, []), (.bipush 7, 2, []), (.iload_n 3, 1, [])] (by decide +kernel) (pc' := 63) (ls' := [(2, Int.ofNat o0), (2, Int.ofNat o1), (0, v2), (0, v3), (3, 0)]) (st' := [(0, v3), (0, 7), (2, Int.ofNat o1)]) rfl ?_
  refine jEv.if_eq (t := 80) (show jfI 192 63 (.ifCond .eq 17) 3 [] = true by decide +kernel) rfl H (fun c8 H => ?_) (fun c8 H => ?_)
  · refine jEv.blk [(.iconst 0, 1, [])] (by decide +kernel) (pc' := 81) (ls' := [(2, Int.ofNat o0), (2, Int.ofNat o1), (0, v2), (0, v3), (3, 0)]) (st' := [(0, 0), (0, 7), (2, Int.ofNat o1)]) rfl ?_
    exact jEv.weak (a := [(2, Int.ofNat o0), (2, Int.ofNat o1), (0, v2), (3, 0), (3, 0)]) (jles.c1 (jles.c1 (jles.c1 (jles.c0 (jles.c0 jles.nl))))) (t_G_tellSegment_p81 (T := T) (xs := xs) (y := y) hd ho0 ho1 ho1 H HY)
  · refine jEv.blk [(.aload_n 0, 1, [])] (by decide +kernel) (pc' := 67) (ls' := [(2, Int.ofNat o0), (2, Int.ofNat o1), (0, v2), (0, v3), (3, 0)]) (st' := [(2, Int.ofNat o0), (0, 7), (2, Int.ofNat o1)]) rfl ?_
    refine jEv.gfR (o' := (o0 + 35)) (show jfI 192 67 (.getfield 45) 3 [11, 10, 5, 0, 3011] = true by decide +kernel) (isX11_L ho0) (by decide) (isX11_r10 ho0) ?_
    refine jEv.gfR (o' := (o0 + 36)) (show jfI 192 70 (.getfield 115) 3 [9, 1, 5, 0, 2067] = true by decide +kernel) (isX9_L (isX11_s10 ho0)) (by decide) (isX9_r1 (isX11_s10 ho0)) ?_
    refine jEv.blk [(.iload_n 2, 1, [])] (by decide +kernel) (pc' := 74) (ls' := [(2, Int.ofNat o0), (2, Int.ofNat o1), (0, v2), (0, v3), (3, 0)]) (st' := [(0, v2), (2, Int.ofNat (o0 + 36)), (0, 7), (2, Int.ofNat o1)]) rfl ?_
    refine jbind H (fun b9 Hb9 H => ?_)
    refine jEv.calV (st' := [(0, b9), (0, 7), (2, Int.ofNat o1)]) (show jfI 192 74 (.invokevirtual 205) 3 [1, 14, 1, 4225] = true by decide +kernel) rfl (Or.inl rfl) rfl (Nat.le_of_ble_eq_true rfl) (by decide +kernel) (by decide) (isX0_L (isX9_s1 (isX11_s10 ho0))) ((t_Di_firstOf (T := T) (xs := xs) (isX9_s1 (isX11_s10 ho0)) Hb9).mono (jKle 2 hd)) rfl ?_
    refine jEv.goto (t := 81) (show jfI 192 77 (.goto 4) 3 [] = true by decide +kernel) rfl ?_
    exact jEv.weak (a := [(2, Int.ofNat o0), (2, Int.ofNat o1), (0, v2), (3, 0), (3, 0)]) (jles.c1 (jles.c1 (jles.c1 (jles.c0 (jles.c0 jles.nl))))) (t_G_tellSegment_p81 (T := T) (xs := xs) (y := y) hd ho0 ho1 ho1 H HY)
set_option maxRecDepth 20000 in
noncomputable def G_tellSegment  (h : jH) (o0 : Nat) (o1 : Nat) (v2 : Int) : Option jH := Option.bind (Di_headStands h (o0 + 36) v2) (fun b1 => Option.bind (Fo_clearFacts h o1) (fun b2 => Option.bind (Fo_tell b2 o1 0 (b2 (o0 + 35) 9)) (fun b3 => Option.bind (Fo_tell b3 o1 5 v2) (fun b4 => (if b1 = 0 then G_tellSegment_p56 b4 o0 o1 v2 b1 o1 6 0 else Option.bind (Di_serialOf b4 (o0 + 36) v2) (fun b6 => G_tellSegment_p56 b4 o0 o1 v2 b1 o1 6 b6))))))
set_option maxRecDepth 20000 in
theorem t_G_tellSegment {T : jT} {xs : List Int} {h : jH}  {o0 : Nat} {o1 : Nat} {v2 : Int} {out : jH} (ho0 : isX11 T o0) (ho1 : isX2 T o1) (H : G_tellSegment h o0 o1 v2 = some out) : jEm xs 5 192 [(2, Int.ofNat o0), (2, Int.ofNat o1), (0, v2)] (T, h) ((3, 0), (T, out)) := by
  have hd : 4 ≤ 4 := Nat.le_refl _
  obtain ⟨y, ey⟩ : ∃ y : jV × jS, y = ((3, 0), (T, out)) := ⟨_, rfl⟩
  rw [← ey]
  have HY : ykV T y out := ey
  refine jEm.ent (n := 5) (by decide +kernel) (Nat.le_of_ble_eq_true rfl) ?_
  show jEv xs 4 (192, 0, [(2, Int.ofNat o0), (2, Int.ofNat o1), (0, v2), (3, 0), (3, 0)], []) (T, h) y
  unfold G_tellSegment at H
  refine jEv.blk [(.aload_n 0, 1, [])] (by decide +kernel) (pc' := 1) (ls' := [(2, Int.ofNat o0), (2, Int.ofNat o1), (0, v2), (3, 0), (3, 0)]) (st' := [(2, Int.ofNat o0)]) rfl ?_
  refine jEv.gfR (o' := (o0 + 35)) (show jfI 192 1 (.getfield 45) 3 [11, 10, 5, 0, 3011] = true by decide +kernel) (isX11_L ho0) (by decide) (isX11_r10 ho0) ?_
  refine jEv.gfR (o' := (o0 + 36)) (show jfI 192 4 (.getfield 115) 3 [9, 1, 5, 0, 2067] = true by decide +kernel) (isX9_L (isX11_s10 ho0)) (by decide) (isX9_r1 (isX11_s10 ho0)) ?_
  refine jEv.blk [(.iload_n 2, 1, [])] (by decide +kernel) (pc' := 8) (ls' := [(2, Int.ofNat o0), (2, Int.ofNat o1), (0, v2), (3, 0), (3, 0)]) (st' := [(0, v2), (2, Int.ofNat (o0 + 36))]) rfl ?_
  refine jbind H (fun b1 Hb1 H => ?_)
  refine jEv.calV (st' := [(0, b1)]) (show jfI 192 8 (.invokevirtual 199) 3 [1, 8, 1, 4223] = true by decide +kernel) rfl (Or.inl rfl) rfl (Nat.le_of_ble_eq_true rfl) (by decide +kernel) (by decide) (isX0_L (isX9_s1 (isX11_s10 ho0))) ((t_Di_headStands (T := T) (xs := xs) (isX9_s1 (isX11_s10 ho0)) Hb1).mono (jKle 3 hd)) rfl ?_
  refine jEv.blk [(.istore_n 3, 1, []), (.aload_n 1, 1, [])] (by decide +kernel) (pc' := 13) (ls' := [(2, Int.ofNat o0), (2, Int.ofNat o1), (0, v2), (0, b1), (3, 0)]) (st' := [(2, Int.ofNat o1)]) rfl ?_
  refine jbind H (fun b2 Hb2 H => ?_)
  refine jEv.calV (st' := []) (show jfI 192 13 (.invokevirtual 491) 3 [1, 37, 0, 6229] = true by decide +kernel) rfl (Or.inl rfl) rfl (Nat.le_of_ble_eq_true rfl) (by decide +kernel) (by decide) (isX2_L ho1) ((t_Fo_clearFacts (T := T) (xs := xs) ho1 Hb2).mono (jKle 2 hd)) rfl ?_
  refine jEv.blk [(.aload_n 1, 1, []), (.iconst 0, 1, []), (.aload_n 0, 1, [])] (by decide +kernel) (pc' := 19) (ls' := [(2, Int.ofNat o0), (2, Int.ofNat o1), (0, v2), (0, b1), (3, 0)]) (st' := [(2, Int.ofNat o0), (0, 0), (2, Int.ofNat o1)]) rfl ?_
  refine jEv.gfR (o' := (o0 + 35)) (show jfI 192 19 (.getfield 45) 3 [11, 10, 5, 0, 3011] = true by decide +kernel) (isX11_L ho0) (by decide) (isX11_r10 ho0) ?_
  refine jEv.gfI (show jfI 192 22 (.getfield 127) 3 [9, 9, 0, 0, 2085] = true by decide +kernel) (isX9_L (isX11_s10 ho0)) (by decide) ?_
  refine jbind H (fun b3 Hb3 H => ?_)
  refine jEv.calV (st' := []) (show jfI 192 25 (.invokevirtual 494) 3 [1, 30, 2, 6234] = true by decide +kernel) rfl (Or.inl rfl) rfl (Nat.le_of_ble_eq_true rfl) (by decide +kernel) (by decide) (isX2_L ho1) ((t_Fo_tell (T := T) (xs := xs) ho1 Hb3).mono (jKle 2 hd)) rfl ?_
  refine jEv.blk [(.aload_n 1, 1, []), (.iconst 5, 1, []), (.iload_n 2, 1, [])] (by decide +kernel) (pc' := 31) (ls' := [(2, Int.ofNat o0), (2, Int.ofNat o1), (0, v2), (0, b1), (3, 0)]) (st' := [(0, v2), (0, 5), (2, Int.ofNat o1)]) rfl ?_
  refine jbind H (fun b4 Hb4 H => ?_)
  refine jEv.calV (st' := []) (show jfI 192 31 (.invokevirtual 494) 3 [1, 30, 2, 6234] = true by decide +kernel) rfl (Or.inl rfl) rfl (Nat.le_of_ble_eq_true rfl) (by decide +kernel) (by decide) (isX2_L ho1) ((t_Fo_tell (T := T) (xs := xs) ho1 Hb4).mono (jKle 2 hd)) rfl ?_
  refine jEv.blk [(.aload_n 1, 1, []), (.bipush 6, 2, []), (.iload_n 3, 1, [])] (by decide +kernel) (pc' := 38) (ls' := [(2, Int.ofNat o0), (2, Int.ofNat o1), (0, v2), (0, b1), (3, 0)]) (st' := [(0, b1), (0, 6), (2, Int.ofNat o1)]) rfl ?_
  refine jEv.if_eq (t := 55) (show jfI 192 38 (.ifCond .eq 17) 3 [] = true by decide +kernel) rfl H (fun c5 H => ?_) (fun c5 H => ?_)
  · refine jEv.blk [(.iconst 0, 1, [])] (by decide +kernel) (pc' := 56) (ls' := [(2, Int.ofNat o0), (2, Int.ofNat o1), (0, v2), (0, b1), (3, 0)]) (st' := [(0, 0), (0, 6), (2, Int.ofNat o1)]) rfl ?_
    exact t_G_tellSegment_p56 (T := T) (xs := xs) (y := y) hd ho0 ho1 ho1 H HY
  · refine jEv.blk [(.aload_n 0, 1, [])] (by decide +kernel) (pc' := 42) (ls' := [(2, Int.ofNat o0), (2, Int.ofNat o1), (0, v2), (0, b1), (3, 0)]) (st' := [(2, Int.ofNat o0), (0, 6), (2, Int.ofNat o1)]) rfl ?_
    refine jEv.gfR (o' := (o0 + 35)) (show jfI 192 42 (.getfield 45) 3 [11, 10, 5, 0, 3011] = true by decide +kernel) (isX11_L ho0) (by decide) (isX11_r10 ho0) ?_
    refine jEv.gfR (o' := (o0 + 36)) (show jfI 192 45 (.getfield 115) 3 [9, 1, 5, 0, 2067] = true by decide +kernel) (isX9_L (isX11_s10 ho0)) (by decide) (isX9_r1 (isX11_s10 ho0)) ?_
    refine jEv.blk [(.iload_n 2, 1, [])] (by decide +kernel) (pc' := 49) (ls' := [(2, Int.ofNat o0), (2, Int.ofNat o1), (0, v2), (0, b1), (3, 0)]) (st' := [(0, v2), (2, Int.ofNat (o0 + 36)), (0, 6), (2, Int.ofNat o1)]) rfl ?_
    refine jbind H (fun b6 Hb6 H => ?_)
    refine jEv.calV (st' := [(0, b6), (0, 6), (2, Int.ofNat o1)]) (show jfI 192 49 (.invokevirtual 202) 3 [1, 10, 1, 4224] = true by decide +kernel) rfl (Or.inl rfl) rfl (Nat.le_of_ble_eq_true rfl) (by decide +kernel) (by decide) (isX0_L (isX9_s1 (isX11_s10 ho0))) ((t_Di_serialOf (T := T) (xs := xs) (isX9_s1 (isX11_s10 ho0)) Hb6).mono (jKle 2 hd)) rfl ?_
    refine jEv.goto (t := 56) (show jfI 192 52 (.goto 4) 3 [] = true by decide +kernel) rfl ?_
    exact t_G_tellSegment_p56 (T := T) (xs := xs) (y := y) hd ho0 ho1 ho1 H HY
def yk_G_answer_L24 (T : jT) (xs : List Int) (d : Nat) (y : jV × jS)  (o0 : Nat) (v1 : Int) (o2 : Nat) : ((Int × Int × Int × Int × Int × Int × Int × jH) ⊕ (Int × jH)) → Prop
  | .inl (v3, v5, v6, v7, v8, v9, v10, h) => jEv xs d (191, 24, [(2, Int.ofNat o0), (0, v1), (2, Int.ofNat o2), (1, v3), (3, 0), (0, v5), (0, v6), (0, v7), (0, v8), (0, v9), (0, v10), (3, 0)], []) (T, h) y
  | .inr o => ykJ T y o
set_option maxRecDepth 20000 in
noncomputable def G_answer_p94  (h : jH) (o0 : Nat) (v1 : Int) (o2 : Nat) (v3 : Int) (v5 : Int) (v8 : Int) (v9 : Int) (v10 : Int) (vs0 : Int) : Option ((Int × Int × Int × Int × Int × Int × Int × jH) ⊕ (Int × jH)) := some (.inl (v3, (wr (v5 + 1)), vs0, v10, v8, v9, (wr (v10 + 1)), h))
set_option maxRecDepth 20000 in
theorem t_G_answer_p94 {T : jT} {xs : List Int} {d : Nat} {y : jV × jS} (hd : 5 ≤ d) {h : jH}  {o0 : Nat} {v1 : Int} {o2 : Nat} {v3 : Int} {v5 : Int} {v8 : Int} {v9 : Int} {v10 : Int} {vs0 : Int} {out : ((Int × Int × Int × Int × Int × Int × Int × jH) ⊕ (Int × jH))} (ho0 : isX11 T o0) (ho2 : isX2 T o2) (H : G_answer_p94 h o0 v1 o2 v3 v5 v8 v9 v10 vs0 = some out) (HY : yk_G_answer_L24 T xs d y o0 v1 o2 out) : jEv xs d (191, 94, [(2, Int.ofNat o0), (0, v1), (2, Int.ofNat o2), (1, v3), (3, 0), (0, v5), (3, 0), (3, 0), (0, v8), (0, v9), (0, v10), (3, 0)], [(0, vs0)]) (T, h) y := by
  unfold G_answer_p94 at H
  refine jEv.blk [(.istore 6, 2, []), (.iload 10, 2, []), (.istore 7, 2, []), (.iinc 5 1, 3, [])] (by decide +kernel) (pc' := 103) (ls' := [(2, Int.ofNat o0), (0, v1), (2, Int.ofNat o2), (1, v3), (3, 0), (0, (wr (v5 + 1))), (0, vs0), (0, v10), (0, v8), (0, v9), (0, v10), (3, 0)]) (st' := []) rfl ?_
  refine jEv.blk [(.iinc 10 1, 3, [])] (by decide +kernel) (pc' := 106) (ls' := [(2, Int.ofNat o0), (0, v1), (2, Int.ofNat o2), (1, v3), (3, 0), (0, (wr (v5 + 1))), (0, vs0), (0, v10), (0, v8), (0, v9), (0, (wr (v10 + 1))), (3, 0)]) (st' := []) rfl ?_
  refine jEv.goto (t := 24) (show jfI 191 106 (.goto (-82)) 3 [] = true by decide +kernel) rfl ?_
  exact (by cases H; exact HY)
set_option maxRecDepth 20000 in
noncomputable def G_answer_B24  (h : jH) (o0 : Nat) (v1 : Int) (o2 : Nat) (v3 : Int) (v5 : Int) (v6 : Int) (v7 : Int) (v8 : Int) (v9 : Int) (v10 : Int) : Option ((Int × Int × Int × Int × Int × Int × Int × jH) ⊕ (Int × jH)) := (if v10 < (h (o0 + 36) 2) then Option.bind (G_tellSegment h o0 o2 v10) (fun b2 => Option.bind (Fo_evaluate b2 o2) (fun b3 => (if b3.1 = 0 then some (.inl ((wl (v3 + b3.1)), v5, v6, v7, (max v8 b3.1), (min v9 b3.1), (wr (v10 + 1)), b3.2)) else (if v6 = (-1) then G_answer_p94 b3.2 o0 v1 o2 (wl (v3 + b3.1)) v5 (max v8 b3.1) (min v9 b3.1) v10 v10 else G_answer_p94 b3.2 o0 v1 o2 (wl (v3 + b3.1)) v5 (max v8 b3.1) (min v9 b3.1) v10 v6)))) else Option.map Sum.inr ((if v1 = 0 then some (v6, h) else (if v1 = 1 then some (v7, h) else (if v1 = 2 then some (v5, h) else (if v1 = 3 then some (v3, h) else (if v1 = 4 then some (v8, h) else some (v9, h))))))))
noncomputable def G_answer_L24  (h : jH) (o0 : Nat) (v1 : Int) (o2 : Nat) (v3 : Int) (v5 : Int) (v6 : Int) (v7 : Int) (v8 : Int) (v9 : Int) (v10 : Int) : Option (Int × jH) := jloop (fun s : (Int × Int × Int × Int × Int × Int × Int × jH) => G_answer_B24 s.2.2.2.2.2.2.2 o0 v1 o2 s.1 s.2.1 s.2.2.1 s.2.2.2.1 s.2.2.2.2.1 s.2.2.2.2.2.1 s.2.2.2.2.2.2.1) (v3, v5, v6, v7, v8, v9, v10, h)
set_option maxRecDepth 20000 in
theorem t_G_answer_B24 {T : jT} {xs : List Int} {d : Nat} {y : jV × jS} (hd : 5 ≤ d) {h : jH}  {o0 : Nat} {v1 : Int} {o2 : Nat} {v3 : Int} {v5 : Int} {v6 : Int} {v7 : Int} {v8 : Int} {v9 : Int} {v10 : Int} {out : ((Int × Int × Int × Int × Int × Int × Int × jH) ⊕ (Int × jH))} (ho0 : isX11 T o0) (ho2 : isX2 T o2) (H : G_answer_B24 h o0 v1 o2 v3 v5 v6 v7 v8 v9 v10 = some out) (HY : yk_G_answer_L24 T xs d y o0 v1 o2 out) : jEv xs d (191, 24, [(2, Int.ofNat o0), (0, v1), (2, Int.ofNat o2), (1, v3), (3, 0), (0, v5), (0, v6), (0, v7), (0, v8), (0, v9), (0, v10), (3, 0)], []) (T, h) y := by
  unfold G_answer_B24 at H
  refine jEv.blk [(.iload 10, 2, []), (.aload_n 0, 1, [])] (by decide +kernel) (pc' := 27) (ls' := [(2, Int.ofNat o0), (0, v1), (2, Int.ofNat o2), (1, v3), (3, 0), (0, v5), (0, v6), (0, v7), (0, v8), (0, v9), (0, v10), (3, 0)]) (st' := [(2, Int.ofNat o0), (0, v10)]) rfl ?_
  refine jEv.gfR (o' := (o0 + 35)) (show jfI 191 27 (.getfield 45) 3 [11, 10, 5, 0, 3011] = true by decide +kernel) (isX11_L ho0) (by decide) (isX11_r10 ho0) ?_
  refine jEv.gfR (o' := (o0 + 36)) (show jfI 191 30 (.getfield 115) 3 [9, 1, 5, 0, 2067] = true by decide +kernel) (isX9_L (isX11_s10 ho0)) (by decide) (isX9_r1 (isX11_s10 ho0)) ?_
  refine jEv.gfI (show jfI 191 33 (.getfield 119) 3 [0, 2, 0, 0, 1185] = true by decide +kernel) (isX0_L (isX9_s1 (isX11_s10 ho0))) (by decide) ?_
  refine jEv.ic_ge (t := 109) (show jfI 191 36 (.if_icmp .ge 73) 3 [] = true by decide +kernel) rfl H (fun c1 H => ?_) (fun c1 H => ?_)
  · refine jEv.blk [(.aload_n 0, 1, []), (.aload_n 2, 1, []), (.iload 10, 2, [])] (by decide +kernel) (pc' := 43) (ls' := [(2, Int.ofNat o0), (0, v1), (2, Int.ofNat o2), (1, v3), (3, 0), (0, v5), (0, v6), (0, v7), (0, v8), (0, v9), (0, v10), (3, 0)]) (st' := [(0, v10), (2, Int.ofNat o2), (2, Int.ofNat o0)]) rfl ?_
    refine jbind H (fun b2 Hb2 H => ?_)
    refine jEv.calV (st' := []) (show jfI 191 43 (.invokevirtual 482) 3 [1, 192, 2, 6225] = true by decide +kernel) rfl (Or.inl rfl) rfl (Nat.le_of_ble_eq_true rfl) (by decide +kernel) (by decide) (isX11_L ho0) ((t_G_tellSegment (T := T) (xs := xs) ho0 ho2 Hb2).mono (jKle 5 hd)) rfl ?_
    refine jEv.blk [(.aload_n 2, 1, [])] (by decide +kernel) (pc' := 47) (ls' := [(2, Int.ofNat o0), (0, v1), (2, Int.ofNat o2), (1, v3), (3, 0), (0, v5), (0, v6), (0, v7), (0, v8), (0, v9), (0, v10), (3, 0)]) (st' := [(2, Int.ofNat o2)]) rfl ?_
    refine jbind H (fun b3 Hb3 H => ?_)
    refine jEv.calV (st' := [(0, b3.1)]) (show jfI 191 47 (.invokevirtual 486) 3 [1, 31, 0, 6235] = true by decide +kernel) rfl (Or.inl rfl) rfl (Nat.le_of_ble_eq_true rfl) (by decide +kernel) (by decide) (isX2_L ho2) ((t_Fo_evaluate (T := T) (xs := xs) ho2 Hb3).mono (jKle 4 hd)) rfl ?_
    refine jEv.blk [(.istore 11, 2, []), (.lload_n 3, 1, []), (.iload 11, 2, []), (.i2l, 1, []), (.ladd, 1, []), (.lstore_n 3, 1, []), (.iload 8, 2, []), (.iload 11, 2, [])] (by decide +kernel) (pc' := 62) (ls' := [(2, Int.ofNat o0), (0, v1), (2, Int.ofNat o2), (1, (wl (v3 + b3.1))), (3, 0), (0, v5), (0, v6), (0, v7), (0, v8), (0, v9), (0, v10), (0, b3.1)]) (st' := [(0, b3.1), (0, v8)]) rfl ?_
    refine jEv.calS (st' := [(0, (max v8 b3.1))]) (show jfI 191 62 (.invokestatic 477) 3 [3, 371, 2, 6111] = true by decide +kernel) rfl (Or.inl rfl) rfl (Nat.le_of_ble_eq_true rfl) ((t_JMath_max_1 (T := T) (xs := xs)).mono (jKle 1 hd)) rfl ?_
    refine jEv.blk [(.istore 8, 2, []), (.iload 9, 2, []), (.iload 11, 2, [])] (by decide +kernel) (pc' := 71) (ls' := [(2, Int.ofNat o0), (0, v1), (2, Int.ofNat o2), (1, (wl (v3 + b3.1))), (3, 0), (0, v5), (0, v6), (0, v7), (0, (max v8 b3.1)), (0, v9), (0, v10), (0, b3.1)]) (st' := [(0, b3.1), (0, v9)]) rfl ?_
    refine jEv.calS (st' := [(0, (min v9 b3.1))]) (show jfI 191 71 (.invokestatic 448) 3 [3, 360, 2, 5058] = true by decide +kernel) rfl (Or.inl rfl) rfl (Nat.le_of_ble_eq_true rfl) ((t_JMath_min_0 (T := T) (xs := xs)).mono (jKle 1 hd)) rfl ?_
    refine jEv.blk [(.istore 9, 2, []), (.iload 11, 2, [])] (by decide +kernel) (pc' := 78) (ls' := [(2, Int.ofNat o0), (0, v1), (2, Int.ofNat o2), (1, (wl (v3 + b3.1))), (3, 0), (0, v5), (0, v6), (0, v7), (0, (max v8 b3.1)), (0, (min v9 b3.1)), (0, v10), (0, b3.1)]) (st' := [(0, b3.1)]) rfl ?_
    refine jEv.if_eq (t := 103) (show jfI 191 78 (.ifCond .eq 25) 3 [] = true by decide +kernel) rfl H (fun c4 H => ?_) (fun c4 H => ?_)
    · refine jEv.blk [(.iinc 10 1, 3, [])] (by decide +kernel) (pc' := 106) (ls' := [(2, Int.ofNat o0), (0, v1), (2, Int.ofNat o2), (1, (wl (v3 + b3.1))), (3, 0), (0, v5), (0, v6), (0, v7), (0, (max v8 b3.1)), (0, (min v9 b3.1)), (0, (wr (v10 + 1))), (0, b3.1)]) (st' := []) rfl ?_
      refine jEv.goto (t := 24) (show jfI 191 106 (.goto (-82)) 3 [] = true by decide +kernel) rfl ?_
      exact jEv.weak (a := [(2, Int.ofNat o0), (0, v1), (2, Int.ofNat o2), (1, (wl (v3 + b3.1))), (3, 0), (0, v5), (0, v6), (0, v7), (0, (max v8 b3.1)), (0, (min v9 b3.1)), (0, (wr (v10 + 1))), (3, 0)]) (jles.c1 (jles.c1 (jles.c1 (jles.c1 (jles.c0 (jles.c1 (jles.c1 (jles.c1 (jles.c1 (jles.c1 (jles.c1 (jles.c0 jles.nl)))))))))))) ((by cases H; exact HY))
    · refine jEv.blk [(.iload 6, 2, []), (.iconst (-1), 1, [])] (by decide +kernel) (pc' := 84) (ls' := [(2, Int.ofNat o0), (0, v1), (2, Int.ofNat o2), (1, (wl (v3 + b3.1))), (3, 0), (0, v5), (0, v6), (0, v7), (0, (max v8 b3.1)), (0, (min v9 b3.1)), (0, v10), (0, b3.1)]) (st' := [(0, (-1)), (0, v6)]) rfl ?_
      refine jEv.ic_ne (t := 92) (show jfI 191 84 (.if_icmp .ne 8) 3 [] = true by decide +kernel) rfl H (fun c5 H => ?_) (fun c5 H => ?_)
      · refine jEv.blk [(.iload 10, 2, [])] (by decide +kernel) (pc' := 89) (ls' := [(2, Int.ofNat o0), (0, v1), (2, Int.ofNat o2), (1, (wl (v3 + b3.1))), (3, 0), (0, v5), (0, v6), (0, v7), (0, (max v8 b3.1)), (0, (min v9 b3.1)), (0, v10), (0, b3.1)]) (st' := [(0, v10)]) rfl ?_
        refine jEv.goto (t := 94) (show jfI 191 89 (.goto 5) 3 [] = true by decide +kernel) rfl ?_
        exact jEv.weak (a := [(2, Int.ofNat o0), (0, v1), (2, Int.ofNat o2), (1, (wl (v3 + b3.1))), (3, 0), (0, v5), (3, 0), (3, 0), (0, (max v8 b3.1)), (0, (min v9 b3.1)), (0, v10), (3, 0)]) (jles.c1 (jles.c1 (jles.c1 (jles.c1 (jles.c0 (jles.c1 (jles.c0 (jles.c0 (jles.c1 (jles.c1 (jles.c1 (jles.c0 jles.nl)))))))))))) (t_G_answer_p94 (T := T) (xs := xs) (y := y) hd ho0 ho2 H HY)
      · refine jEv.blk [(.iload 6, 2, [])] (by decide +kernel) (pc' := 94) (ls' := [(2, Int.ofNat o0), (0, v1), (2, Int.ofNat o2), (1, (wl (v3 + b3.1))), (3, 0), (0, v5), (0, v6), (0, v7), (0, (max v8 b3.1)), (0, (min v9 b3.1)), (0, v10), (0, b3.1)]) (st' := [(0, v6)]) rfl ?_
        exact jEv.weak (a := [(2, Int.ofNat o0), (0, v1), (2, Int.ofNat o2), (1, (wl (v3 + b3.1))), (3, 0), (0, v5), (3, 0), (3, 0), (0, (max v8 b3.1)), (0, (min v9 b3.1)), (0, v10), (3, 0)]) (jles.c1 (jles.c1 (jles.c1 (jles.c1 (jles.c0 (jles.c1 (jles.c0 (jles.c0 (jles.c1 (jles.c1 (jles.c1 (jles.c0 jles.nl)))))))))))) (t_G_answer_p94 (T := T) (xs := xs) (y := y) hd ho0 ho2 H HY)
  · refine jmapr H HY (fun out H (HY : ykJ T y out) => ?_)
    refine jEv.blk [(.iload_n 1, 1, [])] (by decide +kernel) (pc' := 110) (ls' := [(2, Int.ofNat o0), (0, v1), (2, Int.ofNat o2), (1, v3), (3, 0), (0, v5), (0, v6), (0, v7), (0, v8), (0, v9), (0, v10), (3, 0)]) (st' := [(0, v1)]) rfl ?_
    refine jite H (fun c6 H => ?_) (fun c6 H => ?_)
    · refine jEv.tsI (v := 0) (off := 34) (t := 144) (show jfI 191 110 (.tableswitch 52 0 4 #[34, 38, 42, 46, 48]) 34 [] = true by decide +kernel) c6 (by decide) (by decide) rfl (by decide) ?_
      refine jEv.blk [(.iload 6, 2, []), (.i2l, 1, [])] (by decide +kernel) (pc' := 147) (ls' := [(2, Int.ofNat o0), (0, v1), (2, Int.ofNat o2), (1, v3), (3, 0), (0, v5), (0, v6), (0, v7), (0, v8), (0, v9), (0, v10), (3, 0)]) (st' := [(1, v6)]) rfl ?_
      exact jEv.retJ (show jfI 191 147 (.lreturn) 1 [] = true by decide +kernel) (by decide +kernel) (by cases H; exact HY)
    · refine jite H (fun c7 H => ?_) (fun c7 H => ?_)
      · refine jEv.tsI (v := 1) (off := 38) (t := 148) (show jfI 191 110 (.tableswitch 52 0 4 #[34, 38, 42, 46, 48]) 34 [] = true by decide +kernel) c7 (by decide) (by decide) rfl (by decide) ?_
        refine jEv.blk [(.iload 7, 2, []), (.i2l, 1, [])] (by decide +kernel) (pc' := 151) (ls' := [(2, Int.ofNat o0), (0, v1), (2, Int.ofNat o2), (1, v3), (3, 0), (0, v5), (0, v6), (0, v7), (0, v8), (0, v9), (0, v10), (3, 0)]) (st' := [(1, v7)]) rfl ?_
        exact jEv.retJ (show jfI 191 151 (.lreturn) 1 [] = true by decide +kernel) (by decide +kernel) (by cases H; exact HY)
      · refine jite H (fun c8 H => ?_) (fun c8 H => ?_)
        · refine jEv.tsI (v := 2) (off := 42) (t := 152) (show jfI 191 110 (.tableswitch 52 0 4 #[34, 38, 42, 46, 48]) 34 [] = true by decide +kernel) c8 (by decide) (by decide) rfl (by decide) ?_
          refine jEv.blk [(.iload 5, 2, []), (.i2l, 1, [])] (by decide +kernel) (pc' := 155) (ls' := [(2, Int.ofNat o0), (0, v1), (2, Int.ofNat o2), (1, v3), (3, 0), (0, v5), (0, v6), (0, v7), (0, v8), (0, v9), (0, v10), (3, 0)]) (st' := [(1, v5)]) rfl ?_
          exact jEv.retJ (show jfI 191 155 (.lreturn) 1 [] = true by decide +kernel) (by decide +kernel) (by cases H; exact HY)
        · refine jite H (fun c9 H => ?_) (fun c9 H => ?_)
          · refine jEv.tsI (v := 3) (off := 46) (t := 156) (show jfI 191 110 (.tableswitch 52 0 4 #[34, 38, 42, 46, 48]) 34 [] = true by decide +kernel) c9 (by decide) (by decide) rfl (by decide) ?_
            refine jEv.blk [(.lload_n 3, 1, [])] (by decide +kernel) (pc' := 157) (ls' := [(2, Int.ofNat o0), (0, v1), (2, Int.ofNat o2), (1, v3), (3, 0), (0, v5), (0, v6), (0, v7), (0, v8), (0, v9), (0, v10), (3, 0)]) (st' := [(1, v3)]) rfl ?_
            exact jEv.retJ (show jfI 191 157 (.lreturn) 1 [] = true by decide +kernel) (by decide +kernel) (by cases H; exact HY)
          · refine jite H (fun c10 H => ?_) (fun c10 H => ?_)
            · refine jEv.tsI (v := 4) (off := 48) (t := 158) (show jfI 191 110 (.tableswitch 52 0 4 #[34, 38, 42, 46, 48]) 34 [] = true by decide +kernel) c10 (by decide) (by decide) rfl (by decide) ?_
              refine jEv.blk [(.iload 8, 2, []), (.i2l, 1, [])] (by decide +kernel) (pc' := 161) (ls' := [(2, Int.ofNat o0), (0, v1), (2, Int.ofNat o2), (1, v3), (3, 0), (0, v5), (0, v6), (0, v7), (0, v8), (0, v9), (0, v10), (3, 0)]) (st' := [(1, v8)]) rfl ?_
              exact jEv.retJ (show jfI 191 161 (.lreturn) 1 [] = true by decide +kernel) (by decide +kernel) (by cases H; exact HY)
            · refine jEv.tsO (t := 162) (show jfI 191 110 (.tableswitch 52 0 4 #[34, 38, 42, 46, 48]) 34 [] = true by decide +kernel) (by omega) rfl (by decide) ?_
              refine jEv.blk [(.iload 9, 2, []), (.i2l, 1, [])] (by decide +kernel) (pc' := 165) (ls' := [(2, Int.ofNat o0), (0, v1), (2, Int.ofNat o2), (1, v3), (3, 0), (0, v5), (0, v6), (0, v7), (0, v8), (0, v9), (0, v10), (3, 0)]) (st' := [(1, v9)]) rfl ?_
              exact jEv.retJ (show jfI 191 165 (.lreturn) 1 [] = true by decide +kernel) (by decide +kernel) (by cases H; exact HY)
theorem t_G_answer_L24 {T : jT} {xs : List Int} {d : Nat} {y : jV × jS} (hd : 5 ≤ d) {h : jH}  {o0 : Nat} {v1 : Int} {o2 : Nat} {v3 : Int} {v5 : Int} {v6 : Int} {v7 : Int} {v8 : Int} {v9 : Int} {v10 : Int} {out : (Int × jH)} (ho0 : isX11 T o0) (ho2 : isX2 T o2) (H : G_answer_L24 h o0 v1 o2 v3 v5 v6 v7 v8 v9 v10 = some out) (HY : ykJ T y out) : jEv xs d (191, 24, [(2, Int.ofNat o0), (0, v1), (2, Int.ofNat o2), (1, v3), (3, 0), (0, v5), (0, v6), (0, v7), (0, v8), (0, v9), (0, v10), (3, 0)], []) (T, h) y :=
  jloop_sound (G := fun s : (Int × Int × Int × Int × Int × Int × Int × jH) => jEv xs d (191, 24, [(2, Int.ofNat o0), (0, v1), (2, Int.ofNat o2), (1, s.1), (3, 0), (0, s.2.1), (0, s.2.2.1), (0, s.2.2.2.1), (0, s.2.2.2.2.1), (0, s.2.2.2.2.2.1), (0, s.2.2.2.2.2.2.1), (3, 0)], []) (T, s.2.2.2.2.2.2.2) y) (K := yk_G_answer_L24 T xs d y o0 v1 o2) (fun s out H HY => t_G_answer_B24 hd ho0 ho2 H HY) (fun s' hg => hg) (s := (v3, v5, v6, v7, v8, v9, v10, h)) H HY
set_option maxRecDepth 20000 in
noncomputable def G_answer  (h : jH) (o0 : Nat) (v1 : Int) (o2 : Nat) : Option (Int × jH) := G_answer_L24 h o0 v1 o2 0 0 (-1) (-1) (-1000000) 1000000 0
set_option maxRecDepth 20000 in
theorem t_G_answer {T : jT} {xs : List Int} {h : jH}  {o0 : Nat} {v1 : Int} {o2 : Nat} {out : (Int × jH)} (ho0 : isX11 T o0) (ho2 : isX2 T o2) (H : G_answer h o0 v1 o2 = some out) : jEm xs 6 191 [(2, Int.ofNat o0), (0, v1), (2, Int.ofNat o2)] (T, h) ((1, out.1), (T, out.2)) := by
  have hd : 5 ≤ 5 := Nat.le_refl _
  obtain ⟨y, ey⟩ : ∃ y : jV × jS, y = ((1, out.1), (T, out.2)) := ⟨_, rfl⟩
  rw [← ey]
  have HY : ykJ T y out := ey
  refine jEm.ent (n := 12) (by decide +kernel) (Nat.le_of_ble_eq_true rfl) ?_
  show jEv xs 5 (191, 0, [(2, Int.ofNat o0), (0, v1), (2, Int.ofNat o2), (3, 0), (3, 0), (3, 0), (3, 0), (3, 0), (3, 0), (3, 0), (3, 0), (3, 0)], []) (T, h) y
  unfold G_answer at H
  refine jEv.blk [(.lconst 0, 1, []), (.lstore_n 3, 1, []), (.iconst 0, 1, []), (.istore 5, 2, []), (.iconst (-1), 1, []), (.istore 6, 2, []), (.iconst (-1), 1, []), (.istore 7, 2, [])] (by decide +kernel) (pc' := 11) (ls' := [(2, Int.ofNat o0), (0, v1), (2, Int.ofNat o2), (1, 0), (3, 0), (0, 0), (0, (-1)), (0, (-1)), (3, 0), (3, 0), (3, 0), (3, 0)]) (st' := []) rfl ?_
  refine jEv.blk [(.ldc_w 480, 3, [0, 1, 1000000, 6223])] (by decide +kernel) (pc' := 14) (ls' := [(2, Int.ofNat o0), (0, v1), (2, Int.ofNat o2), (1, 0), (3, 0), (0, 0), (0, (-1)), (0, (-1)), (3, 0), (3, 0), (3, 0), (3, 0)]) (st' := [(0, (-1000000))]) rfl ?_
  refine jEv.blk [(.istore 8, 2, [])] (by decide +kernel) (pc' := 16) (ls' := [(2, Int.ofNat o0), (0, v1), (2, Int.ofNat o2), (1, 0), (3, 0), (0, 0), (0, (-1)), (0, (-1)), (0, (-1000000)), (3, 0), (3, 0), (3, 0)]) (st' := []) rfl ?_
  refine jEv.blk [(.ldc_w 481, 3, [0, 0, 1000000, 6224])] (by decide +kernel) (pc' := 19) (ls' := [(2, Int.ofNat o0), (0, v1), (2, Int.ofNat o2), (1, 0), (3, 0), (0, 0), (0, (-1)), (0, (-1)), (0, (-1000000)), (3, 0), (3, 0), (3, 0)]) (st' := [(0, 1000000)]) rfl ?_
  refine jEv.blk [(.istore 9, 2, []), (.iconst 0, 1, []), (.istore 10, 2, [])] (by decide +kernel) (pc' := 24) (ls' := [(2, Int.ofNat o0), (0, v1), (2, Int.ofNat o2), (1, 0), (3, 0), (0, 0), (0, (-1)), (0, (-1)), (0, (-1000000)), (0, 1000000), (0, 0), (3, 0)]) (st' := []) rfl ?_
  exact t_G_answer_L24 (T := T) (xs := xs) (y := y) hd ho0 ho2 H HY
set_option maxRecDepth 20000 in
noncomputable def G_ask (T : jT) (h : jH) (o0 : Nat) : Option (Int × jH) := Option.bind (G_takeTape h o0) (fun b1 => Option.bind (G_isTold T b1.2 o0) (fun b2 => (if b2 = 0 then some ((-1000000000000000), b1.2) else Option.bind (Pa_readQuestion T b1.2 (o0 + 17) (o0 + 1) 1600 b1.1) (fun b4 => (if b4.1 = 0 then some ((-1000000000000000), b4.2) else Option.bind (G_answer b4.2 o0 (b4.2 (o0 + 17) 2) (o0 + 30)) (fun b6 => some (b6.1, b6.2)))))))
set_option maxRecDepth 20000 in
theorem t_G_ask {T : jT} {xs : List Int} {h : jH}  {o0 : Nat} {out : (Int × jH)} (ho0 : isX11 T o0) (H : G_ask T h o0 = some out) : jEm xs 89 190 [(2, Int.ofNat o0)] (T, h) ((1, out.1), (T, out.2)) := by
  have hd : 88 ≤ 88 := Nat.le_refl _
  obtain ⟨y, ey⟩ : ∃ y : jV × jS, y = ((1, out.1), (T, out.2)) := ⟨_, rfl⟩
  rw [← ey]
  have HY : ykJ T y out := ey
  refine jEm.ent (n := 2) (by decide +kernel) (Nat.le_of_ble_eq_true rfl) ?_
  show jEv xs 88 (190, 0, [(2, Int.ofNat o0), (3, 0)], []) (T, h) y
  unfold G_ask at H
  refine jEv.blk [(.aload_n 0, 1, [])] (by decide +kernel) (pc' := 1) (ls' := [(2, Int.ofNat o0), (3, 0)]) (st' := [(2, Int.ofNat o0)]) rfl ?_
  refine jbind H (fun b1 Hb1 H => ?_)
  refine jEv.calV (st' := [(0, b1.1)]) (show jfI 190 1 (.invokevirtual 92) 3 [1, 143, 0, 3092] = true by decide +kernel) rfl (Or.inl rfl) rfl (Nat.le_of_ble_eq_true rfl) (by decide +kernel) (by decide) (isX11_L ho0) ((t_G_takeTape (T := T) (xs := xs) ho0 Hb1).mono (jKle 1 hd)) rfl ?_
  refine jEv.blk [(.istore_n 1, 1, []), (.aload_n 0, 1, [])] (by decide +kernel) (pc' := 6) (ls' := [(2, Int.ofNat o0), (0, b1.1)]) (st' := [(2, Int.ofNat o0)]) rfl ?_
  refine jbind H (fun b2 Hb2 H => ?_)
  refine jEv.calV (st' := [(0, b2)]) (show jfI 190 6 (.invokevirtual 228) 3 [1, 152, 0, 5004] = true by decide +kernel) rfl (Or.inl rfl) rfl (Nat.le_of_ble_eq_true rfl) (by decide +kernel) (by decide) (isX11_L ho0) ((t_G_isTold (T := T) (xs := xs) ho0 Hb2).mono (jKle 1 hd)) rfl ?_
  refine jEv.if_ne (t := 16) (show jfI 190 9 (.ifCond .ne 7) 3 [] = true by decide +kernel) rfl H (fun c3 H => ?_) (fun c3 H => ?_)
  · refine jEv.blk [(.ldc2_w 373, 3, [1, 1, 1000000000000000, 6205])] (by decide +kernel) (pc' := 15) (ls' := [(2, Int.ofNat o0), (0, b1.1)]) (st' := [(1, (-1000000000000000))]) rfl ?_
    exact jEv.retJ (show jfI 190 15 (.lreturn) 1 [] = true by decide +kernel) (by decide +kernel) (by cases H; exact HY)
  · refine jEv.blk [(.aload_n 0, 1, [])] (by decide +kernel) (pc' := 17) (ls' := [(2, Int.ofNat o0), (0, b1.1)]) (st' := [(2, Int.ofNat o0)]) rfl ?_
    refine jEv.gfR (o' := (o0 + 17)) (show jfI 190 17 (.getfield 36) 3 [11, 9, 5, 0, 3010] = true by decide +kernel) (isX11_L ho0) (by decide) (isX11_r9 ho0) ?_
    refine jEv.blk [(.aload_n 0, 1, [])] (by decide +kernel) (pc' := 21) (ls' := [(2, Int.ofNat o0), (0, b1.1)]) (st' := [(2, Int.ofNat o0), (2, Int.ofNat (o0 + 17))]) rfl ?_
    refine jEv.gfR (o' := (o0 + 1)) (show jfI 190 21 (.getfield 9) 3 [11, 0, 5, 0, 3001] = true by decide +kernel) (isX11_L ho0) (by decide) (isX11_r0 ho0) ?_
    refine jEv.blk [(.iload_n 1, 1, [])] (by decide +kernel) (pc' := 25) (ls' := [(2, Int.ofNat o0), (0, b1.1)]) (st' := [(0, b1.1), (2, Int.ofNat (o0 + 1)), (2, Int.ofNat (o0 + 17))]) rfl ?_
    refine jbind H (fun b4 Hb4 H => ?_)
    refine jEv.calV (st' := [(0, b4.1)]) (show jfI 190 25 (.invokevirtual 375) 3 [1, 75, 2, 6206] = true by decide +kernel) rfl (Or.inl rfl) rfl (Nat.le_of_ble_eq_true rfl) (by decide +kernel) (by decide) (isX4_L (isX11_s9 ho0)) ((t_Pa_readQuestion (T := T) (xs := xs) (isX11_s9 ho0) (isX11_a0 ho0) Hb4).mono (jKle 88 hd)) rfl ?_
    refine jEv.if_eq (t := 52) (show jfI 190 28 (.ifCond .eq 24) 3 [] = true by decide +kernel) rfl H (fun c5 H => ?_) (fun c5 H => ?_)
    · refine jEv.blk [(.ldc2_w 373, 3, [1, 1, 1000000000000000, 6205])] (by decide +kernel) (pc' := 55) (ls' := [(2, Int.ofNat o0), (0, b1.1)]) (st' := [(1, (-1000000000000000))]) rfl ?_
      exact jEv.retJ (show jfI 190 55 (.lreturn) 1 [] = true by decide +kernel) (by decide +kernel) (by cases H; exact HY)
    · refine jEv.blk [(.aload_n 0, 1, []), (.aload_n 0, 1, [])] (by decide +kernel) (pc' := 33) (ls' := [(2, Int.ofNat o0), (0, b1.1)]) (st' := [(2, Int.ofNat o0), (2, Int.ofNat o0)]) rfl ?_
      refine jEv.gfR (o' := (o0 + 17)) (show jfI 190 33 (.getfield 36) 3 [11, 9, 5, 0, 3010] = true by decide +kernel) (isX11_L ho0) (by decide) (isX11_r9 ho0) ?_
      refine jEv.gfI (show jfI 190 36 (.getfield 378) 3 [4, 2, 0, 0, 1131] = true by decide +kernel) (isX4_L (isX11_s9 ho0)) (by decide) ?_
      refine jEv.blk [(.aload_n 0, 1, [])] (by decide +kernel) (pc' := 40) (ls' := [(2, Int.ofNat o0), (0, b1.1)]) (st' := [(2, Int.ofNat o0), (0, (b4.2 (o0 + 17) 2)), (2, Int.ofNat o0)]) rfl ?_
      refine jEv.gfR (o' := (o0 + 17)) (show jfI 190 40 (.getfield 36) 3 [11, 9, 5, 0, 3010] = true by decide +kernel) (isX11_L ho0) (by decide) (isX11_r9 ho0) ?_
      refine jEv.gfR (o' := (o0 + 30)) (show jfI 190 43 (.getfield 381) 3 [4, 1, 5, 0, 1129] = true by decide +kernel) (isX4_L (isX11_s9 ho0)) (by decide) (isX4_r1 (isX11_s9 ho0)) ?_
      refine jbind H (fun b6 Hb6 H => ?_)
      refine jEv.calV (st' := [(1, b6.1)]) (show jfI 190 46 (.invokevirtual 385) 3 [1, 191, 2, 6219] = true by decide +kernel) rfl (Or.inl rfl) rfl (Nat.le_of_ble_eq_true rfl) (by decide +kernel) (by decide) (isX11_L ho0) ((t_G_answer (T := T) (xs := xs) ho0 (isX4_s1 (isX11_s9 ho0)) Hb6).mono (jKle 6 hd)) rfl ?_
      refine jEv.goto (t := 55) (show jfI 190 49 (.goto 6) 3 [] = true by decide +kernel) rfl ?_
      exact jEv.retJ (show jfI 190 55 (.lreturn) 1 [] = true by decide +kernel) (by decide +kernel) (by cases H; exact HY)
set_option maxRecDepth 20000 in
noncomputable def G_addOctet  (h : jH) (o0 : Nat) (v1 : Int) : Option jH := Option.bind (G_put h (o0 + 2) 547 (h o0 3) v1) (fun b1 => some (jup b1 o0 3 (wr ((b1 o0 3) + 1))))
set_option maxRecDepth 20000 in
theorem t_G_addOctet {T : jT} {xs : List Int} {h : jH}  {o0 : Nat} {v1 : Int} {out : jH} (ho0 : isX11 T o0) (H : G_addOctet h o0 v1 = some out) : jEm xs 2 195 [(2, Int.ofNat o0), (0, v1)] (T, h) ((3, 0), (T, out)) := by
  have hd : 1 ≤ 1 := Nat.le_refl _
  obtain ⟨y, ey⟩ : ∃ y : jV × jS, y = ((3, 0), (T, out)) := ⟨_, rfl⟩
  rw [← ey]
  have HY : ykV T y out := ey
  refine jEm.ent (n := 2) (by decide +kernel) (Nat.le_of_ble_eq_true rfl) ?_
  show jEv xs 1 (195, 0, [(2, Int.ofNat o0), (0, v1)], []) (T, h) y
  unfold G_addOctet at H
  refine jEv.blk [(.aload_n 0, 1, [])] (by decide +kernel) (pc' := 1) (ls' := [(2, Int.ofNat o0), (0, v1)]) (st' := [(2, Int.ofNat o0)]) rfl ?_
  refine jEv.gfR (o' := (o0 + 2)) (show jfI 195 1 (.getfield 13) 3 [11, 2, 5, 0, 3003] = true by decide +kernel) (isX11_L ho0) (by decide) (isX11_r2 ho0) ?_
  refine jEv.blk [(.aload_n 0, 1, [])] (by decide +kernel) (pc' := 5) (ls' := [(2, Int.ofNat o0), (0, v1)]) (st' := [(2, Int.ofNat o0), (2, Int.ofNat (o0 + 2))]) rfl ?_
  refine jEv.gfI (show jfI 195 5 (.getfield 389) 3 [11, 3, 0, 0, 3004] = true by decide +kernel) (isX11_L ho0) (by decide) ?_
  refine jEv.blk [(.iload_n 1, 1, [])] (by decide +kernel) (pc' := 9) (ls' := [(2, Int.ofNat o0), (0, v1)]) (st' := [(0, v1), (0, (h o0 3)), (2, Int.ofNat (o0 + 2))]) rfl ?_
  refine jbind H (fun b1 Hb1 H => ?_)
  refine jEv.calS (st' := []) (show jfI 195 9 (.invokestatic 415) 3 [3, 138, 3, 3073] = true by decide +kernel) rfl (Or.inl rfl) rfl (Nat.le_of_ble_eq_true rfl) ((t_G_put (T := T) (xs := xs) (isX11_a2 ho0) Hb1).mono (jKle 1 hd)) rfl ?_
  refine jEv.blk [(.aload_n 0, 1, []), (.dup, 1, [])] (by decide +kernel) (pc' := 14) (ls' := [(2, Int.ofNat o0), (0, v1)]) (st' := [(2, Int.ofNat o0), (2, Int.ofNat o0)]) rfl ?_
  refine jEv.gfI (show jfI 195 14 (.getfield 389) 3 [11, 3, 0, 0, 3004] = true by decide +kernel) (isX11_L ho0) (by decide) ?_
  refine jEv.blk [(.iconst 1, 1, []), (.iadd, 1, [])] (by decide +kernel) (pc' := 19) (ls' := [(2, Int.ofNat o0), (0, v1)]) (st' := [(0, (wr ((b1 o0 3) + 1))), (2, Int.ofNat o0)]) rfl ?_
  refine jEv.pfI (show jfI 195 19 (.putfield 389) 3 [11, 3, 0, 0, 3004] = true by decide +kernel) (isX11_L ho0) (by decide) ?_
  exact jEv.retV (show jfI 195 22 (.return_) 1 [] = true by decide +kernel) (by decide +kernel) (by cases H; exact HY)
