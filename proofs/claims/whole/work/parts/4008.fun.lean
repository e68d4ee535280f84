/-! methods as functions -/
def yk_G_frame_L48 (T : jT) (xs : List Int) (d : Nat) (y : jV × jS)  (o0 : Nat) (v2 : Int) (v3 : Int) (o4 : Nat) : ((Int × jH) ⊕ (Int × jH)) → Prop
  | .inl (v5, h) => jEv xs d (149, 48, [(2, Int.ofNat o0), (3, 0), (0, v2), (0, v3), (2, Int.ofNat o4), (0, v5)], []) (T, h) y
  | .inr o => ykI T y o
set_option maxRecDepth 20000 in
noncomputable def G_frame_p81  (h : jH) (v3 : Int) (o4 : Nat) : Option (Int × jH) := (if v3 = 0 then some ((h o4 0), h) else (if v3 = 1 then some ((h o4 1), h) else (if v3 = 2 then some ((h o4 2), h) else some ((-1), h))))
set_option maxRecDepth 20000 in
theorem t_G_frame_p81 {T : jT} {xs : List Int} {d : Nat} {y : jV × jS} (hd : 4 ≤ d) {h : jH}  {v3 : Int} {o4 : Nat} {out : (Int × jH)} (ho4 : isX3 T o4) (H : G_frame_p81 h v3 o4 = some out) (HY : ykI T y out) : jEv xs d (149, 81, [(3, 0), (3, 0), (3, 0), (0, v3), (2, Int.ofNat o4), (3, 0)], []) (T, h) y := by
  unfold G_frame_p81 at H
  refine jEv.blk [(.iload_n 3, 1, [])] (by decide +kernel) (pc' := 82) (ls' := [(3, 0), (3, 0), (3, 0), (0, v3), (2, Int.ofNat o4), (3, 0)]) (st' := [(0, v3)]) rfl ?_
  refine jite H (fun c8 H => ?_) (fun c8 H => ?_)
  · refine jEv.tsI (v := 0) (off := 26) (t := 108) (show jfI 149 82 (.tableswitch 44 0 2 #[26, 32, 38]) 26 [] = true by decide +kernel) c8 (by decide) (by decide) rfl (by decide) ?_
    refine jEv.blk [(.aload 4, 2, [])] (by decide +kernel) (pc' := 110) (ls' := [(3, 0), (3, 0), (3, 0), (0, v3), (2, Int.ofNat o4), (3, 0)]) (st' := [(2, Int.ofNat o4)]) rfl ?_
    refine jEv.gfI (show jfI 149 110 (.getfield 216) 3 [3, 0, 0, 0, 2167] = true by decide +kernel) (isX3_L ho4) (by decide) ?_
    exact jEv.retI (show jfI 149 113 (.ireturn) 1 [] = true by decide +kernel) (by decide +kernel) (by cases H; exact HY)
  · refine jite H (fun c9 H => ?_) (fun c9 H => ?_)
    · refine jEv.tsI (v := 1) (off := 32) (t := 114) (show jfI 149 82 (.tableswitch 44 0 2 #[26, 32, 38]) 26 [] = true by decide +kernel) c9 (by decide) (by decide) rfl (by decide) ?_
      refine jEv.blk [(.aload 4, 2, [])] (by decide +kernel) (pc' := 116) (ls' := [(3, 0), (3, 0), (3, 0), (0, v3), (2, Int.ofNat o4), (3, 0)]) (st' := [(2, Int.ofNat o4)]) rfl ?_
      refine jEv.gfI (show jfI 149 116 (.getfield 218) 3 [3, 1, 0, 0, 2169] = true by decide +kernel) (isX3_L ho4) (by decide) ?_
      exact jEv.retI (show jfI 149 119 (.ireturn) 1 [] = true by decide +kernel) (by decide +kernel) (by cases H; exact HY)
    · refine jite H (fun c10 H => ?_) (fun c10 H => ?_)
      · refine jEv.tsI (v := 2) (off := 38) (t := 120) (show jfI 149 82 (.tableswitch 44 0 2 #[26, 32, 38]) 26 [] = true by decide +kernel) c10 (by decide) (by decide) rfl (by decide) ?_
        refine jEv.blk [(.aload 4, 2, [])] (by decide +kernel) (pc' := 122) (ls' := [(3, 0), (3, 0), (3, 0), (0, v3), (2, Int.ofNat o4), (3, 0)]) (st' := [(2, Int.ofNat o4)]) rfl ?_
        refine jEv.gfI (show jfI 149 122 (.getfield 221) 3 [3, 2, 0, 0, 2171] = true by decide +kernel) (isX3_L ho4) (by decide) ?_
        exact jEv.retI (show jfI 149 125 (.ireturn) 1 [] = true by decide +kernel) (by decide +kernel) (by cases H; exact HY)
      · refine jEv.tsO (t := 126) (show jfI 149 82 (.tableswitch 44 0 2 #[26, 32, 38]) 26 [] = true by decide +kernel) (by omega) rfl (by decide) ?_
        refine jEv.blk [(.iconst (-1), 1, [])] (by decide +kernel) (pc' := 127) (ls' := [(3, 0), (3, 0), (3, 0), (0, v3), (2, Int.ofNat o4), (3, 0)]) (st' := [(0, (-1))]) rfl ?_
        exact jEv.retI (show jfI 149 127 (.ireturn) 1 [] = true by decide +kernel) (by decide +kernel) (by cases H; exact HY)
set_option maxRecDepth 20000 in
noncomputable def G_frame_B48  (h : jH) (o0 : Nat) (v2 : Int) (v3 : Int) (o4 : Nat) (v5 : Int) : Option ((Int × jH) ⊕ (Int × jH)) := (if v2 < v5 then Option.map Sum.inr (G_frame_p81 h v3 o4) else (if v5 < 128 then Option.bind (FR_advance h o4 (o0 + 36)) (fun b7 => some (.inl ((wr (v5 + 1)), b7.2))) else Option.map Sum.inr (G_frame_p81 h v3 o4)))
noncomputable def G_frame_L48  (h : jH) (o0 : Nat) (v2 : Int) (v3 : Int) (o4 : Nat) (v5 : Int) : Option (Int × jH) := jloop (fun s : (Int × jH) => G_frame_B48 s.2 o0 v2 v3 o4 s.1) (v5, h)
set_option maxRecDepth 20000 in
theorem t_G_frame_B48 {T : jT} {xs : List Int} {d : Nat} {y : jV × jS} (hd : 4 ≤ d) {h : jH}  {o0 : Nat} {v2 : Int} {v3 : Int} {o4 : Nat} {v5 : Int} {out : ((Int × jH) ⊕ (Int × jH))} (ho0 : isX11 T o0) (ho4 : isX3 T o4) (H : G_frame_B48 h o0 v2 v3 o4 v5 = some out) (HY : yk_G_frame_L48 T xs d y o0 v2 v3 o4 out) : jEv xs d (149, 48, [(2, Int.ofNat o0), (3, 0), (0, v2), (0, v3), (2, Int.ofNat o4), (0, v5)], []) (T, h) y := by
  unfold G_frame_B48 at H
  refine jEv.blk [(.iload 5, 2, []), (.iload_n 2, 1, [])] (by decide +kernel) (pc' := 51) (ls' := [(2, Int.ofNat o0), (3, 0), (0, v2), (0, v3), (2, Int.ofNat o4), (0, v5)]) (st' := [(0, v2), (0, v5)]) rfl ?_
  refine jEv.ic_gt (t := 81) (show jfI 149 51 (.if_icmp .gt 30) 3 [] = true by decide +kernel) rfl H (fun c5 H => ?_) (fun c5 H => ?_)
  · refine jmapr H HY (fun out H (HY : ykI T y out) => ?_)
    exact jEv.weak (a := [(3, 0), (3, 0), (3, 0), (0, v3), (2, Int.ofNat o4), (3, 0)]) (jles.c0 (jles.c0 (jles.c0 (jles.c1 (jles.c1 (jles.c0 jles.nl)))))) (t_G_frame_p81 (T := T) (xs := xs) (y := y) hd ho4 H HY)
  · refine jEv.blk [(.iload 5, 2, []), (.sipush 128, 3, [])] (by decide +kernel) (pc' := 59) (ls' := [(2, Int.ofNat o0), (3, 0), (0, v2), (0, v3), (2, Int.ofNat o4), (0, v5)]) (st' := [(0, 128), (0, v5)]) rfl ?_
    refine jEv.ic_ge (t := 81) (show jfI 149 59 (.if_icmp .ge 22) 3 [] = true by decide +kernel) rfl H (fun c6 H => ?_) (fun c6 H => ?_)
    · refine jEv.blk [(.aload 4, 2, []), (.aload_n 0, 1, [])] (by decide +kernel) (pc' := 65) (ls' := [(2, Int.ofNat o0), (3, 0), (0, v2), (0, v3), (2, Int.ofNat o4), (0, v5)]) (st' := [(2, Int.ofNat o0), (2, Int.ofNat o4)]) rfl ?_
      refine jEv.gfR (o' := (o0 + 35)) (show jfI 149 65 (.getfield 45) 3 [11, 10, 5, 0, 3011] = true by decide +kernel) (isX11_L ho0) (by decide) (isX11_r10 ho0) ?_
      refine jEv.gfR (o' := (o0 + 36)) (show jfI 149 68 (.getfield 115) 3 [9, 1, 5, 0, 2067] = true by decide +kernel) (isX9_L (isX11_s10 ho0)) (by decide) (isX9_r1 (isX11_s10 ho0)) ?_
      refine jbind H (fun b7 Hb7 H => ?_)
      refine jEv.calV (st' := [(0, b7.1)]) (show jfI 149 71 (.invokevirtual 212) 3 [1, 41, 1, 4234] = true by decide +kernel) rfl (Or.inl rfl) rfl (Nat.le_of_ble_eq_true rfl) (by decide +kernel) (by decide) (isX3_L ho4) ((t_FR_advance (T := T) (xs := xs) ho4 (isX9_s1 (isX11_s10 ho0)) Hb7).mono (jKle 3 hd)) rfl ?_
      refine jEv.blk [(.pop, 1, []), (.iinc 5 1, 3, [])] (by decide +kernel) (pc' := 78) (ls' := [(2, Int.ofNat o0), (3, 0), (0, v2), (0, v3), (2, Int.ofNat o4), (0, (wr (v5 + 1)))]) (st' := []) rfl ?_
      refine jEv.goto (t := 48) (show jfI 149 78 (.goto (-30)) 3 [] = true by decide +kernel) rfl ?_
      exact (by cases H; exact HY)
    · refine jmapr H HY (fun out H (HY : ykI T y out) => ?_)
      exact jEv.weak (a := [(3, 0), (3, 0), (3, 0), (0, v3), (2, Int.ofNat o4), (3, 0)]) (jles.c0 (jles.c0 (jles.c0 (jles.c1 (jles.c1 (jles.c0 jles.nl)))))) (t_G_frame_p81 (T := T) (xs := xs) (y := y) hd ho4 H HY)
theorem t_G_frame_L48 {T : jT} {xs : List Int} {d : Nat} {y : jV × jS} (hd : 4 ≤ d) {h : jH}  {o0 : Nat} {v2 : Int} {v3 : Int} {o4 : Nat} {v5 : Int} {out : (Int × jH)} (ho0 : isX11 T o0) (ho4 : isX3 T o4) (H : G_frame_L48 h o0 v2 v3 o4 v5 = some out) (HY : ykI T y out) : jEv xs d (149, 48, [(2, Int.ofNat o0), (3, 0), (0, v2), (0, v3), (2, Int.ofNat o4), (0, v5)], []) (T, h) y :=
  jloop_sound (G := fun s : (Int × jH) => jEv xs d (149, 48, [(2, Int.ofNat o0), (3, 0), (0, v2), (0, v3), (2, Int.ofNat o4), (0, s.1)], []) (T, s.2) y) (K := yk_G_frame_L48 T xs d y o0 v2 v3 o4) (fun s out H HY => t_G_frame_B48 hd ho0 ho4 H HY) (fun s' hg => hg) (s := (v5, h)) H HY
set_option maxRecDepth 20000 in
noncomputable def G_frame  (h : jH) (o0 : Nat) (v1 : Int) (v2 : Int) (v3 : Int) : Option (Int × jH) := (if v2 < 0 then some ((-1), h) else Option.bind (FR_frameCount h (o0 + 80) (o0 + 36) v1) (fun b2 => (if v2 < b2.1 then Option.bind (FR_open b2.2 (o0 + 80) (o0 + 36) v1) (fun b4 => G_frame_L48 b4 o0 v2 v3 (o0 + 80) 0) else some ((-1), b2.2))))
set_option maxRecDepth 20000 in
theorem t_G_frame {T : jT} {xs : List Int} {h : jH}  {o0 : Nat} {v1 : Int} {v2 : Int} {v3 : Int} {out : (Int × jH)} (ho0 : isX11 T o0) (H : G_frame h o0 v1 v2 v3 = some out) : jEm xs 5 149 [(2, Int.ofNat o0), (0, v1), (0, v2), (0, v3)] (T, h) ((0, out.1), (T, out.2)) := by
  have hd : 4 ≤ 4 := Nat.le_refl _
  obtain ⟨y, ey⟩ : ∃ y : jV × jS, y = ((0, out.1), (T, out.2)) := ⟨_, rfl⟩
  rw [← ey]
  have HY : ykI T y out := ey
  refine jEm.ent (n := 6) (by decide +kernel) (Nat.le_of_ble_eq_true rfl) ?_
  show jEv xs 4 (149, 0, [(2, Int.ofNat o0), (0, v1), (0, v2), (0, v3), (3, 0), (3, 0)], []) (T, h) y
  unfold G_frame at H
  refine jEv.blk [(.aload_n 0, 1, [])] (by decide +kernel) (pc' := 1) (ls' := [(2, Int.ofNat o0), (0, v1), (0, v2), (0, v3), (3, 0), (3, 0)]) (st' := [(2, Int.ofNat o0)]) rfl ?_
  refine jEv.gfR (o' := (o0 + 79)) (show jfI 149 1 (.getfield 66) 3 [11, 16, 5, 0, 3017] = true by decide +kernel) (isX11_L ho0) (by decide) (isX11_r16 ho0) ?_
  refine jEv.gfR (o' := (o0 + 80)) (show jfI 149 4 (.getfield 189) 3 [8, 0, 5, 0, 2204] = true by decide +kernel) (isX8_L (isX11_s16 ho0)) (by decide) (isX8_r0 (isX11_s16 ho0)) ?_
  refine jEv.blk [(.astore 4, 2, []), (.iload_n 2, 1, [])] (by decide +kernel) (pc' := 10) (ls' := [(2, Int.ofNat o0), (0, v1), (0, v2), (0, v3), (2, Int.ofNat (o0 + 80)), (3, 0)]) (st' := [(0, v2)]) rfl ?_
  refine jEv.if_lt (t := 30) (show jfI 149 10 (.ifCond .lt 20) 3 [] = true by decide +kernel) rfl H (fun c1 H => ?_) (fun c1 H => ?_)
  · refine jEv.blk [(.iconst (-1), 1, [])] (by decide +kernel) (pc' := 31) (ls' := [(2, Int.ofNat o0), (0, v1), (0, v2), (0, v3), (2, Int.ofNat (o0 + 80)), (3, 0)]) (st' := [(0, (-1))]) rfl ?_
    exact jEv.retI (show jfI 149 31 (.ireturn) 1 [] = true by decide +kernel) (by decide +kernel) (by cases H; exact HY)
  · refine jEv.blk [(.iload_n 2, 1, []), (.aload 4, 2, []), (.aload_n 0, 1, [])] (by decide +kernel) (pc' := 17) (ls' := [(2, Int.ofNat o0), (0, v1), (0, v2), (0, v3), (2, Int.ofNat (o0 + 80)), (3, 0)]) (st' := [(2, Int.ofNat o0), (2, Int.ofNat (o0 + 80)), (0, v2)]) rfl ?_
    refine jEv.gfR (o' := (o0 + 35)) (show jfI 149 17 (.getfield 45) 3 [11, 10, 5, 0, 3011] = true by decide +kernel) (isX11_L ho0) (by decide) (isX11_r10 ho0) ?_
    refine jEv.gfR (o' := (o0 + 36)) (show jfI 149 20 (.getfield 115) 3 [9, 1, 5, 0, 2067] = true by decide +kernel) (isX9_L (isX11_s10 ho0)) (by decide) (isX9_r1 (isX11_s10 ho0)) ?_
    refine jEv.blk [(.iload_n 1, 1, [])] (by decide +kernel) (pc' := 24) (ls' := [(2, Int.ofNat o0), (0, v1), (0, v2), (0, v3), (2, Int.ofNat (o0 + 80)), (3, 0)]) (st' := [(0, v1), (2, Int.ofNat (o0 + 36)), (2, Int.ofNat (o0 + 80)), (0, v2)]) rfl ?_
    refine jbind H (fun b2 Hb2 H => ?_)
    refine jEv.calV (st' := [(0, b2.1), (0, v2)]) (show jfI 149 24 (.invokevirtual 193) 3 [1, 39, 2, 4168] = true by decide +kernel) rfl (Or.inl rfl) rfl (Nat.le_of_ble_eq_true rfl) (by decide +kernel) (by decide) (isX3_L (isX8_s0 (isX11_s16 ho0))) ((t_FR_frameCount (T := T) (xs := xs) (isX8_s0 (isX11_s16 ho0)) (isX9_s1 (isX11_s10 ho0)) Hb2).mono (jKle 4 hd)) rfl ?_
    refine jEv.ic_lt (t := 32) (show jfI 149 27 (.if_icmp .lt 5) 3 [] = true by decide +kernel) rfl H (fun c3 H => ?_) (fun c3 H => ?_)
    · refine jEv.blk [(.aload 4, 2, []), (.aload_n 0, 1, [])] (by decide +kernel) (pc' := 35) (ls' := [(2, Int.ofNat o0), (0, v1), (0, v2), (0, v3), (2, Int.ofNat (o0 + 80)), (3, 0)]) (st' := [(2, Int.ofNat o0), (2, Int.ofNat (o0 + 80))]) rfl ?_
      refine jEv.gfR (o' := (o0 + 35)) (show jfI 149 35 (.getfield 45) 3 [11, 10, 5, 0, 3011] = true by decide +kernel) (isX11_L ho0) (by decide) (isX11_r10 ho0) ?_
      refine jEv.gfR (o' := (o0 + 36)) (show jfI 149 38 (.getfield 115) 3 [9, 1, 5, 0, 2067] = true by decide +kernel) (isX9_L (isX11_s10 ho0)) (by decide) (isX9_r1 (isX11_s10 ho0)) ?_
      refine jEv.blk [(.iload_n 1, 1, [])] (by decide +kernel) (pc' := 42) (ls' := [(2, Int.ofNat o0), (0, v1), (0, v2), (0, v3), (2, Int.ofNat (o0 + 80)), (3, 0)]) (st' := [(0, v1), (2, Int.ofNat (o0 + 36)), (2, Int.ofNat (o0 + 80))]) rfl ?_
      refine jbind H (fun b4 Hb4 H => ?_)
      refine jEv.calV (st' := []) (show jfI 149 42 (.invokevirtual 208) 3 [1, 40, 2, 4233] = true by decide +kernel) rfl (Or.inl rfl) rfl (Nat.le_of_ble_eq_true rfl) (by decide +kernel) (by decide) (isX3_L (isX8_s0 (isX11_s16 ho0))) ((t_FR_open (T := T) (xs := xs) (isX8_s0 (isX11_s16 ho0)) (isX9_s1 (isX11_s10 ho0)) Hb4).mono (jKle 3 hd)) rfl ?_
      refine jEv.blk [(.iconst 0, 1, []), (.istore 5, 2, [])] (by decide +kernel) (pc' := 48) (ls' := [(2, Int.ofNat o0), (0, v1), (0, v2), (0, v3), (2, Int.ofNat (o0 + 80)), (0, 0)]) (st' := []) rfl ?_
      exact jEv.weak (a := [(2, Int.ofNat o0), (3, 0), (0, v2), (0, v3), (2, Int.ofNat (o0 + 80)), (0, 0)]) (jles.c1 (jles.c0 (jles.c1 (jles.c1 (jles.c1 (jles.c1 jles.nl)))))) (t_G_frame_L48 (T := T) (xs := xs) (y := y) hd ho0 (isX8_s0 (isX11_s16 ho0)) H HY)
    · refine jEv.blk [(.iconst (-1), 1, [])] (by decide +kernel) (pc' := 31) (ls' := [(2, Int.ofNat o0), (0, v1), (0, v2), (0, v3), (2, Int.ofNat (o0 + 80)), (3, 0)]) (st' := [(0, (-1))]) rfl ?_
      exact jEv.retI (show jfI 149 31 (.ireturn) 1 [] = true by decide +kernel) (by decide +kernel) (by cases H; exact HY)
set_option maxRecDepth 20000 in
noncomputable def G_octetOf  (h : jH) (o0 : Nat) (v1 : Int) (v2 : Int) : Option Int := Option.bind (Di_octetAt h (o0 + 36) v1 v2) (fun b1 => some b1)
set_option maxRecDepth 20000 in
theorem t_G_octetOf {T : jT} {xs : List Int} {h : jH}  {o0 : Nat} {v1 : Int} {v2 : Int} {out : Int} (ho0 : isX11 T o0) (H : G_octetOf h o0 v1 v2 = some out) : jEm xs 2 150 [(2, Int.ofNat o0), (0, v1), (0, v2)] (T, h) ((0, out), (T, h)) := by
  have hd : 1 ≤ 1 := Nat.le_refl _
  obtain ⟨y, ey⟩ : ∃ y : jV × jS, y = ((0, out), (T, h)) := ⟨_, rfl⟩
  rw [← ey]
  have HY : ykIp T h y out := ey
  refine jEm.ent (n := 3) (by decide +kernel) (Nat.le_of_ble_eq_true rfl) ?_
  show jEv xs 1 (150, 0, [(2, Int.ofNat o0), (0, v1), (0, v2)], []) (T, h) y
  unfold G_octetOf at H
  refine jEv.blk [(.aload_n 0, 1, [])] (by decide +kernel) (pc' := 1) (ls' := [(2, Int.ofNat o0), (0, v1), (0, v2)]) (st' := [(2, Int.ofNat o0)]) rfl ?_
  refine jEv.gfR (o' := (o0 + 35)) (show jfI 150 1 (.getfield 45) 3 [11, 10, 5, 0, 3011] = true by decide +kernel) (isX11_L ho0) (by decide) (isX11_r10 ho0) ?_
  refine jEv.gfR (o' := (o0 + 36)) (show jfI 150 4 (.getfield 115) 3 [9, 1, 5, 0, 2067] = true by decide +kernel) (isX9_L (isX11_s10 ho0)) (by decide) (isX9_r1 (isX11_s10 ho0)) ?_
  refine jEv.blk [(.iload_n 1, 1, []), (.iload_n 2, 1, [])] (by decide +kernel) (pc' := 9) (ls' := [(2, Int.ofNat o0), (0, v1), (0, v2)]) (st' := [(0, v2), (0, v1), (2, Int.ofNat (o0 + 36))]) rfl ?_
  refine jbind H (fun b1 Hb1 H => ?_)
  refine jEv.calV (st' := [(0, b1)]) (show jfI 150 9 (.invokevirtual 224) 3 [1, 11, 2, 4239] = true by decide +kernel) rfl (Or.inl rfl) rfl (Nat.le_of_ble_eq_true rfl) (by decide +kernel) (by decide) (isX0_L (isX9_s1 (isX11_s10 ho0))) ((t_Di_octetAt (T := T) (xs := xs) (isX9_s1 (isX11_s10 ho0)) Hb1).mono (jKle 1 hd)) rfl ?_
  exact jEv.retI (show jfI 150 12 (.ireturn) 1 [] = true by decide +kernel) (by decide +kernel) (by cases H; exact HY)
set_option maxRecDepth 20000 in
noncomputable def G_isTold (T : jT) (h : jH) (o0 : Nat) : Option Int := Option.bind (jdyn (isX6 T) (h o0 8)) (fun q1 => (if 0 < (h q1 0) then some 1 else some 0))
set_option maxRecDepth 20000 in
theorem t_G_isTold {T : jT} {xs : List Int} {h : jH}  {o0 : Nat} {out : Int} (ho0 : isX11 T o0) (H : G_isTold T h o0 = some out) : jEm xs 1 152 [(2, Int.ofNat o0)] (T, h) ((0, out), (T, h)) := by
  have hd : 0 ≤ 0 := Nat.le_refl _
  obtain ⟨y, ey⟩ : ∃ y : jV × jS, y = ((0, out), (T, h)) := ⟨_, rfl⟩
  rw [← ey]
  have HY : ykIp T h y out := ey
  refine jEm.ent (n := 1) (by decide +kernel) (Nat.le_of_ble_eq_true rfl) ?_
  show jEv xs 0 (152, 0, [(2, Int.ofNat o0)], []) (T, h) y
  unfold G_isTold at H
  refine jEv.blk [(.aload_n 0, 1, [])] (by decide +kernel) (pc' := 1) (ls' := [(2, Int.ofNat o0)]) (st' := [(2, Int.ofNat o0)]) rfl ?_
  refine jEv.gfD (show jfI 152 1 (.getfield 29) 3 [11, 8, 2, 0, 3009] = true by decide +kernel) (isX11_L ho0) (by decide) H (fun q1 hq1 H => ?_)
  refine jEv.gfI (show jfI 152 4 (.getfield 432) 3 [6, 0, 0, 0, 1060] = true by decide +kernel) (isX6_L hq1) (by decide) ?_
  refine jEv.if_le (t := 14) (show jfI 152 7 (.ifCond .le 7) 3 [] = true by decide +kernel) rfl H (fun c2 H => ?_) (fun c2 H => ?_)
  · refine jEv.blk [(.iconst 1, 1, [])] (by decide +kernel) (pc' := 11) (ls' := [(2, Int.ofNat o0)]) (st' := [(0, 1)]) rfl ?_
    refine jEv.goto (t := 15) (show jfI 152 11 (.goto 4) 3 [] = true by decide +kernel) rfl ?_
    exact jEv.retZ (show jfI 152 15 (.ireturn) 1 [] = true by decide +kernel) (by decide +kernel) (by decide) (by cases H; exact HY)
  · refine jEv.blk [(.iconst 0, 1, [])] (by decide +kernel) (pc' := 15) (ls' := [(2, Int.ofNat o0)]) (st' := [(0, 0)]) rfl ?_
    exact jEv.retZ (show jfI 152 15 (.ireturn) 1 [] = true by decide +kernel) (by decide +kernel) (by decide) (by cases H; exact HY)
set_option maxRecDepth 20000 in
noncomputable def G_place (T : jT) (h : jH) (o0 : Nat) (v1 : Int) : Option Int := Option.bind (G_isTold T h o0) (fun b1 => (if b1 = 0 then some (-1) else (if v1 = 0 then some (h (o0 + 35) 10) else (if v1 = 1 then some (h (o0 + 35) 11) else (if v1 = 2 then some (h (o0 + 35) 12) else some (-1))))))
set_option maxRecDepth 20000 in
theorem t_G_place {T : jT} {xs : List Int} {h : jH}  {o0 : Nat} {v1 : Int} {out : Int} (ho0 : isX11 T o0) (H : G_place T h o0 v1 = some out) : jEm xs 2 151 [(2, Int.ofNat o0), (0, v1)] (T, h) ((0, out), (T, h)) := by
  have hd : 1 ≤ 1 := Nat.le_refl _
  obtain ⟨y, ey⟩ : ∃ y : jV × jS, y = ((0, out), (T, h)) := ⟨_, rfl⟩
  rw [← ey]
  have HY : ykIp T h y out := ey
  refine jEm.ent (n := 2) (by decide +kernel) (Nat.le_of_ble_eq_true rfl) ?_
  show jEv xs 1 (151, 0, [(2, Int.ofNat o0), (0, v1)], []) (T, h) y
  unfold G_place at H
  refine jEv.blk [(.aload_n 0, 1, [])] (by decide +kernel) (pc' := 1) (ls' := [(2, Int.ofNat o0), (0, v1)]) (st' := [(2, Int.ofNat o0)]) rfl ?_
  refine jbind H (fun b1 Hb1 H => ?_)
  refine jEv.calV (st' := [(0, b1)]) (show jfI 151 1 (.invokevirtual 228) 3 [1, 152, 0, 5004] = true by decide +kernel) rfl (Or.inl rfl) rfl (Nat.le_of_ble_eq_true rfl) (by decide +kernel) (by decide) (isX11_L ho0) ((t_G_isTold (T := T) (xs := xs) ho0 Hb1).mono (jKle 1 hd)) rfl ?_
  refine jEv.if_ne (t := 9) (show jfI 151 4 (.ifCond .ne 5) 3 [] = true by decide +kernel) rfl H (fun c2 H => ?_) (fun c2 H => ?_)
  · refine jEv.blk [(.iconst (-1), 1, [])] (by decide +kernel) (pc' := 8) (ls' := [(2, Int.ofNat o0), (0, v1)]) (st' := [(0, (-1))]) rfl ?_
    exact jEv.retI (show jfI 151 8 (.ireturn) 1 [] = true by decide +kernel) (by decide +kernel) (by cases H; exact HY)
  · refine jEv.blk [(.iload_n 1, 1, [])] (by decide +kernel) (pc' := 10) (ls' := [(2, Int.ofNat o0), (0, v1)]) (st' := [(0, v1)]) rfl ?_
    refine jite H (fun c3 H => ?_) (fun c3 H => ?_)
    · refine jEv.tsI (v := 0) (off := 26) (t := 36) (show jfI 151 10 (.tableswitch 50 0 2 #[26, 34, 42]) 26 [] = true by decide +kernel) c3 (by decide) (by decide) rfl (by decide) ?_
      refine jEv.blk [(.aload_n 0, 1, [])] (by decide +kernel) (pc' := 37) (ls' := [(2, Int.ofNat o0), (0, v1)]) (st' := [(2, Int.ofNat o0)]) rfl ?_
      refine jEv.gfR (o' := (o0 + 35)) (show jfI 151 37 (.getfield 45) 3 [11, 10, 5, 0, 3011] = true by decide +kernel) (isX11_L ho0) (by decide) (isX11_r10 ho0) ?_
      refine jEv.gfI (show jfI 151 40 (.getfield 183) 3 [9, 10, 0, 0, 2088] = true by decide +kernel) (isX9_L (isX11_s10 ho0)) (by decide) ?_
      exact jEv.retI (show jfI 151 43 (.ireturn) 1 [] = true by decide +kernel) (by decide +kernel) (by cases H; exact HY)
    · refine jite H (fun c4 H => ?_) (fun c4 H => ?_)
      · refine jEv.tsI (v := 1) (off := 34) (t := 44) (show jfI 151 10 (.tableswitch 50 0 2 #[26, 34, 42]) 26 [] = true by decide +kernel) c4 (by decide) (by decide) rfl (by decide) ?_
        refine jEv.blk [(.aload_n 0, 1, [])] (by decide +kernel) (pc' := 45) (ls' := [(2, Int.ofNat o0), (0, v1)]) (st' := [(2, Int.ofNat o0)]) rfl ?_
        refine jEv.gfR (o' := (o0 + 35)) (show jfI 151 45 (.getfield 45) 3 [11, 10, 5, 0, 3011] = true by decide +kernel) (isX11_L ho0) (by decide) (isX11_r10 ho0) ?_
        refine jEv.gfI (show jfI 151 48 (.getfield 232) 3 [9, 11, 0, 0, 2091] = true by decide +kernel) (isX9_L (isX11_s10 ho0)) (by decide) ?_
        exact jEv.retI (show jfI 151 51 (.ireturn) 1 [] = true by decide +kernel) (by decide +kernel) (by cases H; exact HY)
      · refine jite H (fun c5 H => ?_) (fun c5 H => ?_)
        · refine jEv.tsI (v := 2) (off := 42) (t := 52) (show jfI 151 10 (.tableswitch 50 0 2 #[26, 34, 42]) 26 [] = true by decide +kernel) c5 (by decide) (by decide) rfl (by decide) ?_
          refine jEv.blk [(.aload_n 0, 1, [])] (by decide +kernel) (pc' := 53) (ls' := [(2, Int.ofNat o0), (0, v1)]) (st' := [(2, Int.ofNat o0)]) rfl ?_
          refine jEv.gfR (o' := (o0 + 35)) (show jfI 151 53 (.getfield 45) 3 [11, 10, 5, 0, 3011] = true by decide +kernel) (isX11_L ho0) (by decide) (isX11_r10 ho0) ?_
          refine jEv.gfI (show jfI 151 56 (.getfield 235) 3 [9, 12, 0, 0, 2094] = true by decide +kernel) (isX9_L (isX11_s10 ho0)) (by decide) ?_
          exact jEv.retI (show jfI 151 59 (.ireturn) 1 [] = true by decide +kernel) (by decide +kernel) (by cases H; exact HY)
        · refine jEv.tsO (t := 60) (show jfI 151 10 (.tableswitch 50 0 2 #[26, 34, 42]) 26 [] = true by decide +kernel) (by omega) rfl (by decide) ?_
          refine jEv.blk [(.iconst (-1), 1, [])] (by decide +kernel) (pc' := 61) (ls' := [(2, Int.ofNat o0), (0, v1)]) (st' := [(0, (-1))]) rfl ?_
          exact jEv.retI (show jfI 151 61 (.ireturn) 1 [] = true by decide +kernel) (by decide +kernel) (by cases H; exact HY)
set_option maxRecDepth 20000 in
noncomputable def G_value  (h : jH) (o0 : Nat) (v1 : Int) : Option Int := Option.bind (G_cell h (o0 + 53) 16 v1) (fun b1 => some b1)
set_option maxRecDepth 20000 in
theorem t_G_value {T : jT} {xs : List Int} {h : jH}  {o0 : Nat} {v1 : Int} {out : Int} (ho0 : isX11 T o0) (H : G_value h o0 v1 = some out) : jEm xs 2 153 [(2, Int.ofNat o0), (0, v1)] (T, h) ((0, out), (T, h)) := by
  have hd : 1 ≤ 1 := Nat.le_refl _
  obtain ⟨y, ey⟩ : ∃ y : jV × jS, y = ((0, out), (T, h)) := ⟨_, rfl⟩
  rw [← ey]
  have HY : ykIp T h y out := ey
  refine jEm.ent (n := 2) (by decide +kernel) (Nat.le_of_ble_eq_true rfl) ?_
  show jEv xs 1 (153, 0, [(2, Int.ofNat o0), (0, v1)], []) (T, h) y
  unfold G_value at H
  refine jEv.blk [(.aload_n 0, 1, [])] (by decide +kernel) (pc' := 1) (ls' := [(2, Int.ofNat o0), (0, v1)]) (st' := [(2, Int.ofNat o0)]) rfl ?_
  refine jEv.gfR (o' := (o0 + 35)) (show jfI 153 1 (.getfield 45) 3 [11, 10, 5, 0, 3011] = true by decide +kernel) (isX11_L ho0) (by decide) (isX11_r10 ho0) ?_
  refine jEv.gfR (o' := (o0 + 53)) (show jfI 153 4 (.getfield 238) 3 [9, 5, 5, 0, 2077] = true by decide +kernel) (isX9_L (isX11_s10 ho0)) (by decide) (isX9_r5 (isX11_s10 ho0)) ?_
  refine jEv.blk [(.iload_n 1, 1, [])] (by decide +kernel) (pc' := 8) (ls' := [(2, Int.ofNat o0), (0, v1)]) (st' := [(0, v1), (2, Int.ofNat (o0 + 53))]) rfl ?_
  refine jbind H (fun b1 Hb1 H => ?_)
  refine jEv.calS (st' := [(0, b1)]) (show jfI 153 8 (.invokestatic 241) 3 [3, 137, 2, 3070] = true by decide +kernel) rfl (Or.inl rfl) rfl (Nat.le_of_ble_eq_true rfl) ((t_G_cell (T := T) (xs := xs) (isX9_a5 (isX11_s10 ho0)) Hb1).mono (jKle 1 hd)) rfl ?_
  exact jEv.retI (show jfI 153 11 (.ireturn) 1 [] = true by decide +kernel) (by decide +kernel) (by cases H; exact HY)
set_option maxRecDepth 20000 in
noncomputable def G_soon  (h : jH) (o0 : Nat) (v1 : Int) : Option Int := Option.bind (Qu_latestOf h (o0 + 42) v1) (fun b1 => (if b1 = (-1) then Option.bind (G_cell h (o0 + 53) 16 v1) (fun b3 => some b3) else some b1))
set_option maxRecDepth 20000 in
theorem t_G_soon {T : jT} {xs : List Int} {h : jH}  {o0 : Nat} {v1 : Int} {out : Int} (ho0 : isX11 T o0) (H : G_soon h o0 v1 = some out) : jEm xs 3 154 [(2, Int.ofNat o0), (0, v1)] (T, h) ((0, out), (T, h)) := by
  have hd : 2 ≤ 2 := Nat.le_refl _
  obtain ⟨y, ey⟩ : ∃ y : jV × jS, y = ((0, out), (T, h)) := ⟨_, rfl⟩
  rw [← ey]
  have HY : ykIp T h y out := ey
  refine jEm.ent (n := 3) (by decide +kernel) (Nat.le_of_ble_eq_true rfl) ?_
  show jEv xs 2 (154, 0, [(2, Int.ofNat o0), (0, v1), (3, 0)], []) (T, h) y
  unfold G_soon at H
  refine jEv.blk [(.aload_n 0, 1, [])] (by decide +kernel) (pc' := 1) (ls' := [(2, Int.ofNat o0), (0, v1), (3, 0)]) (st' := [(2, Int.ofNat o0)]) rfl ?_
  refine jEv.gfR (o' := (o0 + 35)) (show jfI 154 1 (.getfield 45) 3 [11, 10, 5, 0, 3011] = true by decide +kernel) (isX11_L ho0) (by decide) (isX11_r10 ho0) ?_
  refine jEv.gfR (o' := (o0 + 42)) (show jfI 154 4 (.getfield 130) 3 [9, 3, 5, 0, 2073] = true by decide +kernel) (isX9_L (isX11_s10 ho0)) (by decide) (isX9_r3 (isX11_s10 ho0)) ?_
  refine jEv.blk [(.iload_n 1, 1, [])] (by decide +kernel) (pc' := 8) (ls' := [(2, Int.ofNat o0), (0, v1), (3, 0)]) (st' := [(0, v1), (2, Int.ofNat (o0 + 42))]) rfl ?_
  refine jbind H (fun b1 Hb1 H => ?_)
  refine jEv.calV (st' := [(0, b1)]) (show jfI 154 8 (.invokevirtual 245) 3 [1, 95, 1, 5016] = true by decide +kernel) rfl (Or.inl rfl) rfl (Nat.le_of_ble_eq_true rfl) (by decide +kernel) (by decide) (isX7_L (isX9_s3 (isX11_s10 ho0))) ((t_Qu_latestOf (T := T) (xs := xs) (isX9_s3 (isX11_s10 ho0)) Hb1).mono (jKle 2 hd)) rfl ?_
  refine jEv.blk [(.istore_n 2, 1, []), (.iload_n 2, 1, []), (.iconst (-1), 1, [])] (by decide +kernel) (pc' := 14) (ls' := [(2, Int.ofNat o0), (0, v1), (0, b1)]) (st' := [(0, (-1)), (0, b1)]) rfl ?_
  refine jEv.ic_eq (t := 21) (show jfI 154 14 (.if_icmp .eq 7) 3 [] = true by decide +kernel) rfl H (fun c2 H => ?_) (fun c2 H => ?_)
  · refine jEv.blk [(.aload_n 0, 1, [])] (by decide +kernel) (pc' := 22) (ls' := [(2, Int.ofNat o0), (0, v1), (0, b1)]) (st' := [(2, Int.ofNat o0)]) rfl ?_
    refine jEv.gfR (o' := (o0 + 35)) (show jfI 154 22 (.getfield 45) 3 [11, 10, 5, 0, 3011] = true by decide +kernel) (isX11_L ho0) (by decide) (isX11_r10 ho0) ?_
    refine jEv.gfR (o' := (o0 + 53)) (show jfI 154 25 (.getfield 238) 3 [9, 5, 5, 0, 2077] = true by decide +kernel) (isX9_L (isX11_s10 ho0)) (by decide) (isX9_r5 (isX11_s10 ho0)) ?_
    refine jEv.blk [(.iload_n 1, 1, [])] (by decide +kernel) (pc' := 29) (ls' := [(2, Int.ofNat o0), (0, v1), (0, b1)]) (st' := [(0, v1), (2, Int.ofNat (o0 + 53))]) rfl ?_
    refine jbind H (fun b3 Hb3 H => ?_)
    refine jEv.calS (st' := [(0, b3)]) (show jfI 154 29 (.invokestatic 241) 3 [3, 137, 2, 3070] = true by decide +kernel) rfl (Or.inl rfl) rfl (Nat.le_of_ble_eq_true rfl) ((t_G_cell (T := T) (xs := xs) (isX9_a5 (isX11_s10 ho0)) Hb3).mono (jKle 1 hd)) rfl ?_
    exact jEv.retI (show jfI 154 32 (.ireturn) 1 [] = true by decide +kernel) (by decide +kernel) (by cases H; exact HY)
  · refine jEv.blk [(.iload_n 2, 1, [])] (by decide +kernel) (pc' := 18) (ls' := [(2, Int.ofNat o0), (0, v1), (0, b1)]) (st' := [(0, b1)]) rfl ?_
    refine jEv.goto (t := 32) (show jfI 154 18 (.goto 14) 3 [] = true by decide +kernel) rfl ?_
    exact jEv.retI (show jfI 154 32 (.ireturn) 1 [] = true by decide +kernel) (by decide +kernel) (by cases H; exact HY)
set_option maxRecDepth 20000 in
noncomputable def G_waiting  (h : jH) (o0 : Nat) (v1 : Int) (v2 : Int) : Option Int := (if v1 < 0 then some (-1) else Option.bind (Qu_waitingCount h (o0 + 42)) (fun b2 => (if v1 < b2 then (if v2 = 0 then some (wr ((h (o0 + 42) 4) + (wr ((h (o0 + 42) 5) + v1)))) else (if v2 = 1 then Option.bind (G_cell h (o0 + 43) 32 (wr ((h (o0 + 42) 5) + v1))) (fun b6 => some b6) else (if v2 = 2 then Option.bind (G_cell h (o0 + 44) 32 (wr ((h (o0 + 42) 5) + v1))) (fun b8 => some b8) else (if v2 = 3 then Option.bind (G_cell h (o0 + 45) 32 (wr ((h (o0 + 42) 5) + v1))) (fun b10 => some b10) else some (-1))))) else some (-1))))
set_option maxRecDepth 20000 in
theorem t_G_waiting {T : jT} {xs : List Int} {h : jH}  {o0 : Nat} {v1 : Int} {v2 : Int} {out : Int} (ho0 : isX11 T o0) (H : G_waiting h o0 v1 v2 = some out) : jEm xs 2 155 [(2, Int.ofNat o0), (0, v1), (0, v2)] (T, h) ((0, out), (T, h)) := by
  have hd : 1 ≤ 1 := Nat.le_refl _
  obtain ⟨y, ey⟩ : ∃ y : jV × jS, y = ((0, out), (T, h)) := ⟨_, rfl⟩
  rw [← ey]
  have HY : ykIp T h y out := ey
  refine jEm.ent (n := 5) (by decide +kernel) (Nat.le_of_ble_eq_true rfl) ?_
  show jEv xs 1 (155, 0, [(2, Int.ofNat o0), (0, v1), (0, v2), (3, 0), (3, 0)], []) (T, h) y
  unfold G_waiting at H
  refine jEv.blk [(.aload_n 0, 1, [])] (by decide +kernel) (pc' := 1) (ls' := [(2, Int.ofNat o0), (0, v1), (0, v2), (3, 0), (3, 0)]) (st' := [(2, Int.ofNat o0)]) rfl ?_
  refine jEv.gfR (o' := (o0 + 35)) (show jfI 155 1 (.getfield 45) 3 [11, 10, 5, 0, 3011] = true by decide +kernel) (isX11_L ho0) (by decide) (isX11_r10 ho0) ?_
  refine jEv.gfR (o' := (o0 + 42)) (show jfI 155 4 (.getfield 130) 3 [9, 3, 5, 0, 2073] = true by decide +kernel) (isX9_L (isX11_s10 ho0)) (by decide) (isX9_r3 (isX11_s10 ho0)) ?_
  refine jEv.blk [(.astore_n 3, 1, []), (.iload_n 1, 1, [])] (by decide +kernel) (pc' := 9) (ls' := [(2, Int.ofNat o0), (0, v1), (0, v2), (2, Int.ofNat (o0 + 42)), (3, 0)]) (st' := [(0, v1)]) rfl ?_
  refine jEv.if_lt (t := 20) (show jfI 155 9 (.ifCond .lt 11) 3 [] = true by decide +kernel) rfl H (fun c1 H => ?_) (fun c1 H => ?_)
  · refine jEv.blk [(.iconst (-1), 1, [])] (by decide +kernel) (pc' := 21) (ls' := [(2, Int.ofNat o0), (0, v1), (0, v2), (2, Int.ofNat (o0 + 42)), (3, 0)]) (st' := [(0, (-1))]) rfl ?_
    exact jEv.retI (show jfI 155 21 (.ireturn) 1 [] = true by decide +kernel) (by decide +kernel) (by cases H; exact HY)
  · refine jEv.blk [(.iload_n 1, 1, []), (.aload_n 3, 1, [])] (by decide +kernel) (pc' := 14) (ls' := [(2, Int.ofNat o0), (0, v1), (0, v2), (2, Int.ofNat (o0 + 42)), (3, 0)]) (st' := [(2, Int.ofNat (o0 + 42)), (0, v1)]) rfl ?_
    refine jbind H (fun b2 Hb2 H => ?_)
    refine jEv.calV (st' := [(0, b2), (0, v1)]) (show jfI 155 14 (.invokevirtual 142) 3 [1, 92, 0, 4150] = true by decide +kernel) rfl (Or.inl rfl) rfl (Nat.le_of_ble_eq_true rfl) (by decide +kernel) (by decide) (isX7_L (isX9_s3 (isX11_s10 ho0))) ((t_Qu_waitingCount (T := T) (xs := xs) (isX9_s3 (isX11_s10 ho0)) Hb2).mono (jKle 1 hd)) rfl ?_
    refine jEv.ic_lt (t := 22) (show jfI 155 17 (.if_icmp .lt 5) 3 [] = true by decide +kernel) rfl H (fun c3 H => ?_) (fun c3 H => ?_)
    · refine jEv.blk [(.aload_n 3, 1, [])] (by decide +kernel) (pc' := 23) (ls' := [(2, Int.ofNat o0), (0, v1), (0, v2), (2, Int.ofNat (o0 + 42)), (3, 0)]) (st' := [(2, Int.ofNat (o0 + 42))]) rfl ?_
      refine jEv.gfI (show jfI 155 23 (.getfield 248) 3 [7, 5, 0, 0, 2013] = true by decide +kernel) (isX7_L (isX9_s3 (isX11_s10 ho0))) (by decide) ?_
      refine jEv.blk [(.iload_n 1, 1, []), (.iadd, 1, []), (.istore 4, 2, []), (.iload_n 2, 1, [])] (by decide +kernel) (pc' := 31) (ls' := [(2, Int.ofNat o0), (0, v1), (0, v2), (2, Int.ofNat (o0 + 42)), (0, (wr ((h (o0 + 42) 5) + v1)))]) (st' := [(0, v2)]) rfl ?_
      refine jite H (fun c4 H => ?_) (fun c4 H => ?_)
      · refine jEv.tsI (v := 0) (off := 29) (t := 60) (show jfI 155 31 (.tableswitch 67 0 3 #[29, 37, 47, 57]) 29 [] = true by decide +kernel) c4 (by decide) (by decide) rfl (by decide) ?_
        refine jEv.blk [(.aload_n 3, 1, [])] (by decide +kernel) (pc' := 61) (ls' := [(2, Int.ofNat o0), (0, v1), (0, v2), (2, Int.ofNat (o0 + 42)), (0, (wr ((h (o0 + 42) 5) + v1)))]) (st' := [(2, Int.ofNat (o0 + 42))]) rfl ?_
        refine jEv.gfI (show jfI 155 61 (.getfield 139) 3 [7, 4, 0, 0, 2008] = true by decide +kernel) (isX7_L (isX9_s3 (isX11_s10 ho0))) (by decide) ?_
        refine jEv.blk [(.iload 4, 2, []), (.iadd, 1, [])] (by decide +kernel) (pc' := 67) (ls' := [(2, Int.ofNat o0), (0, v1), (0, v2), (2, Int.ofNat (o0 + 42)), (0, (wr ((h (o0 + 42) 5) + v1)))]) (st' := [(0, (wr ((h (o0 + 42) 4) + (wr ((h (o0 + 42) 5) + v1)))))]) rfl ?_
        exact jEv.retI (show jfI 155 67 (.ireturn) 1 [] = true by decide +kernel) (by decide +kernel) (by cases H; exact HY)
      · refine jite H (fun c5 H => ?_) (fun c5 H => ?_)
        · refine jEv.tsI (v := 1) (off := 37) (t := 68) (show jfI 155 31 (.tableswitch 67 0 3 #[29, 37, 47, 57]) 29 [] = true by decide +kernel) c5 (by decide) (by decide) rfl (by decide) ?_
          refine jEv.blk [(.aload_n 3, 1, [])] (by decide +kernel) (pc' := 69) (ls' := [(2, Int.ofNat o0), (0, v1), (0, v2), (2, Int.ofNat (o0 + 42)), (0, (wr ((h (o0 + 42) 5) + v1)))]) (st' := [(2, Int.ofNat (o0 + 42))]) rfl ?_
          refine jEv.gfR (o' := (o0 + 43)) (show jfI 155 69 (.getfield 251) 3 [7, 0, 5, 0, 1238] = true by decide +kernel) (isX7_L (isX9_s3 (isX11_s10 ho0))) (by decide) (isX7_r0 (isX9_s3 (isX11_s10 ho0))) ?_
          refine jEv.blk [(.iload 4, 2, [])] (by decide +kernel) (pc' := 74) (ls' := [(2, Int.ofNat o0), (0, v1), (0, v2), (2, Int.ofNat (o0 + 42)), (0, (wr ((h (o0 + 42) 5) + v1)))]) (st' := [(0, (wr ((h (o0 + 42) 5) + v1))), (2, Int.ofNat (o0 + 43))]) rfl ?_
          refine jbind H (fun b6 Hb6 H => ?_)
          refine jEv.calS (st' := [(0, b6)]) (show jfI 155 74 (.invokestatic 241) 3 [3, 137, 2, 3070] = true by decide +kernel) rfl (Or.inl rfl) rfl (Nat.le_of_ble_eq_true rfl) ((t_G_cell (T := T) (xs := xs) (isX7_a0 (isX9_s3 (isX11_s10 ho0))) Hb6).mono (jKle 1 hd)) rfl ?_
          exact jEv.retI (show jfI 155 77 (.ireturn) 1 [] = true by decide +kernel) (by decide +kernel) (by cases H; exact HY)
        · refine jite H (fun c7 H => ?_) (fun c7 H => ?_)
          · refine jEv.tsI (v := 2) (off := 47) (t := 78) (show jfI 155 31 (.tableswitch 67 0 3 #[29, 37, 47, 57]) 29 [] = true by decide +kernel) c7 (by decide) (by decide) rfl (by decide) ?_
            refine jEv.blk [(.aload_n 3, 1, [])] (by decide +kernel) (pc' := 79) (ls' := [(2, Int.ofNat o0), (0, v1), (0, v2), (2, Int.ofNat (o0 + 42)), (0, (wr ((h (o0 + 42) 5) + v1)))]) (st' := [(2, Int.ofNat (o0 + 42))]) rfl ?_
            refine jEv.gfR (o' := (o0 + 44)) (show jfI 155 79 (.getfield 254) 3 [7, 1, 5, 0, 2002] = true by decide +kernel) (isX7_L (isX9_s3 (isX11_s10 ho0))) (by decide) (isX7_r1 (isX9_s3 (isX11_s10 ho0))) ?_
            refine jEv.blk [(.iload 4, 2, [])] (by decide +kernel) (pc' := 84) (ls' := [(2, Int.ofNat o0), (0, v1), (0, v2), (2, Int.ofNat (o0 + 42)), (0, (wr ((h (o0 + 42) 5) + v1)))]) (st' := [(0, (wr ((h (o0 + 42) 5) + v1))), (2, Int.ofNat (o0 + 44))]) rfl ?_
            refine jbind H (fun b8 Hb8 H => ?_)
            refine jEv.calS (st' := [(0, b8)]) (show jfI 155 84 (.invokestatic 241) 3 [3, 137, 2, 3070] = true by decide +kernel) rfl (Or.inl rfl) rfl (Nat.le_of_ble_eq_true rfl) ((t_G_cell (T := T) (xs := xs) (isX7_a1 (isX9_s3 (isX11_s10 ho0))) Hb8).mono (jKle 1 hd)) rfl ?_
            exact jEv.retI (show jfI 155 87 (.ireturn) 1 [] = true by decide +kernel) (by decide +kernel) (by cases H; exact HY)
          · refine jite H (fun c9 H => ?_) (fun c9 H => ?_)
            · refine jEv.tsI (v := 3) (off := 57) (t := 88) (show jfI 155 31 (.tableswitch 67 0 3 #[29, 37, 47, 57]) 29 [] = true by decide +kernel) c9 (by decide) (by decide) rfl (by decide) ?_
              refine jEv.blk [(.aload_n 3, 1, [])] (by decide +kernel) (pc' := 89) (ls' := [(2, Int.ofNat o0), (0, v1), (0, v2), (2, Int.ofNat (o0 + 42)), (0, (wr ((h (o0 + 42) 5) + v1)))]) (st' := [(2, Int.ofNat (o0 + 42))]) rfl ?_
              refine jEv.gfR (o' := (o0 + 45)) (show jfI 155 89 (.getfield 257) 3 [7, 2, 5, 0, 2004] = true by decide +kernel) (isX7_L (isX9_s3 (isX11_s10 ho0))) (by decide) (isX7_r2 (isX9_s3 (isX11_s10 ho0))) ?_
              refine jEv.blk [(.iload 4, 2, [])] (by decide +kernel) (pc' := 94) (ls' := [(2, Int.ofNat o0), (0, v1), (0, v2), (2, Int.ofNat (o0 + 42)), (0, (wr ((h (o0 + 42) 5) + v1)))]) (st' := [(0, (wr ((h (o0 + 42) 5) + v1))), (2, Int.ofNat (o0 + 45))]) rfl ?_
              refine jbind H (fun b10 Hb10 H => ?_)
              refine jEv.calS (st' := [(0, b10)]) (show jfI 155 94 (.invokestatic 241) 3 [3, 137, 2, 3070] = true by decide +kernel) rfl (Or.inl rfl) rfl (Nat.le_of_ble_eq_true rfl) ((t_G_cell (T := T) (xs := xs) (isX7_a2 (isX9_s3 (isX11_s10 ho0))) Hb10).mono (jKle 1 hd)) rfl ?_
              exact jEv.retI (show jfI 155 97 (.ireturn) 1 [] = true by decide +kernel) (by decide +kernel) (by cases H; exact HY)
            · refine jEv.tsO (t := 98) (show jfI 155 31 (.tableswitch 67 0 3 #[29, 37, 47, 57]) 29 [] = true by decide +kernel) (by omega) rfl (by decide) ?_
              refine jEv.blk [(.iconst (-1), 1, [])] (by decide +kernel) (pc' := 99) (ls' := [(2, Int.ofNat o0), (0, v1), (0, v2), (2, Int.ofNat (o0 + 42)), (0, (wr ((h (o0 + 42) 5) + v1)))]) (st' := [(0, (-1))]) rfl ?_
              exact jEv.retI (show jfI 155 99 (.ireturn) 1 [] = true by decide +kernel) (by decide +kernel) (by cases H; exact HY)
    · refine jEv.blk [(.iconst (-1), 1, [])] (by decide +kernel) (pc' := 21) (ls' := [(2, Int.ofNat o0), (0, v1), (0, v2), (2, Int.ofNat (o0 + 42)), (3, 0)]) (st' := [(0, (-1))]) rfl ?_
      exact jEv.retI (show jfI 155 21 (.ireturn) 1 [] = true by decide +kernel) (by decide +kernel) (by cases H; exact HY)
set_option maxRecDepth 20000 in
noncomputable def G_waiter  (h : jH) (o0 : Nat) (v1 : Int) : Option Int := Option.bind (Wa_awaitedBy h (o0 + 47) v1) (fun b1 => some b1)
set_option maxRecDepth 20000 in
theorem t_G_waiter {T : jT} {xs : List Int} {h : jH}  {o0 : Nat} {v1 : Int} {out : Int} (ho0 : isX11 T o0) (H : G_waiter h o0 v1 = some out) : jEm xs 3 156 [(2, Int.ofNat o0), (0, v1)] (T, h) ((0, out), (T, h)) := by
  have hd : 2 ≤ 2 := Nat.le_refl _
  obtain ⟨y, ey⟩ : ∃ y : jV × jS, y = ((0, out), (T, h)) := ⟨_, rfl⟩
  rw [← ey]
  have HY : ykIp T h y out := ey
  refine jEm.ent (n := 2) (by decide +kernel) (Nat.le_of_ble_eq_true rfl) ?_
  show jEv xs 2 (156, 0, [(2, Int.ofNat o0), (0, v1)], []) (T, h) y
  unfold G_waiter at H
  refine jEv.blk [(.aload_n 0, 1, [])] (by decide +kernel) (pc' := 1) (ls' := [(2, Int.ofNat o0), (0, v1)]) (st' := [(2, Int.ofNat o0)]) rfl ?_
  refine jEv.gfR (o' := (o0 + 35)) (show jfI 156 1 (.getfield 45) 3 [11, 10, 5, 0, 3011] = true by decide +kernel) (isX11_L ho0) (by decide) (isX11_r10 ho0) ?_
  refine jEv.gfR (o' := (o0 + 47)) (show jfI 156 4 (.getfield 160) 3 [9, 4, 5, 0, 2075] = true by decide +kernel) (isX9_L (isX11_s10 ho0)) (by decide) (isX9_r4 (isX11_s10 ho0)) ?_
  refine jEv.blk [(.iload_n 1, 1, [])] (by decide +kernel) (pc' := 8) (ls' := [(2, Int.ofNat o0), (0, v1)]) (st' := [(0, v1), (2, Int.ofNat (o0 + 47))]) rfl ?_
  refine jbind H (fun b1 Hb1 H => ?_)
  refine jEv.calV (st' := [(0, b1)]) (show jfI 156 8 (.invokevirtual 260) 3 [1, 128, 1, 5029] = true by decide +kernel) rfl (Or.inl rfl) rfl (Nat.le_of_ble_eq_true rfl) (by decide +kernel) (by decide) (isX10_L (isX9_s4 (isX11_s10 ho0))) ((t_Wa_awaitedBy (T := T) (xs := xs) (isX9_s4 (isX11_s10 ho0)) Hb1).mono (jKle 2 hd)) rfl ?_
  exact jEv.retI (show jfI 156 11 (.ireturn) 1 [] = true by decide +kernel) (by decide +kernel) (by cases H; exact HY)
set_option maxRecDepth 20000 in
noncomputable def G_kept  (h : jH) (o0 : Nat) (v1 : Int) (v2 : Int) : Option Int := Option.bind (Wa_keptAt h (o0 + 47) v1 v2) (fun b1 => some b1)
set_option maxRecDepth 20000 in
theorem t_G_kept {T : jT} {xs : List Int} {h : jH}  {o0 : Nat} {v1 : Int} {v2 : Int} {out : Int} (ho0 : isX11 T o0) (H : G_kept h o0 v1 v2 = some out) : jEm xs 4 157 [(2, Int.ofNat o0), (0, v1), (0, v2)] (T, h) ((0, out), (T, h)) := by
  have hd : 3 ≤ 3 := Nat.le_refl _
  obtain ⟨y, ey⟩ : ∃ y : jV × jS, y = ((0, out), (T, h)) := ⟨_, rfl⟩
  rw [← ey]
  have HY : ykIp T h y out := ey
  refine jEm.ent (n := 3) (by decide +kernel) (Nat.le_of_ble_eq_true rfl) ?_
  show jEv xs 3 (157, 0, [(2, Int.ofNat o0), (0, v1), (0, v2)], []) (T, h) y
  unfold G_kept at H
  refine jEv.blk [(.aload_n 0, 1, [])] (by decide +kernel) (pc' := 1) (ls' := [(2, Int.ofNat o0), (0, v1), (0, v2)]) (st' := [(2, Int.ofNat o0)]) rfl ?_
  refine jEv.gfR (o' := (o0 + 35)) (show jfI 157 1 (.getfield 45) 3 [11, 10, 5, 0, 3011] = true by decide +kernel) (isX11_L ho0) (by decide) (isX11_r10 ho0) ?_
  refine jEv.gfR (o' := (o0 + 47)) (show jfI 157 4 (.getfield 160) 3 [9, 4, 5, 0, 2075] = true by decide +kernel) (isX9_L (isX11_s10 ho0)) (by decide) (isX9_r4 (isX11_s10 ho0)) ?_
  refine jEv.blk [(.iload_n 1, 1, []), (.iload_n 2, 1, [])] (by decide +kernel) (pc' := 9) (ls' := [(2, Int.ofNat o0), (0, v1), (0, v2)]) (st' := [(0, v2), (0, v1), (2, Int.ofNat (o0 + 47))]) rfl ?_
  refine jbind H (fun b1 Hb1 H => ?_)
  refine jEv.calV (st' := [(0, b1)]) (show jfI 157 9 (.invokevirtual 263) 3 [1, 129, 2, 5038] = true by decide +kernel) rfl (Or.inl rfl) rfl (Nat.le_of_ble_eq_true rfl) (by decide +kernel) (by decide) (isX10_L (isX9_s4 (isX11_s10 ho0))) ((t_Wa_keptAt (T := T) (xs := xs) (isX9_s4 (isX11_s10 ho0)) Hb1).mono (jKle 3 hd)) rfl ?_
  exact jEv.retI (show jfI 157 12 (.ireturn) 1 [] = true by decide +kernel) (by decide +kernel) (by cases H; exact HY)
def yk_G_later_L47 (T : jT) (xs : List Int) (d : Nat) (y : jV × jS)  (o0 : Nat) (v1 : Int) (v2 : Int) : ((Int × jH) ⊕ (Int × jH)) → Prop
  | .inl (v3, h) => jEv xs d (158, 47, [(2, Int.ofNat o0), (0, v1), (0, v2), (0, v3)], []) (T, h) y
  | .inr o => ykI T y o
set_option maxRecDepth 20000 in
noncomputable def G_later_B47 (T : jT) (h : jH) (o0 : Nat) (v1 : Int) (v2 : Int) (v3 : Int) : Option ((Int × jH) ⊕ (Int × jH)) := (if v3 < v1 then Option.bind (St_passTick T h (o0 + 56) (o0 + 78) 0) (fun b8 => some (.inl ((wr (v3 + 1)), b8.2))) else Option.map Sum.inr ((if v2 = 0 then some ((h (o0 + 63) 4), h) else (if v2 = 1 then Option.bind (Qu_waitingCount h (o0 + 63)) (fun b11 => some (b11, h)) else (if v2 = 2 then some ((h (o0 + 60) 2), h) else some ((-1), h))))))
noncomputable def G_later_L47 (T : jT) (h : jH) (o0 : Nat) (v1 : Int) (v2 : Int) (v3 : Int) : Option (Int × jH) := jloop (fun s : (Int × jH) => G_later_B47 T s.2 o0 v1 v2 s.1) (v3, h)
set_option maxRecDepth 20000 in
theorem t_G_later_B47 {T : jT} {xs : List Int} {d : Nat} {y : jV × jS} (hd : 6 ≤ d) {h : jH}  {o0 : Nat} {v1 : Int} {v2 : Int} {v3 : Int} {out : ((Int × jH) ⊕ (Int × jH))} (ho0 : isX11 T o0) (H : G_later_B47 T h o0 v1 v2 v3 = some out) (HY : yk_G_later_L47 T xs d y o0 v1 v2 out) : jEv xs d (158, 47, [(2, Int.ofNat o0), (0, v1), (0, v2), (0, v3)], []) (T, h) y := by
  unfold G_later_B47 at H
  refine jEv.blk [(.iload_n 3, 1, []), (.iload_n 1, 1, [])] (by decide +kernel) (pc' := 49) (ls' := [(2, Int.ofNat o0), (0, v1), (0, v2), (0, v3)]) (st' := [(0, v1), (0, v3)]) rfl ?_
  refine jEv.ic_ge (t := 71) (show jfI 158 49 (.if_icmp .ge 22) 3 [] = true by decide +kernel) rfl H (fun c7 H => ?_) (fun c7 H => ?_)
  · refine jEv.blk [(.aload_n 0, 1, [])] (by decide +kernel) (pc' := 53) (ls' := [(2, Int.ofNat o0), (0, v1), (0, v2), (0, v3)]) (st' := [(2, Int.ofNat o0)]) rfl ?_
    refine jEv.gfR (o' := (o0 + 56)) (show jfI 158 53 (.getfield 49) 3 [11, 11, 5, 0, 3012] = true by decide +kernel) (isX11_L ho0) (by decide) (isX11_r11 ho0) ?_
    refine jEv.blk [(.aload_n 0, 1, [])] (by decide +kernel) (pc' := 57) (ls' := [(2, Int.ofNat o0), (0, v1), (0, v2), (0, v3)]) (st' := [(2, Int.ofNat o0), (2, Int.ofNat (o0 + 56))]) rfl ?_
    refine jEv.gfR (o' := (o0 + 78)) (show jfI 158 57 (.getfield 59) 3 [11, 15, 5, 0, 3016] = true by decide +kernel) (isX11_L ho0) (by decide) (isX11_r15 ho0) ?_
    refine jEv.blk [(.iconst 0, 1, [])] (by decide +kernel) (pc' := 61) (ls' := [(2, Int.ofNat o0), (0, v1), (0, v2), (0, v3)]) (st' := [(0, 0), (2, Int.ofNat (o0 + 78)), (2, Int.ofNat (o0 + 56))]) rfl ?_
    refine jbind H (fun b8 Hb8 H => ?_)
    refine jEv.calV (st' := [(0, b8.1)]) (show jfI 158 61 (.invokevirtual 270) 3 [1, 115, 2, 5078] = true by decide +kernel) rfl (Or.inl rfl) rfl (Nat.le_of_ble_eq_true rfl) (by decide +kernel) (by decide) (isX9_L (isX11_s11 ho0)) ((t_St_passTick (T := T) (xs := xs) (isX11_s11 ho0) (isX11_s15 ho0) Hb8).mono (jKle 6 hd)) rfl ?_
    refine jEv.blk [(.pop, 1, []), (.iinc 3 1, 3, [])] (by decide +kernel) (pc' := 68) (ls' := [(2, Int.ofNat o0), (0, v1), (0, v2), (0, (wr (v3 + 1)))]) (st' := []) rfl ?_
    refine jEv.goto (t := 47) (show jfI 158 68 (.goto (-21)) 3 [] = true by decide +kernel) rfl ?_
    exact (by cases H; exact HY)
  · refine jmapr H HY (fun out H (HY : ykI T y out) => ?_)
    refine jEv.blk [(.iload_n 2, 1, [])] (by decide +kernel) (pc' := 72) (ls' := [(2, Int.ofNat o0), (0, v1), (0, v2), (0, v3)]) (st' := [(0, v2)]) rfl ?_
    refine jite H (fun c9 H => ?_) (fun c9 H => ?_)
    · refine jEv.tsI (v := 0) (off := 28) (t := 100) (show jfI 158 72 (.tableswitch 61 0 2 #[28, 39, 50]) 28 [] = true by decide +kernel) c9 (by decide) (by decide) rfl (by decide) ?_
      refine jEv.blk [(.aload_n 0, 1, [])] (by decide +kernel) (pc' := 101) (ls' := [(2, Int.ofNat o0), (0, v1), (0, v2), (0, v3)]) (st' := [(2, Int.ofNat o0)]) rfl ?_
      refine jEv.gfR (o' := (o0 + 56)) (show jfI 158 101 (.getfield 49) 3 [11, 11, 5, 0, 3012] = true by decide +kernel) (isX11_L ho0) (by decide) (isX11_r11 ho0) ?_
      refine jEv.gfR (o' := (o0 + 63)) (show jfI 158 104 (.getfield 130) 3 [9, 3, 5, 0, 2073] = true by decide +kernel) (isX9_L (isX11_s11 ho0)) (by decide) (isX9_r3 (isX11_s11 ho0)) ?_
      refine jEv.gfI (show jfI 158 107 (.getfield 139) 3 [7, 4, 0, 0, 2008] = true by decide +kernel) (isX7_L (isX9_s3 (isX11_s11 ho0))) (by decide) ?_
      exact jEv.retI (show jfI 158 110 (.ireturn) 1 [] = true by decide +kernel) (by decide +kernel) (by cases H; exact HY)
    · refine jite H (fun c10 H => ?_) (fun c10 H => ?_)
      · refine jEv.tsI (v := 1) (off := 39) (t := 111) (show jfI 158 72 (.tableswitch 61 0 2 #[28, 39, 50]) 28 [] = true by decide +kernel) c10 (by decide) (by decide) rfl (by decide) ?_
        refine jEv.blk [(.aload_n 0, 1, [])] (by decide +kernel) (pc' := 112) (ls' := [(2, Int.ofNat o0), (0, v1), (0, v2), (0, v3)]) (st' := [(2, Int.ofNat o0)]) rfl ?_
        refine jEv.gfR (o' := (o0 + 56)) (show jfI 158 112 (.getfield 49) 3 [11, 11, 5, 0, 3012] = true by decide +kernel) (isX11_L ho0) (by decide) (isX11_r11 ho0) ?_
        refine jEv.gfR (o' := (o0 + 63)) (show jfI 158 115 (.getfield 130) 3 [9, 3, 5, 0, 2073] = true by decide +kernel) (isX9_L (isX11_s11 ho0)) (by decide) (isX9_r3 (isX11_s11 ho0)) ?_
        refine jbind H (fun b11 Hb11 H => ?_)
        refine jEv.calV (st' := [(0, b11)]) (show jfI 158 118 (.invokevirtual 142) 3 [1, 92, 0, 4150] = true by decide +kernel) rfl (Or.inl rfl) rfl (Nat.le_of_ble_eq_true rfl) (by decide +kernel) (by decide) (isX7_L (isX9_s3 (isX11_s11 ho0))) ((t_Qu_waitingCount (T := T) (xs := xs) (isX9_s3 (isX11_s11 ho0)) Hb11).mono (jKle 1 hd)) rfl ?_
        exact jEv.retI (show jfI 158 121 (.ireturn) 1 [] = true by decide +kernel) (by decide +kernel) (by cases H; exact HY)
      · refine jite H (fun c12 H => ?_) (fun c12 H => ?_)
        · refine jEv.tsI (v := 2) (off := 50) (t := 122) (show jfI 158 72 (.tableswitch 61 0 2 #[28, 39, 50]) 28 [] = true by decide +kernel) c12 (by decide) (by decide) rfl (by decide) ?_
          refine jEv.blk [(.aload_n 0, 1, [])] (by decide +kernel) (pc' := 123) (ls' := [(2, Int.ofNat o0), (0, v1), (0, v2), (0, v3)]) (st' := [(2, Int.ofNat o0)]) rfl ?_
          refine jEv.gfR (o' := (o0 + 56)) (show jfI 158 123 (.getfield 49) 3 [11, 11, 5, 0, 3012] = true by decide +kernel) (isX11_L ho0) (by decide) (isX11_r11 ho0) ?_
          refine jEv.gfR (o' := (o0 + 60)) (show jfI 158 126 (.getfield 145) 3 [9, 2, 5, 0, 2069] = true by decide +kernel) (isX9_L (isX11_s11 ho0)) (by decide) (isX9_r2 (isX11_s11 ho0)) ?_
          refine jEv.gfI (show jfI 158 129 (.getfield 149) 3 [1, 2, 0, 0, 1214] = true by decide +kernel) (isX1_L (isX9_s2 (isX11_s11 ho0))) (by decide) ?_
          exact jEv.retI (show jfI 158 132 (.ireturn) 1 [] = true by decide +kernel) (by decide +kernel) (by cases H; exact HY)
        · refine jEv.tsO (t := 133) (show jfI 158 72 (.tableswitch 61 0 2 #[28, 39, 50]) 28 [] = true by decide +kernel) (by omega) rfl (by decide) ?_
          refine jEv.blk [(.iconst (-1), 1, [])] (by decide +kernel) (pc' := 134) (ls' := [(2, Int.ofNat o0), (0, v1), (0, v2), (0, v3)]) (st' := [(0, (-1))]) rfl ?_
          exact jEv.retI (show jfI 158 134 (.ireturn) 1 [] = true by decide +kernel) (by decide +kernel) (by cases H; exact HY)
theorem t_G_later_L47 {T : jT} {xs : List Int} {d : Nat} {y : jV × jS} (hd : 6 ≤ d) {h : jH}  {o0 : Nat} {v1 : Int} {v2 : Int} {v3 : Int} {out : (Int × jH)} (ho0 : isX11 T o0) (H : G_later_L47 T h o0 v1 v2 v3 = some out) (HY : ykI T y out) : jEv xs d (158, 47, [(2, Int.ofNat o0), (0, v1), (0, v2), (0, v3)], []) (T, h) y :=
  jloop_sound (G := fun s : (Int × jH) => jEv xs d (158, 47, [(2, Int.ofNat o0), (0, v1), (0, v2), (0, s.1)], []) (T, s.2) y) (K := yk_G_later_L47 T xs d y o0 v1 v2) (fun s out H HY => t_G_later_B47 hd ho0 H HY) (fun s' hg => hg) (s := (v3, h)) H HY
set_option maxRecDepth 20000 in
noncomputable def G_later (T : jT) (h : jH) (o0 : Nat) (v1 : Int) (v2 : Int) : Option (Int × jH) := Option.bind (G_isTold T h o0) (fun b1 => (if b1 = 0 then some ((-1), h) else (if v1 < 0 then some ((-1), h) else (if 100 < v1 then some ((-1), h) else (if 999 < (wr ((h (o0 + 35) 9) + v1)) then some ((-1), h) else Option.bind (St_copyFrom T h (o0 + 56) (o0 + 35)) (fun b6 => G_later_L47 T b6 o0 v1 v2 0))))))
set_option maxRecDepth 20000 in
theorem t_G_later {T : jT} {xs : List Int} {h : jH}  {o0 : Nat} {v1 : Int} {v2 : Int} {out : (Int × jH)} (ho0 : isX11 T o0) (H : G_later T h o0 v1 v2 = some out) : jEm xs 7 158 [(2, Int.ofNat o0), (0, v1), (0, v2)] (T, h) ((0, out.1), (T, out.2)) := by
  have hd : 6 ≤ 6 := Nat.le_refl _
  obtain ⟨y, ey⟩ : ∃ y : jV × jS, y = ((0, out.1), (T, out.2)) := ⟨_, rfl⟩
  rw [← ey]
  have HY : ykI T y out := ey
  refine jEm.ent (n := 4) (by decide +kernel) (Nat.le_of_ble_eq_true rfl) ?_
  show jEv xs 6 (158, 0, [(2, Int.ofNat o0), (0, v1), (0, v2), (3, 0)], []) (T, h) y
  unfold G_later at H
  refine jEv.blk [(.aload_n 0, 1, [])] (by decide +kernel) (pc' := 1) (ls' := [(2, Int.ofNat o0), (0, v1), (0, v2), (3, 0)]) (st' := [(2, Int.ofNat o0)]) rfl ?_
  refine jbind H (fun b1 Hb1 H => ?_)
  refine jEv.calV (st' := [(0, b1)]) (show jfI 158 1 (.invokevirtual 228) 3 [1, 152, 0, 5004] = true by decide +kernel) rfl (Or.inl rfl) rfl (Nat.le_of_ble_eq_true rfl) (by decide +kernel) (by decide) (isX11_L ho0) ((t_G_isTold (T := T) (xs := xs) ho0 Hb1).mono (jKle 1 hd)) rfl ?_
  refine jEv.if_eq (t := 32) (show jfI 158 4 (.ifCond .eq 28) 3 [] = true by decide +kernel) rfl H (fun c2 H => ?_) (fun c2 H => ?_)
  · refine jEv.blk [(.iconst (-1), 1, [])] (by decide +kernel) (pc' := 33) (ls' := [(2, Int.ofNat o0), (0, v1), (0, v2), (3, 0)]) (st' := [(0, (-1))]) rfl ?_
    exact jEv.retI (show jfI 158 33 (.ireturn) 1 [] = true by decide +kernel) (by decide +kernel) (by cases H; exact HY)
  · refine jEv.blk [(.iload_n 1, 1, [])] (by decide +kernel) (pc' := 8) (ls' := [(2, Int.ofNat o0), (0, v1), (0, v2), (3, 0)]) (st' := [(0, v1)]) rfl ?_
    refine jEv.if_lt (t := 32) (show jfI 158 8 (.ifCond .lt 24) 3 [] = true by decide +kernel) rfl H (fun c3 H => ?_) (fun c3 H => ?_)
    · refine jEv.blk [(.iconst (-1), 1, [])] (by decide +kernel) (pc' := 33) (ls' := [(2, Int.ofNat o0), (0, v1), (0, v2), (3, 0)]) (st' := [(0, (-1))]) rfl ?_
      exact jEv.retI (show jfI 158 33 (.ireturn) 1 [] = true by decide +kernel) (by decide +kernel) (by cases H; exact HY)
    · refine jEv.blk [(.iload_n 1, 1, []), (.bipush 100, 2, [])] (by decide +kernel) (pc' := 14) (ls' := [(2, Int.ofNat o0), (0, v1), (0, v2), (3, 0)]) (st' := [(0, 100), (0, v1)]) rfl ?_
      refine jEv.ic_gt (t := 32) (show jfI 158 14 (.if_icmp .gt 18) 3 [] = true by decide +kernel) rfl H (fun c4 H => ?_) (fun c4 H => ?_)
      · refine jEv.blk [(.iconst (-1), 1, [])] (by decide +kernel) (pc' := 33) (ls' := [(2, Int.ofNat o0), (0, v1), (0, v2), (3, 0)]) (st' := [(0, (-1))]) rfl ?_
        exact jEv.retI (show jfI 158 33 (.ireturn) 1 [] = true by decide +kernel) (by decide +kernel) (by cases H; exact HY)
      · refine jEv.blk [(.aload_n 0, 1, [])] (by decide +kernel) (pc' := 18) (ls' := [(2, Int.ofNat o0), (0, v1), (0, v2), (3, 0)]) (st' := [(2, Int.ofNat o0)]) rfl ?_
        refine jEv.gfR (o' := (o0 + 35)) (show jfI 158 18 (.getfield 45) 3 [11, 10, 5, 0, 3011] = true by decide +kernel) (isX11_L ho0) (by decide) (isX11_r10 ho0) ?_
        refine jEv.gfI (show jfI 158 21 (.getfield 127) 3 [9, 9, 0, 0, 2085] = true by decide +kernel) (isX9_L (isX11_s10 ho0)) (by decide) ?_
        refine jEv.blk [(.iload_n 1, 1, []), (.iadd, 1, []), (.sipush 999, 3, [])] (by decide +kernel) (pc' := 29) (ls' := [(2, Int.ofNat o0), (0, v1), (0, v2), (3, 0)]) (st' := [(0, 999), (0, (wr ((h (o0 + 35) 9) + v1)))]) rfl ?_
        refine jEv.ic_le (t := 34) (show jfI 158 29 (.if_icmp .le 5) 3 [] = true by decide +kernel) rfl H (fun c5 H => ?_) (fun c5 H => ?_)
        · refine jEv.blk [(.iconst (-1), 1, [])] (by decide +kernel) (pc' := 33) (ls' := [(2, Int.ofNat o0), (0, v1), (0, v2), (3, 0)]) (st' := [(0, (-1))]) rfl ?_
          exact jEv.retI (show jfI 158 33 (.ireturn) 1 [] = true by decide +kernel) (by decide +kernel) (by cases H; exact HY)
        · refine jEv.blk [(.aload_n 0, 1, [])] (by decide +kernel) (pc' := 35) (ls' := [(2, Int.ofNat o0), (0, v1), (0, v2), (3, 0)]) (st' := [(2, Int.ofNat o0)]) rfl ?_
          refine jEv.gfR (o' := (o0 + 56)) (show jfI 158 35 (.getfield 49) 3 [11, 11, 5, 0, 3012] = true by decide +kernel) (isX11_L ho0) (by decide) (isX11_r11 ho0) ?_
          refine jEv.blk [(.aload_n 0, 1, [])] (by decide +kernel) (pc' := 39) (ls' := [(2, Int.ofNat o0), (0, v1), (0, v2), (3, 0)]) (st' := [(2, Int.ofNat o0), (2, Int.ofNat (o0 + 56))]) rfl ?_
          refine jEv.gfR (o' := (o0 + 35)) (show jfI 158 39 (.getfield 45) 3 [11, 10, 5, 0, 3011] = true by decide +kernel) (isX11_L ho0) (by decide) (isX11_r10 ho0) ?_
          refine jbind H (fun b6 Hb6 H => ?_)
          refine jEv.calV (st' := []) (show jfI 158 42 (.invokevirtual 266) 3 [1, 114, 1, 5047] = true by decide +kernel) rfl (Or.inl rfl) rfl (Nat.le_of_ble_eq_true rfl) (by decide +kernel) (by decide) (isX9_L (isX11_s11 ho0)) ((t_St_copyFrom (T := T) (xs := xs) (isX11_s11 ho0) (isX11_s10 ho0) Hb6).mono (jKle 4 hd)) rfl ?_
          refine jEv.blk [(.iconst 0, 1, []), (.istore_n 3, 1, [])] (by decide +kernel) (pc' := 47) (ls' := [(2, Int.ofNat o0), (0, v1), (0, v2), (0, 0)]) (st' := []) rfl ?_
          exact t_G_later_L47 (T := T) (xs := xs) (y := y) hd ho0 H HY
def yk_G_when_L33 (T : jT) (xs : List Int) (d : Nat) (y : jV × jS)  (o0 : Nat) (v1 : Int) : ((Int × jH) ⊕ (Int × jH)) → Prop
  | .inl (v2, h) => jEv xs d (161, 33, [(2, Int.ofNat o0), (0, v1), (0, v2)], []) (T, h) y
  | .inr o => ykI T y o
set_option maxRecDepth 20000 in
noncomputable def G_when_B33 (T : jT) (h : jH) (o0 : Nat) (v1 : Int) (v2 : Int) : Option ((Int × jH) ⊕ (Int × jH)) := (if 100 < v2 then Option.map Sum.inr (some ((-1), h)) else (if v1 < (h (o0 + 63) 4) then Option.map Sum.inr (some (v2, h)) else (if (h (o0 + 56) 9) < 999 then Option.bind (St_passTick T h (o0 + 56) (o0 + 78) 0) (fun b8 => some (.inl ((wr (v2 + 1)), b8.2))) else Option.map Sum.inr (some ((-1), h)))))
noncomputable def G_when_L33 (T : jT) (h : jH) (o0 : Nat) (v1 : Int) (v2 : Int) : Option (Int × jH) := jloop (fun s : (Int × jH) => G_when_B33 T s.2 o0 v1 s.1) (v2, h)
set_option maxRecDepth 20000 in
theorem t_G_when_B33 {T : jT} {xs : List Int} {d : Nat} {y : jV × jS} (hd : 6 ≤ d) {h : jH}  {o0 : Nat} {v1 : Int} {v2 : Int} {out : ((Int × jH) ⊕ (Int × jH))} (ho0 : isX11 T o0) (H : G_when_B33 T h o0 v1 v2 = some out) (HY : yk_G_when_L33 T xs d y o0 v1 out) : jEv xs d (161, 33, [(2, Int.ofNat o0), (0, v1), (0, v2)], []) (T, h) y := by
  unfold G_when_B33 at H
  refine jEv.blk [(.iload_n 2, 1, []), (.bipush 100, 2, [])] (by decide +kernel) (pc' := 36) (ls' := [(2, Int.ofNat o0), (0, v1), (0, v2)]) (st' := [(0, 100), (0, v2)]) rfl ?_
  refine jEv.ic_gt (t := 89) (show jfI 161 36 (.if_icmp .gt 53) 3 [] = true by decide +kernel) rfl H (fun c5 H => ?_) (fun c5 H => ?_)
  · refine jmapr H HY (fun out H (HY : ykI T y out) => ?_)
    refine jEv.blk [(.iconst (-1), 1, [])] (by decide +kernel) (pc' := 90) (ls' := [(2, Int.ofNat o0), (0, v1), (0, v2)]) (st' := [(0, (-1))]) rfl ?_
    exact jEv.retI (show jfI 161 90 (.ireturn) 1 [] = true by decide +kernel) (by decide +kernel) (by cases H; exact HY)
  · refine jEv.blk [(.iload_n 1, 1, []), (.aload_n 0, 1, [])] (by decide +kernel) (pc' := 41) (ls' := [(2, Int.ofNat o0), (0, v1), (0, v2)]) (st' := [(2, Int.ofNat o0), (0, v1)]) rfl ?_
    refine jEv.gfR (o' := (o0 + 56)) (show jfI 161 41 (.getfield 49) 3 [11, 11, 5, 0, 3012] = true by decide +kernel) (isX11_L ho0) (by decide) (isX11_r11 ho0) ?_
    refine jEv.gfR (o' := (o0 + 63)) (show jfI 161 44 (.getfield 130) 3 [9, 3, 5, 0, 2073] = true by decide +kernel) (isX9_L (isX11_s11 ho0)) (by decide) (isX9_r3 (isX11_s11 ho0)) ?_
    refine jEv.gfI (show jfI 161 47 (.getfield 139) 3 [7, 4, 0, 0, 2008] = true by decide +kernel) (isX7_L (isX9_s3 (isX11_s11 ho0))) (by decide) ?_
    refine jEv.ic_ge (t := 55) (show jfI 161 50 (.if_icmp .ge 5) 3 [] = true by decide +kernel) rfl H (fun c6 H => ?_) (fun c6 H => ?_)
    · refine jmapr H HY (fun out H (HY : ykI T y out) => ?_)
      refine jEv.blk [(.iload_n 2, 1, [])] (by decide +kernel) (pc' := 54) (ls' := [(2, Int.ofNat o0), (0, v1), (0, v2)]) (st' := [(0, v2)]) rfl ?_
      exact jEv.retI (show jfI 161 54 (.ireturn) 1 [] = true by decide +kernel) (by decide +kernel) (by cases H; exact HY)
    · refine jEv.blk [(.aload_n 0, 1, [])] (by decide +kernel) (pc' := 56) (ls' := [(2, Int.ofNat o0), (0, v1), (0, v2)]) (st' := [(2, Int.ofNat o0)]) rfl ?_
      refine jEv.gfR (o' := (o0 + 56)) (show jfI 161 56 (.getfield 49) 3 [11, 11, 5, 0, 3012] = true by decide +kernel) (isX11_L ho0) (by decide) (isX11_r11 ho0) ?_
      refine jEv.gfI (show jfI 161 59 (.getfield 127) 3 [9, 9, 0, 0, 2085] = true by decide +kernel) (isX9_L (isX11_s11 ho0)) (by decide) ?_
      refine jEv.blk [(.sipush 999, 3, [])] (by decide +kernel) (pc' := 65) (ls' := [(2, Int.ofNat o0), (0, v1), (0, v2)]) (st' := [(0, 999), (0, (h (o0 + 56) 9))]) rfl ?_
      refine jEv.ic_lt (t := 70) (show jfI 161 65 (.if_icmp .lt 5) 3 [] = true by decide +kernel) rfl H (fun c7 H => ?_) (fun c7 H => ?_)
      · refine jEv.blk [(.aload_n 0, 1, [])] (by decide +kernel) (pc' := 71) (ls' := [(2, Int.ofNat o0), (0, v1), (0, v2)]) (st' := [(2, Int.ofNat o0)]) rfl ?_
        refine jEv.gfR (o' := (o0 + 56)) (show jfI 161 71 (.getfield 49) 3 [11, 11, 5, 0, 3012] = true by decide +kernel) (isX11_L ho0) (by decide) (isX11_r11 ho0) ?_
        refine jEv.blk [(.aload_n 0, 1, [])] (by decide +kernel) (pc' := 75) (ls' := [(2, Int.ofNat o0), (0, v1), (0, v2)]) (st' := [(2, Int.ofNat o0), (2, Int.ofNat (o0 + 56))]) rfl ?_
        refine jEv.gfR (o' := (o0 + 78)) (show jfI 161 75 (.getfield 59) 3 [11, 15, 5, 0, 3016] = true by decide +kernel) (isX11_L ho0) (by decide) (isX11_r15 ho0) ?_
        refine jEv.blk [(.iconst 0, 1, [])] (by decide +kernel) (pc' := 79) (ls' := [(2, Int.ofNat o0), (0, v1), (0, v2)]) (st' := [(0, 0), (2, Int.ofNat (o0 + 78)), (2, Int.ofNat (o0 + 56))]) rfl ?_
        refine jbind H (fun b8 Hb8 H => ?_)
        refine jEv.calV (st' := [(0, b8.1)]) (show jfI 161 79 (.invokevirtual 270) 3 [1, 115, 2, 5078] = true by decide +kernel) rfl (Or.inl rfl) rfl (Nat.le_of_ble_eq_true rfl) (by decide +kernel) (by decide) (isX9_L (isX11_s11 ho0)) ((t_St_passTick (T := T) (xs := xs) (isX11_s11 ho0) (isX11_s15 ho0) Hb8).mono (jKle 6 hd)) rfl ?_
        refine jEv.blk [(.pop, 1, []), (.iinc 2 1, 3, [])] (by decide +kernel) (pc' := 86) (ls' := [(2, Int.ofNat o0), (0, v1), (0, (wr (v2 + 1)))]) (st' := []) rfl ?_
        refine jEv.goto (t := 33) (show jfI 161 86 (.goto (-53)) 3 [] = true by decide +kernel) rfl ?_
        exact (by cases H; exact HY)
      · refine jmapr H HY (fun out H (HY : ykI T y out) => ?_)
        refine jEv.blk [(.iconst (-1), 1, [])] (by decide +kernel) (pc' := 69) (ls' := [(2, Int.ofNat o0), (0, v1), (0, v2)]) (st' := [(0, (-1))]) rfl ?_
        exact jEv.retI (show jfI 161 69 (.ireturn) 1 [] = true by decide +kernel) (by decide +kernel) (by cases H; exact HY)
theorem t_G_when_L33 {T : jT} {xs : List Int} {d : Nat} {y : jV × jS} (hd : 6 ≤ d) {h : jH}  {o0 : Nat} {v1 : Int} {v2 : Int} {out : (Int × jH)} (ho0 : isX11 T o0) (H : G_when_L33 T h o0 v1 v2 = some out) (HY : ykI T y out) : jEv xs d (161, 33, [(2, Int.ofNat o0), (0, v1), (0, v2)], []) (T, h) y :=
  jloop_sound (G := fun s : (Int × jH) => jEv xs d (161, 33, [(2, Int.ofNat o0), (0, v1), (0, s.1)], []) (T, s.2) y) (K := yk_G_when_L33 T xs d y o0 v1) (fun s out H HY => t_G_when_B33 hd ho0 H HY) (fun s' hg => hg) (s := (v2, h)) H HY
set_option maxRecDepth 20000 in
noncomputable def G_when (T : jT) (h : jH) (o0 : Nat) (v1 : Int) : Option (Int × jH) := (if v1 < 0 then some ((-1), h) else Option.bind (Qu_behindLast h (o0 + 42)) (fun b2 => (if v1 < b2 then Option.bind (St_copyFrom T h (o0 + 56) (o0 + 35)) (fun b4 => G_when_L33 T b4 o0 v1 0) else some ((-1), h))))
set_option maxRecDepth 20000 in
theorem t_G_when {T : jT} {xs : List Int} {h : jH}  {o0 : Nat} {v1 : Int} {out : (Int × jH)} (ho0 : isX11 T o0) (H : G_when T h o0 v1 = some out) : jEm xs 7 161 [(2, Int.ofNat o0), (0, v1)] (T, h) ((0, out.1), (T, out.2)) := by
  have hd : 6 ≤ 6 := Nat.le_refl _
  obtain ⟨y, ey⟩ : ∃ y : jV × jS, y = ((0, out.1), (T, out.2)) := ⟨_, rfl⟩
  rw [← ey]
  have HY : ykI T y out := ey
  refine jEm.ent (n := 3) (by decide +kernel) (Nat.le_of_ble_eq_true rfl) ?_
  show jEv xs 6 (161, 0, [(2, Int.ofNat o0), (0, v1), (3, 0)], []) (T, h) y
  unfold G_when at H
  refine jEv.blk [(.iload_n 1, 1, [])] (by decide +kernel) (pc' := 1) (ls' := [(2, Int.ofNat o0), (0, v1), (3, 0)]) (st' := [(0, v1)]) rfl ?_
  refine jEv.if_lt (t := 18) (show jfI 161 1 (.ifCond .lt 17) 3 [] = true by decide +kernel) rfl H (fun c1 H => ?_) (fun c1 H => ?_)
  · refine jEv.blk [(.iconst (-1), 1, [])] (by decide +kernel) (pc' := 19) (ls' := [(2, Int.ofNat o0), (0, v1), (3, 0)]) (st' := [(0, (-1))]) rfl ?_
    exact jEv.retI (show jfI 161 19 (.ireturn) 1 [] = true by decide +kernel) (by decide +kernel) (by cases H; exact HY)
  · refine jEv.blk [(.iload_n 1, 1, []), (.aload_n 0, 1, [])] (by decide +kernel) (pc' := 6) (ls' := [(2, Int.ofNat o0), (0, v1), (3, 0)]) (st' := [(2, Int.ofNat o0), (0, v1)]) rfl ?_
    refine jEv.gfR (o' := (o0 + 35)) (show jfI 161 6 (.getfield 45) 3 [11, 10, 5, 0, 3011] = true by decide +kernel) (isX11_L ho0) (by decide) (isX11_r10 ho0) ?_
    refine jEv.gfR (o' := (o0 + 42)) (show jfI 161 9 (.getfield 130) 3 [9, 3, 5, 0, 2073] = true by decide +kernel) (isX9_L (isX11_s10 ho0)) (by decide) (isX9_r3 (isX11_s10 ho0)) ?_
    refine jbind H (fun b2 Hb2 H => ?_)
    refine jEv.calV (st' := [(0, b2), (0, v1)]) (show jfI 161 12 (.invokevirtual 134) 3 [1, 94, 0, 4146] = true by decide +kernel) rfl (Or.inl rfl) rfl (Nat.le_of_ble_eq_true rfl) (by decide +kernel) (by decide) (isX7_L (isX9_s3 (isX11_s10 ho0))) ((t_Qu_behindLast (T := T) (xs := xs) (isX9_s3 (isX11_s10 ho0)) Hb2).mono (jKle 1 hd)) rfl ?_
    refine jEv.ic_lt (t := 20) (show jfI 161 15 (.if_icmp .lt 5) 3 [] = true by decide +kernel) rfl H (fun c3 H => ?_) (fun c3 H => ?_)
    · refine jEv.blk [(.aload_n 0, 1, [])] (by decide +kernel) (pc' := 21) (ls' := [(2, Int.ofNat o0), (0, v1), (3, 0)]) (st' := [(2, Int.ofNat o0)]) rfl ?_
      refine jEv.gfR (o' := (o0 + 56)) (show jfI 161 21 (.getfield 49) 3 [11, 11, 5, 0, 3012] = true by decide +kernel) (isX11_L ho0) (by decide) (isX11_r11 ho0) ?_
      refine jEv.blk [(.aload_n 0, 1, [])] (by decide +kernel) (pc' := 25) (ls' := [(2, Int.ofNat o0), (0, v1), (3, 0)]) (st' := [(2, Int.ofNat o0), (2, Int.ofNat (o0 + 56))]) rfl ?_
      refine jEv.gfR (o' := (o0 + 35)) (show jfI 161 25 (.getfield 45) 3 [11, 10, 5, 0, 3011] = true by decide +kernel) (isX11_L ho0) (by decide) (isX11_r10 ho0) ?_
      refine jbind H (fun b4 Hb4 H => ?_)
      refine jEv.calV (st' := []) (show jfI 161 28 (.invokevirtual 266) 3 [1, 114, 1, 5047] = true by decide +kernel) rfl (Or.inl rfl) rfl (Nat.le_of_ble_eq_true rfl) (by decide +kernel) (by decide) (isX9_L (isX11_s11 ho0)) ((t_St_copyFrom (T := T) (xs := xs) (isX11_s11 ho0) (isX11_s10 ho0) Hb4).mono (jKle 4 hd)) rfl ?_
      refine jEv.blk [(.iconst 0, 1, []), (.istore_n 2, 1, [])] (by decide +kernel) (pc' := 33) (ls' := [(2, Int.ofNat o0), (0, v1), (0, 0)]) (st' := []) rfl ?_
      exact t_G_when_L33 (T := T) (xs := xs) (y := y) hd ho0 H HY
    · refine jEv.blk [(.iconst (-1), 1, [])] (by decide +kernel) (pc' := 19) (ls' := [(2, Int.ofNat o0), (0, v1), (3, 0)]) (st' := [(0, (-1))]) rfl ?_
      exact jEv.retI (show jfI 161 19 (.ireturn) 1 [] = true by decide +kernel) (by decide +kernel) (by cases H; exact HY)
def yk_G_runByRule_L46 (T : jT) (xs : List Int) (d : Nat) (y : jV × jS)  (o0 : Nat) (v1 : Int) (v2 : Int) : ((Int × Int × jH) ⊕ (Int × jH)) → Prop
  | .inl (v3, v4, h) => jEv xs d (163, 46, [(2, Int.ofNat o0), (0, v1), (0, v2), (0, v3), (0, v4), (3, 0)], []) (T, h) y
  | .inr o => ykI T y o
set_option maxRecDepth 20000 in
noncomputable def G_runByRule_B46 (T : jT) (h : jH) (o0 : Nat) (v1 : Int) (v2 : Int) (v3 : Int) (v4 : Int) : Option ((Int × Int × jH) ⊕ (Int × jH)) := (if 100 < v4 then Option.map Sum.inr ((if 0 < (h (o0 + 63) 6) then some ((-1), h) else (if v2 = 0 then some (100, h) else some (v3, h)))) else (if (h (o0 + 63) 6) = 0 then Option.map Sum.inr ((if v2 = 0 then some ((wr (v4 - 1)), h) else some (v3, h))) else (if (h (o0 + 56) 9) < 999 then Option.bind (St_passTick T h (o0 + 56) (o0 + 78) v1) (fun b13 => some (.inl ((wr (v3 + (wr (v4 * (wr ((h (o0 + 63) 6) - (b13.2 (o0 + 63) 6))))))), (wr (v4 + 1)), b13.2))) else Option.map Sum.inr (some ((-1), h)))))
noncomputable def G_runByRule_L46 (T : jT) (h : jH) (o0 : Nat) (v1 : Int) (v2 : Int) (v3 : Int) (v4 : Int) : Option (Int × jH) := jloop (fun s : (Int × Int × jH) => G_runByRule_B46 T s.2.2 o0 v1 v2 s.1 s.2.1) (v3, v4, h)
set_option maxRecDepth 20000 in
theorem t_G_runByRule_B46 {T : jT} {xs : List Int} {d : Nat} {y : jV × jS} (hd : 6 ≤ d) {h : jH}  {o0 : Nat} {v1 : Int} {v2 : Int} {v3 : Int} {v4 : Int} {out : ((Int × Int × jH) ⊕ (Int × jH))} (ho0 : isX11 T o0) (H : G_runByRule_B46 T h o0 v1 v2 v3 v4 = some out) (HY : yk_G_runByRule_L46 T xs d y o0 v1 v2 out) : jEv xs d (163, 46, [(2, Int.ofNat o0), (0, v1), (0, v2), (0, v3), (0, v4), (3, 0)], []) (T, h) y := by
  unfold G_runByRule_B46 at H
  refine jEv.blk [(.iload 4, 2, []), (.bipush 100, 2, [])] (by decide +kernel) (pc' := 50) (ls' := [(2, Int.ofNat o0), (0, v1), (0, v2), (0, v3), (0, v4), (3, 0)]) (st' := [(0, 100), (0, v4)]) rfl ?_
  refine jEv.ic_gt (t := 144) (show jfI 163 50 (.if_icmp .gt 94) 3 [] = true by decide +kernel) rfl H (fun c7 H => ?_) (fun c7 H => ?_)
  · refine jmapr H HY (fun out H (HY : ykI T y out) => ?_)
    refine jEv.blk [(.aload_n 0, 1, [])] (by decide +kernel) (pc' := 145) (ls' := [(2, Int.ofNat o0), (0, v1), (0, v2), (0, v3), (0, v4), (3, 0)]) (st' := [(2, Int.ofNat o0)]) rfl ?_
    refine jEv.gfR (o' := (o0 + 56)) (show jfI 163 145 (.getfield 49) 3 [11, 11, 5, 0, 3012] = true by decide +kernel) (isX11_L ho0) (by decide) (isX11_r11 ho0) ?_
    refine jEv.gfR (o' := (o0 + 63)) (show jfI 163 148 (.getfield 130) 3 [9, 3, 5, 0, 2073] = true by decide +kernel) (isX9_L (isX11_s11 ho0)) (by decide) (isX9_r3 (isX11_s11 ho0)) ?_
    refine jEv.gfI (show jfI 163 151 (.getfield 461) 3 [7, 6, 0, 0, 2015] = true by decide +kernel) (isX7_L (isX9_s3 (isX11_s11 ho0))) (by decide) ?_
    refine jEv.if_le (t := 161) (show jfI 163 154 (.ifCond .le 7) 3 [] = true by decide +kernel) rfl H (fun c8 H => ?_) (fun c8 H => ?_)
    · refine jEv.blk [(.iconst (-1), 1, [])] (by decide +kernel) (pc' := 158) (ls' := [(2, Int.ofNat o0), (0, v1), (0, v2), (0, v3), (0, v4), (3, 0)]) (st' := [(0, (-1))]) rfl ?_
      refine jEv.goto (t := 171) (show jfI 163 158 (.goto 13) 3 [] = true by decide +kernel) rfl ?_
      exact jEv.retI (show jfI 163 171 (.ireturn) 1 [] = true by decide +kernel) (by decide +kernel) (by cases H; exact HY)
    · refine jEv.blk [(.iload_n 2, 1, [])] (by decide +kernel) (pc' := 162) (ls' := [(2, Int.ofNat o0), (0, v1), (0, v2), (0, v3), (0, v4), (3, 0)]) (st' := [(0, v2)]) rfl ?_
      refine jEv.if_eq (t := 169) (show jfI 163 162 (.ifCond .eq 7) 3 [] = true by decide +kernel) rfl H (fun c9 H => ?_) (fun c9 H => ?_)
      · refine jEv.blk [(.bipush 100, 2, [])] (by decide +kernel) (pc' := 171) (ls' := [(2, Int.ofNat o0), (0, v1), (0, v2), (0, v3), (0, v4), (3, 0)]) (st' := [(0, 100)]) rfl ?_
        exact jEv.retI (show jfI 163 171 (.ireturn) 1 [] = true by decide +kernel) (by decide +kernel) (by cases H; exact HY)
      · refine jEv.blk [(.iload_n 3, 1, [])] (by decide +kernel) (pc' := 166) (ls' := [(2, Int.ofNat o0), (0, v1), (0, v2), (0, v3), (0, v4), (3, 0)]) (st' := [(0, v3)]) rfl ?_
        refine jEv.goto (t := 171) (show jfI 163 166 (.goto 5) 3 [] = true by decide +kernel) rfl ?_
        exact jEv.retI (show jfI 163 171 (.ireturn) 1 [] = true by decide +kernel) (by decide +kernel) (by cases H; exact HY)
  · refine jEv.blk [(.aload_n 0, 1, [])] (by decide +kernel) (pc' := 54) (ls' := [(2, Int.ofNat o0), (0, v1), (0, v2), (0, v3), (0, v4), (3, 0)]) (st' := [(2, Int.ofNat o0)]) rfl ?_
    refine jEv.gfR (o' := (o0 + 56)) (show jfI 163 54 (.getfield 49) 3 [11, 11, 5, 0, 3012] = true by decide +kernel) (isX11_L ho0) (by decide) (isX11_r11 ho0) ?_
    refine jEv.gfR (o' := (o0 + 63)) (show jfI 163 57 (.getfield 130) 3 [9, 3, 5, 0, 2073] = true by decide +kernel) (isX9_L (isX11_s11 ho0)) (by decide) (isX9_r3 (isX11_s11 ho0)) ?_
    refine jEv.gfI (show jfI 163 60 (.getfield 461) 3 [7, 6, 0, 0, 2015] = true by decide +kernel) (isX7_L (isX9_s3 (isX11_s11 ho0))) (by decide) ?_
    refine jEv.if_ne (t := 79) (show jfI 163 63 (.ifCond .ne 16) 3 [] = true by decide +kernel) rfl H (fun c10 H => ?_) (fun c10 H => ?_)
    · refine jmapr H HY (fun out H (HY : ykI T y out) => ?_)
      refine jEv.blk [(.iload_n 2, 1, [])] (by decide +kernel) (pc' := 67) (ls' := [(2, Int.ofNat o0), (0, v1), (0, v2), (0, v3), (0, v4), (3, 0)]) (st' := [(0, v2)]) rfl ?_
      refine jEv.if_eq (t := 74) (show jfI 163 67 (.ifCond .eq 7) 3 [] = true by decide +kernel) rfl H (fun c11 H => ?_) (fun c11 H => ?_)
      · refine jEv.blk [(.iload 4, 2, []), (.iconst 1, 1, []), (.isub, 1, [])] (by decide +kernel) (pc' := 78) (ls' := [(2, Int.ofNat o0), (0, v1), (0, v2), (0, v3), (0, v4), (3, 0)]) (st' := [(0, (wr (v4 - 1)))]) rfl ?_
        exact jEv.retI (show jfI 163 78 (.ireturn) 1 [] = true by decide +kernel) (by decide +kernel) (by cases H; exact HY)
      · refine jEv.blk [(.iload_n 3, 1, [])] (by decide +kernel) (pc' := 71) (ls' := [(2, Int.ofNat o0), (0, v1), (0, v2), (0, v3), (0, v4), (3, 0)]) (st' := [(0, v3)]) rfl ?_
        refine jEv.goto (t := 78) (show jfI 163 71 (.goto 7) 3 [] = true by decide +kernel) rfl ?_
        exact jEv.retI (show jfI 163 78 (.ireturn) 1 [] = true by decide +kernel) (by decide +kernel) (by cases H; exact HY)
    · refine jEv.blk [(.aload_n 0, 1, [])] (by decide +kernel) (pc' := 80) (ls' := [(2, Int.ofNat o0), (0, v1), (0, v2), (0, v3), (0, v4), (3, 0)]) (st' := [(2, Int.ofNat o0)]) rfl ?_
      refine jEv.gfR (o' := (o0 + 56)) (show jfI 163 80 (.getfield 49) 3 [11, 11, 5, 0, 3012] = true by decide +kernel) (isX11_L ho0) (by decide) (isX11_r11 ho0) ?_
      refine jEv.gfI (show jfI 163 83 (.getfield 127) 3 [9, 9, 0, 0, 2085] = true by decide +kernel) (isX9_L (isX11_s11 ho0)) (by decide) ?_
      refine jEv.blk [(.sipush 999, 3, [])] (by decide +kernel) (pc' := 89) (ls' := [(2, Int.ofNat o0), (0, v1), (0, v2), (0, v3), (0, v4), (3, 0)]) (st' := [(0, 999), (0, (h (o0 + 56) 9))]) rfl ?_
      refine jEv.ic_lt (t := 94) (show jfI 163 89 (.if_icmp .lt 5) 3 [] = true by decide +kernel) rfl H (fun c12 H => ?_) (fun c12 H => ?_)
      · refine jEv.blk [(.aload_n 0, 1, [])] (by decide +kernel) (pc' := 95) (ls' := [(2, Int.ofNat o0), (0, v1), (0, v2), (0, v3), (0, v4), (3, 0)]) (st' := [(2, Int.ofNat o0)]) rfl ?_
        refine jEv.gfR (o' := (o0 + 56)) (show jfI 163 95 (.getfield 49) 3 [11, 11, 5, 0, 3012] = true by decide +kernel) (isX11_L ho0) (by decide) (isX11_r11 ho0) ?_
        refine jEv.gfR (o' := (o0 + 63)) (show jfI 163 98 (.getfield 130) 3 [9, 3, 5, 0, 2073] = true by decide +kernel) (isX9_L (isX11_s11 ho0)) (by decide) (isX9_r3 (isX11_s11 ho0)) ?_
        refine jEv.gfI (show jfI 163 101 (.getfield 461) 3 [7, 6, 0, 0, 2015] = true by decide +kernel) (isX7_L (isX9_s3 (isX11_s11 ho0))) (by decide) ?_
        refine jEv.blk [(.istore 5, 2, []), (.aload_n 0, 1, [])] (by decide +kernel) (pc' := 107) (ls' := [(2, Int.ofNat o0), (0, v1), (0, v2), (0, v3), (0, v4), (0, (h (o0 + 63) 6))]) (st' := [(2, Int.ofNat o0)]) rfl ?_
        refine jEv.gfR (o' := (o0 + 56)) (show jfI 163 107 (.getfield 49) 3 [11, 11, 5, 0, 3012] = true by decide +kernel) (isX11_L ho0) (by decide) (isX11_r11 ho0) ?_
        refine jEv.blk [(.aload_n 0, 1, [])] (by decide +kernel) (pc' := 111) (ls' := [(2, Int.ofNat o0), (0, v1), (0, v2), (0, v3), (0, v4), (0, (h (o0 + 63) 6))]) (st' := [(2, Int.ofNat o0), (2, Int.ofNat (o0 + 56))]) rfl ?_
        refine jEv.gfR (o' := (o0 + 78)) (show jfI 163 111 (.getfield 59) 3 [11, 15, 5, 0, 3016] = true by decide +kernel) (isX11_L ho0) (by decide) (isX11_r15 ho0) ?_
        refine jEv.blk [(.iload_n 1, 1, [])] (by decide +kernel) (pc' := 115) (ls' := [(2, Int.ofNat o0), (0, v1), (0, v2), (0, v3), (0, v4), (0, (h (o0 + 63) 6))]) (st' := [(0, v1), (2, Int.ofNat (o0 + 78)), (2, Int.ofNat (o0 + 56))]) rfl ?_
        refine jbind H (fun b13 Hb13 H => ?_)
        refine jEv.calV (st' := [(0, b13.1)]) (show jfI 163 115 (.invokevirtual 270) 3 [1, 115, 2, 5078] = true by decide +kernel) rfl (Or.inl rfl) rfl (Nat.le_of_ble_eq_true rfl) (by decide +kernel) (by decide) (isX9_L (isX11_s11 ho0)) ((t_St_passTick (T := T) (xs := xs) (isX11_s11 ho0) (isX11_s15 ho0) Hb13).mono (jKle 6 hd)) rfl ?_
        refine jEv.blk [(.pop, 1, []), (.iload_n 3, 1, []), (.iload 4, 2, []), (.iload 5, 2, []), (.aload_n 0, 1, [])] (by decide +kernel) (pc' := 125) (ls' := [(2, Int.ofNat o0), (0, v1), (0, v2), (0, v3), (0, v4), (0, (h (o0 + 63) 6))]) (st' := [(2, Int.ofNat o0), (0, (h (o0 + 63) 6)), (0, v4), (0, v3)]) rfl ?_
        refine jEv.gfR (o' := (o0 + 56)) (show jfI 163 125 (.getfield 49) 3 [11, 11, 5, 0, 3012] = true by decide +kernel) (isX11_L ho0) (by decide) (isX11_r11 ho0) ?_
        refine jEv.gfR (o' := (o0 + 63)) (show jfI 163 128 (.getfield 130) 3 [9, 3, 5, 0, 2073] = true by decide +kernel) (isX9_L (isX11_s11 ho0)) (by decide) (isX9_r3 (isX11_s11 ho0)) ?_
        refine jEv.gfI (show jfI 163 131 (.getfield 461) 3 [7, 6, 0, 0, 2015] = true by decide +kernel) (isX7_L (isX9_s3 (isX11_s11 ho0))) (by decide) ?_
        refine jEv.blk [(.isub, 1, []), (.imul, 1, []), (.iadd, 1, []), (.istore_n 3, 1, []), (.iinc 4 1, 3, [])] (by decide +kernel) (pc' := 141) (ls' := [(2, Int.ofNat o0), (0, v1), (0, v2), (0, (wr (v3 + (wr (v4 * (wr ((h (o0 + 63) 6) - (b13.2 (o0 + 63) 6)))))))), (0, (wr (v4 + 1))), (0, (h (o0 + 63) 6))]) (st' := []) rfl ?_
        refine jEv.goto (t := 46) (show jfI 163 141 (.goto (-95)) 3 [] = true by decide +kernel) rfl ?_
        exact jEv.weak (a := [(2, Int.ofNat o0), (0, v1), (0, v2), (0, (wr (v3 + (wr (v4 * (wr ((h (o0 + 63) 6) - (b13.2 (o0 + 63) 6)))))))), (0, (wr (v4 + 1))), (3, 0)]) (jles.c1 (jles.c1 (jles.c1 (jles.c1 (jles.c1 (jles.c0 jles.nl)))))) ((by cases H; exact HY))
      · refine jmapr H HY (fun out H (HY : ykI T y out) => ?_)
        refine jEv.blk [(.iconst (-1), 1, [])] (by decide +kernel) (pc' := 93) (ls' := [(2, Int.ofNat o0), (0, v1), (0, v2), (0, v3), (0, v4), (3, 0)]) (st' := [(0, (-1))]) rfl ?_
        exact jEv.retI (show jfI 163 93 (.ireturn) 1 [] = true by decide +kernel) (by decide +kernel) (by cases H; exact HY)
theorem t_G_runByRule_L46 {T : jT} {xs : List Int} {d : Nat} {y : jV × jS} (hd : 6 ≤ d) {h : jH}  {o0 : Nat} {v1 : Int} {v2 : Int} {v3 : Int} {v4 : Int} {out : (Int × jH)} (ho0 : isX11 T o0) (H : G_runByRule_L46 T h o0 v1 v2 v3 v4 = some out) (HY : ykI T y out) : jEv xs d (163, 46, [(2, Int.ofNat o0), (0, v1), (0, v2), (0, v3), (0, v4), (3, 0)], []) (T, h) y :=
  jloop_sound (G := fun s : (Int × Int × jH) => jEv xs d (163, 46, [(2, Int.ofNat o0), (0, v1), (0, v2), (0, s.1), (0, s.2.1), (3, 0)], []) (T, s.2.2) y) (K := yk_G_runByRule_L46 T xs d y o0 v1 v2) (fun s out H HY => t_G_runByRule_B46 hd ho0 H HY) (fun s' hg => hg) (s := (v3, v4, h)) H HY
set_option maxRecDepth 20000 in
noncomputable def G_runByRule (T : jT) (h : jH) (o0 : Nat) (v1 : Int) (v2 : Int) : Option (Int × jH) := Option.bind (G_isTold T h o0) (fun b1 => (if b1 = 0 then some ((-1), h) else (if (h (o0 + 35) 14) = 0 then (if v1 < 1 then some ((-1), h) else (if 8 < v1 then some ((-1), h) else Option.bind (St_copyFrom T h (o0 + 56) (o0 + 35)) (fun b6 => G_runByRule_L46 T b6 o0 v1 v2 0 1))) else some ((-1), h))))
set_option maxRecDepth 20000 in
theorem t_G_runByRule {T : jT} {xs : List Int} {h : jH}  {o0 : Nat} {v1 : Int} {v2 : Int} {out : (Int × jH)} (ho0 : isX11 T o0) (H : G_runByRule T h o0 v1 v2 = some out) : jEm xs 7 163 [(2, Int.ofNat o0), (0, v1), (0, v2)] (T, h) ((0, out.1), (T, out.2)) := by
  have hd : 6 ≤ 6 := Nat.le_refl _
  obtain ⟨y, ey⟩ : ∃ y : jV × jS, y = ((0, out.1), (T, out.2)) := ⟨_, rfl⟩
  rw [← ey]
  have HY : ykI T y out := ey
  refine jEm.ent (n := 6) (by decide +kernel) (Nat.le_of_ble_eq_true rfl) ?_
  show jEv xs 6 (163, 0, [(2, Int.ofNat o0), (0, v1), (0, v2), (3, 0), (3, 0), (3, 0)], []) (T, h) y
  unfold G_runByRule at H
  refine jEv.blk [(.aload_n 0, 1, [])] (by decide +kernel) (pc' := 1) (ls' := [(2, Int.ofNat o0), (0, v1), (0, v2), (3, 0), (3, 0), (3, 0)]) (st' := [(2, Int.ofNat o0)]) rfl ?_
  refine jbind H (fun b1 Hb1 H => ?_)
  refine jEv.calV (st' := [(0, b1)]) (show jfI 163 1 (.invokevirtual 228) 3 [1, 152, 0, 5004] = true by decide +kernel) rfl (Or.inl rfl) rfl (Nat.le_of_ble_eq_true rfl) (by decide +kernel) (by decide) (isX11_L ho0) ((t_G_isTold (T := T) (xs := xs) ho0 Hb1).mono (jKle 1 hd)) rfl ?_
  refine jEv.if_eq (t := 28) (show jfI 163 4 (.ifCond .eq 24) 3 [] = true by decide +kernel) rfl H (fun c2 H => ?_) (fun c2 H => ?_)
  · refine jEv.blk [(.iconst (-1), 1, [])] (by decide +kernel) (pc' := 29) (ls' := [(2, Int.ofNat o0), (0, v1), (0, v2), (3, 0), (3, 0), (3, 0)]) (st' := [(0, (-1))]) rfl ?_
    exact jEv.retI (show jfI 163 29 (.ireturn) 1 [] = true by decide +kernel) (by decide +kernel) (by cases H; exact HY)
  · refine jEv.blk [(.aload_n 0, 1, [])] (by decide +kernel) (pc' := 8) (ls' := [(2, Int.ofNat o0), (0, v1), (0, v2), (3, 0), (3, 0), (3, 0)]) (st' := [(2, Int.ofNat o0)]) rfl ?_
    refine jEv.gfR (o' := (o0 + 35)) (show jfI 163 8 (.getfield 45) 3 [11, 10, 5, 0, 3011] = true by decide +kernel) (isX11_L ho0) (by decide) (isX11_r10 ho0) ?_
    refine jEv.gfI (show jfI 163 11 (.getfield 179) 3 [9, 14, 0, 1, 2099] = true by decide +kernel) (isX9_L (isX11_s10 ho0)) (by decide) ?_
    refine jEv.if_ne (t := 28) (show jfI 163 14 (.ifCond .ne 14) 3 [] = true by decide +kernel) rfl H (fun c3 H => ?_) (fun c3 H => ?_)
    · refine jEv.blk [(.iload_n 1, 1, []), (.iconst 1, 1, [])] (by decide +kernel) (pc' := 19) (ls' := [(2, Int.ofNat o0), (0, v1), (0, v2), (3, 0), (3, 0), (3, 0)]) (st' := [(0, 1), (0, v1)]) rfl ?_
      refine jEv.ic_lt (t := 28) (show jfI 163 19 (.if_icmp .lt 9) 3 [] = true by decide +kernel) rfl H (fun c4 H => ?_) (fun c4 H => ?_)
      · refine jEv.blk [(.iconst (-1), 1, [])] (by decide +kernel) (pc' := 29) (ls' := [(2, Int.ofNat o0), (0, v1), (0, v2), (3, 0), (3, 0), (3, 0)]) (st' := [(0, (-1))]) rfl ?_
        exact jEv.retI (show jfI 163 29 (.ireturn) 1 [] = true by decide +kernel) (by decide +kernel) (by cases H; exact HY)
      · refine jEv.blk [(.iload_n 1, 1, []), (.bipush 8, 2, [])] (by decide +kernel) (pc' := 25) (ls' := [(2, Int.ofNat o0), (0, v1), (0, v2), (3, 0), (3, 0), (3, 0)]) (st' := [(0, 8), (0, v1)]) rfl ?_
        refine jEv.ic_le (t := 30) (show jfI 163 25 (.if_icmp .le 5) 3 [] = true by decide +kernel) rfl H (fun c5 H => ?_) (fun c5 H => ?_)
        · refine jEv.blk [(.iconst (-1), 1, [])] (by decide +kernel) (pc' := 29) (ls' := [(2, Int.ofNat o0), (0, v1), (0, v2), (3, 0), (3, 0), (3, 0)]) (st' := [(0, (-1))]) rfl ?_
          exact jEv.retI (show jfI 163 29 (.ireturn) 1 [] = true by decide +kernel) (by decide +kernel) (by cases H; exact HY)
        · refine jEv.blk [(.aload_n 0, 1, [])] (by decide +kernel) (pc' := 31) (ls' := [(2, Int.ofNat o0), (0, v1), (0, v2), (3, 0), (3, 0), (3, 0)]) (st' := [(2, Int.ofNat o0)]) rfl ?_
          refine jEv.gfR (o' := (o0 + 56)) (show jfI 163 31 (.getfield 49) 3 [11, 11, 5, 0, 3012] = true by decide +kernel) (isX11_L ho0) (by decide) (isX11_r11 ho0) ?_
          refine jEv.blk [(.aload_n 0, 1, [])] (by decide +kernel) (pc' := 35) (ls' := [(2, Int.ofNat o0), (0, v1), (0, v2), (3, 0), (3, 0), (3, 0)]) (st' := [(2, Int.ofNat o0), (2, Int.ofNat (o0 + 56))]) rfl ?_
          refine jEv.gfR (o' := (o0 + 35)) (show jfI 163 35 (.getfield 45) 3 [11, 10, 5, 0, 3011] = true by decide +kernel) (isX11_L ho0) (by decide) (isX11_r10 ho0) ?_
          refine jbind H (fun b6 Hb6 H => ?_)
          refine jEv.calV (st' := []) (show jfI 163 38 (.invokevirtual 266) 3 [1, 114, 1, 5047] = true by decide +kernel) rfl (Or.inl rfl) rfl (Nat.le_of_ble_eq_true rfl) (by decide +kernel) (by decide) (isX9_L (isX11_s11 ho0)) ((t_St_copyFrom (T := T) (xs := xs) (isX11_s11 ho0) (isX11_s10 ho0) Hb6).mono (jKle 4 hd)) rfl ?_
          refine jEv.blk [(.iconst 0, 1, []), (.istore_n 3, 1, []), (.iconst 1, 1, []), (.istore 4, 2, [])] (by decide +kernel) (pc' := 46) (ls' := [(2, Int.ofNat o0), (0, v1), (0, v2), (0, 0), (0, 1), (3, 0)]) (st' := []) rfl ?_
          exact t_G_runByRule_L46 (T := T) (xs := xs) (y := y) hd ho0 H HY
    · refine jEv.blk [(.iconst (-1), 1, [])] (by decide +kernel) (pc' := 29) (ls' := [(2, Int.ofNat o0), (0, v1), (0, v2), (3, 0), (3, 0), (3, 0)]) (st' := [(0, (-1))]) rfl ?_
      exact jEv.retI (show jfI 163 29 (.ireturn) 1 [] = true by decide +kernel) (by decide +kernel) (by cases H; exact HY)
set_option maxRecDepth 20000 in
noncomputable def G_rule_p21 (T : jT) (h : jH) (os0 : Nat) (vs1 : Int) (vs2 : Int) : Option (Int × jH) := Option.bind (G_runByRule T h os0 vs1 vs2) (fun b4 => some (b4.1, b4.2))
set_option maxRecDepth 20000 in
theorem t_G_rule_p21 {T : jT} {xs : List Int} {d : Nat} {y : jV × jS} (hd : 7 ≤ d) {h : jH}  {os0 : Nat} {vs1 : Int} {vs2 : Int} {out : (Int × jH)} (hos0 : isX11 T os0) (H : G_rule_p21 T h os0 vs1 vs2 = some out) (HY : ykI T y out) : jEv xs d (162, 21, [(3, 0), (3, 0), (3, 0)], [(0, vs2), (0, vs1), (2, Int.ofNat os0)]) (T, h) y := by
  unfold G_rule_p21 at H
  refine jbind H (fun b4 Hb4 H => ?_)
  refine jEv.calV (st' := [(0, b4.1)]) (show jfI 162 21 (.invokevirtual 274) 3 [1, 163, 2, 5236] = true by decide +kernel) rfl (Or.inl rfl) rfl (Nat.le_of_ble_eq_true rfl) (by decide +kernel) (by decide) (isX11_L hos0) ((t_G_runByRule (T := T) (xs := xs) hos0 Hb4).mono (jKle 7 hd)) rfl ?_
  refine jEv.goto (t := 28) (show jfI 162 24 (.goto 4) 3 [] = true by decide +kernel) rfl ?_
  exact jEv.retI (show jfI 162 28 (.ireturn) 1 [] = true by decide +kernel) (by decide +kernel) (by cases H; exact HY)
set_option maxRecDepth 20000 in
noncomputable def G_rule_p9 (T : jT) (h : jH) (o0 : Nat) (v1 : Int) (v2 : Int) : Option (Int × jH) := (if v2 = 1 then G_rule_p21 T h o0 v1 1 else G_rule_p21 T h o0 v1 0)
set_option maxRecDepth 20000 in
theorem t_G_rule_p9 {T : jT} {xs : List Int} {d : Nat} {y : jV × jS} (hd : 7 ≤ d) {h : jH}  {o0 : Nat} {v1 : Int} {v2 : Int} {out : (Int × jH)} (ho0 : isX11 T o0) (H : G_rule_p9 T h o0 v1 v2 = some out) (HY : ykI T y out) : jEv xs d (162, 9, [(2, Int.ofNat o0), (0, v1), (0, v2)], []) (T, h) y := by
  unfold G_rule_p9 at H
  refine jEv.blk [(.aload_n 0, 1, []), (.iload_n 1, 1, []), (.iload_n 2, 1, []), (.iconst 1, 1, [])] (by decide +kernel) (pc' := 13) (ls' := [(2, Int.ofNat o0), (0, v1), (0, v2)]) (st' := [(0, 1), (0, v2), (0, v1), (2, Int.ofNat o0)]) rfl ?_
  refine jEv.ic_ne (t := 20) (show jfI 162 13 (.if_icmp .ne 7) 3 [] = true by decide +kernel) rfl H (fun c3 H => ?_) (fun c3 H => ?_)
  · refine jEv.blk [(.iconst 1, 1, [])] (by decide +kernel) (pc' := 17) (ls' := [(2, Int.ofNat o0), (0, v1), (0, v2)]) (st' := [(0, 1), (0, v1), (2, Int.ofNat o0)]) rfl ?_
    refine jEv.goto (t := 21) (show jfI 162 17 (.goto 4) 3 [] = true by decide +kernel) rfl ?_
    exact jEv.weak (a := [(3, 0), (3, 0), (3, 0)]) (jles.c0 (jles.c0 (jles.c0 jles.nl))) (t_G_rule_p21 (T := T) (xs := xs) (y := y) hd ho0 H HY)
  · refine jEv.blk [(.iconst 0, 1, [])] (by decide +kernel) (pc' := 21) (ls' := [(2, Int.ofNat o0), (0, v1), (0, v2)]) (st' := [(0, 0), (0, v1), (2, Int.ofNat o0)]) rfl ?_
    exact jEv.weak (a := [(3, 0), (3, 0), (3, 0)]) (jles.c0 (jles.c0 (jles.c0 jles.nl))) (t_G_rule_p21 (T := T) (xs := xs) (y := y) hd ho0 H HY)
set_option maxRecDepth 20000 in
noncomputable def G_rule (T : jT) (h : jH) (o0 : Nat) (v1 : Int) (v2 : Int) : Option (Int × jH) := (if v2 = 0 then G_rule_p9 T h o0 v1 v2 else (if v2 = 1 then G_rule_p9 T h o0 v1 v2 else some ((-1), h)))
set_option maxRecDepth 20000 in
theorem t_G_rule {T : jT} {xs : List Int} {h : jH}  {o0 : Nat} {v1 : Int} {v2 : Int} {out : (Int × jH)} (ho0 : isX11 T o0) (H : G_rule T h o0 v1 v2 = some out) : jEm xs 8 162 [(2, Int.ofNat o0), (0, v1), (0, v2)] (T, h) ((0, out.1), (T, out.2)) := by
  have hd : 7 ≤ 7 := Nat.le_refl _
  obtain ⟨y, ey⟩ : ∃ y : jV × jS, y = ((0, out.1), (T, out.2)) := ⟨_, rfl⟩
  rw [← ey]
  have HY : ykI T y out := ey
  refine jEm.ent (n := 3) (by decide +kernel) (Nat.le_of_ble_eq_true rfl) ?_
  show jEv xs 7 (162, 0, [(2, Int.ofNat o0), (0, v1), (0, v2)], []) (T, h) y
  unfold G_rule at H
  refine jEv.blk [(.iload_n 2, 1, [])] (by decide +kernel) (pc' := 1) (ls' := [(2, Int.ofNat o0), (0, v1), (0, v2)]) (st' := [(0, v2)]) rfl ?_
  refine jEv.if_eq (t := 9) (show jfI 162 1 (.ifCond .eq 8) 3 [] = true by decide +kernel) rfl H (fun c1 H => ?_) (fun c1 H => ?_)
  · exact t_G_rule_p9 (T := T) (xs := xs) (y := y) hd ho0 H HY
  · refine jEv.blk [(.iload_n 2, 1, []), (.iconst 1, 1, [])] (by decide +kernel) (pc' := 6) (ls' := [(2, Int.ofNat o0), (0, v1), (0, v2)]) (st' := [(0, 1), (0, v2)]) rfl ?_
    refine jEv.ic_ne (t := 27) (show jfI 162 6 (.if_icmp .ne 21) 3 [] = true by decide +kernel) rfl H (fun c2 H => ?_) (fun c2 H => ?_)
    · exact t_G_rule_p9 (T := T) (xs := xs) (y := y) hd ho0 H HY
    · refine jEv.blk [(.iconst (-1), 1, [])] (by decide +kernel) (pc' := 28) (ls' := [(2, Int.ofNat o0), (0, v1), (0, v2)]) (st' := [(0, (-1))]) rfl ?_
      exact jEv.retI (show jfI 162 28 (.ireturn) 1 [] = true by decide +kernel) (by decide +kernel) (by cases H; exact HY)
def yk_G_best_L7 (T : jT) (xs : List Int) (d : Nat) (y : jV × jS)  (o0 : Nat) (v1 : Int) : ((Int × Int × Int × jH) ⊕ (Int × jH)) → Prop
  | .inl (v2, v3, v4, h) => jEv xs d (164, 7, [(2, Int.ofNat o0), (0, v1), (0, v2), (0, v3), (0, v4), (3, 0)], []) (T, h) y
  | .inr o => ykI T y o
set_option maxRecDepth 20000 in
noncomputable def G_best_p40 (T : jT) (h : jH) (o0 : Nat) (v1 : Int) (v4 : Int) (v5 : Int) : Option ((Int × Int × Int × jH) ⊕ (Int × jH)) := some (.inl (v5, v4, (wr (v4 + 1)), h))
set_option maxRecDepth 20000 in
theorem t_G_best_p40 {T : jT} {xs : List Int} {d : Nat} {y : jV × jS} (hd : 7 ≤ d) {h : jH}  {o0 : Nat} {v1 : Int} {v4 : Int} {v5 : Int} {out : ((Int × Int × Int × jH) ⊕ (Int × jH))} (ho0 : isX11 T o0) (H : G_best_p40 T h o0 v1 v4 v5 = some out) (HY : yk_G_best_L7 T xs d y o0 v1 out) : jEv xs d (164, 40, [(2, Int.ofNat o0), (0, v1), (3, 0), (3, 0), (0, v4), (0, v5)], []) (T, h) y := by
  unfold G_best_p40 at H
  refine jEv.blk [(.iload 5, 2, []), (.istore_n 2, 1, []), (.iload 4, 2, []), (.istore_n 3, 1, [])] (by decide +kernel) (pc' := 46) (ls' := [(2, Int.ofNat o0), (0, v1), (0, v5), (0, v4), (0, v4), (0, v5)]) (st' := []) rfl ?_
  refine jEv.blk [(.iinc 4 1, 3, [])] (by decide +kernel) (pc' := 49) (ls' := [(2, Int.ofNat o0), (0, v1), (0, v5), (0, v4), (0, (wr (v4 + 1))), (0, v5)]) (st' := []) rfl ?_
  refine jEv.goto (t := 7) (show jfI 164 49 (.goto (-42)) 3 [] = true by decide +kernel) rfl ?_
  exact jEv.weak (a := [(2, Int.ofNat o0), (0, v1), (0, v5), (0, v4), (0, (wr (v4 + 1))), (3, 0)]) (jles.c1 (jles.c1 (jles.c1 (jles.c1 (jles.c1 (jles.c0 jles.nl)))))) ((by cases H; exact HY))
set_option maxRecDepth 20000 in
noncomputable def G_best_B7 (T : jT) (h : jH) (o0 : Nat) (v1 : Int) (v2 : Int) (v3 : Int) (v4 : Int) : Option ((Int × Int × Int × jH) ⊕ (Int × jH)) := (if 8 < v4 then Option.map Sum.inr ((if v1 = 0 then some (v3, h) else (if v1 = 1 then some (v2, h) else some ((-1), h)))) else Option.bind (G_runByRule T h o0 v4 1) (fun b4 => (if b4.1 = (-1) then some (.inl (v2, v3, (wr (v4 + 1)), b4.2)) else (if v2 = (-1) then G_best_p40 T b4.2 o0 v1 v4 b4.1 else (if b4.1 < v2 then G_best_p40 T b4.2 o0 v1 v4 b4.1 else some (.inl (v2, v3, (wr (v4 + 1)), b4.2)))))))
noncomputable def G_best_L7 (T : jT) (h : jH) (o0 : Nat) (v1 : Int) (v2 : Int) (v3 : Int) (v4 : Int) : Option (Int × jH) := jloop (fun s : (Int × Int × Int × jH) => G_best_B7 T s.2.2.2 o0 v1 s.1 s.2.1 s.2.2.1) (v2, v3, v4, h)
set_option maxRecDepth 20000 in
theorem t_G_best_B7 {T : jT} {xs : List Int} {d : Nat} {y : jV × jS} (hd : 7 ≤ d) {h : jH}  {o0 : Nat} {v1 : Int} {v2 : Int} {v3 : Int} {v4 : Int} {out : ((Int × Int × Int × jH) ⊕ (Int × jH))} (ho0 : isX11 T o0) (H : G_best_B7 T h o0 v1 v2 v3 v4 = some out) (HY : yk_G_best_L7 T xs d y o0 v1 out) : jEv xs d (164, 7, [(2, Int.ofNat o0), (0, v1), (0, v2), (0, v3), (0, v4), (3, 0)], []) (T, h) y := by
  unfold G_best_B7 at H
  refine jEv.blk [(.iload 4, 2, []), (.bipush 8, 2, [])] (by decide +kernel) (pc' := 11) (ls' := [(2, Int.ofNat o0), (0, v1), (0, v2), (0, v3), (0, v4), (3, 0)]) (st' := [(0, 8), (0, v4)]) rfl ?_
  refine jEv.ic_gt (t := 52) (show jfI 164 11 (.if_icmp .gt 41) 3 [] = true by decide +kernel) rfl H (fun c1 H => ?_) (fun c1 H => ?_)
  · refine jmapr H HY (fun out H (HY : ykI T y out) => ?_)
    refine jEv.blk [(.iload_n 1, 1, [])] (by decide +kernel) (pc' := 53) (ls' := [(2, Int.ofNat o0), (0, v1), (0, v2), (0, v3), (0, v4), (3, 0)]) (st' := [(0, v1)]) rfl ?_
    refine jEv.if_ne (t := 60) (show jfI 164 53 (.ifCond .ne 7) 3 [] = true by decide +kernel) rfl H (fun c2 H => ?_) (fun c2 H => ?_)
    · refine jEv.blk [(.iload_n 3, 1, [])] (by decide +kernel) (pc' := 57) (ls' := [(2, Int.ofNat o0), (0, v1), (0, v2), (0, v3), (0, v4), (3, 0)]) (st' := [(0, v3)]) rfl ?_
      refine jEv.goto (t := 70) (show jfI 164 57 (.goto 13) 3 [] = true by decide +kernel) rfl ?_
      exact jEv.retI (show jfI 164 70 (.ireturn) 1 [] = true by decide +kernel) (by decide +kernel) (by cases H; exact HY)
    · refine jEv.blk [(.iload_n 1, 1, []), (.iconst 1, 1, [])] (by decide +kernel) (pc' := 62) (ls' := [(2, Int.ofNat o0), (0, v1), (0, v2), (0, v3), (0, v4), (3, 0)]) (st' := [(0, 1), (0, v1)]) rfl ?_
      refine jEv.ic_ne (t := 69) (show jfI 164 62 (.if_icmp .ne 7) 3 [] = true by decide +kernel) rfl H (fun c3 H => ?_) (fun c3 H => ?_)
      · refine jEv.blk [(.iload_n 2, 1, [])] (by decide +kernel) (pc' := 66) (ls' := [(2, Int.ofNat o0), (0, v1), (0, v2), (0, v3), (0, v4), (3, 0)]) (st' := [(0, v2)]) rfl ?_
        refine jEv.goto (t := 70) (show jfI 164 66 (.goto 4) 3 [] = true by decide +kernel) rfl ?_
        exact jEv.retI (show jfI 164 70 (.ireturn) 1 [] = true by decide +kernel) (by decide +kernel) (by cases H; exact HY)
      · refine jEv.blk [(.iconst (-1), 1, [])] (by decide +kernel) (pc' := 70) (ls' := [(2, Int.ofNat o0), (0, v1), (0, v2), (0, v3), (0, v4), (3, 0)]) (st' := [(0, (-1))]) rfl ?_
        exact jEv.retI (show jfI 164 70 (.ireturn) 1 [] = true by decide +kernel) (by decide +kernel) (by cases H; exact HY)
  · refine jEv.blk [(.aload_n 0, 1, []), (.iload 4, 2, []), (.iconst 1, 1, [])] (by decide +kernel) (pc' := 18) (ls' := [(2, Int.ofNat o0), (0, v1), (0, v2), (0, v3), (0, v4), (3, 0)]) (st' := [(0, 1), (0, v4), (2, Int.ofNat o0)]) rfl ?_
    refine jbind H (fun b4 Hb4 H => ?_)
    refine jEv.calV (st' := [(0, b4.1)]) (show jfI 164 18 (.invokevirtual 274) 3 [1, 163, 2, 5236] = true by decide +kernel) rfl (Or.inl rfl) rfl (Nat.le_of_ble_eq_true rfl) (by decide +kernel) (by decide) (isX11_L ho0) ((t_G_runByRule (T := T) (xs := xs) ho0 Hb4).mono (jKle 7 hd)) rfl ?_
    refine jEv.blk [(.istore 5, 2, []), (.iload 5, 2, []), (.iconst (-1), 1, [])] (by decide +kernel) (pc' := 26) (ls' := [(2, Int.ofNat o0), (0, v1), (0, v2), (0, v3), (0, v4), (0, b4.1)]) (st' := [(0, (-1)), (0, b4.1)]) rfl ?_
    refine jEv.ic_eq (t := 46) (show jfI 164 26 (.if_icmp .eq 20) 3 [] = true by decide +kernel) rfl H (fun c5 H => ?_) (fun c5 H => ?_)
    · refine jEv.blk [(.iinc 4 1, 3, [])] (by decide +kernel) (pc' := 49) (ls' := [(2, Int.ofNat o0), (0, v1), (0, v2), (0, v3), (0, (wr (v4 + 1))), (0, b4.1)]) (st' := []) rfl ?_
      refine jEv.goto (t := 7) (show jfI 164 49 (.goto (-42)) 3 [] = true by decide +kernel) rfl ?_
      exact jEv.weak (a := [(2, Int.ofNat o0), (0, v1), (0, v2), (0, v3), (0, (wr (v4 + 1))), (3, 0)]) (jles.c1 (jles.c1 (jles.c1 (jles.c1 (jles.c1 (jles.c0 jles.nl)))))) ((by cases H; exact HY))
    · refine jEv.blk [(.iload_n 2, 1, []), (.iconst (-1), 1, [])] (by decide +kernel) (pc' := 31) (ls' := [(2, Int.ofNat o0), (0, v1), (0, v2), (0, v3), (0, v4), (0, b4.1)]) (st' := [(0, (-1)), (0, v2)]) rfl ?_
      refine jEv.ic_eq (t := 40) (show jfI 164 31 (.if_icmp .eq 9) 3 [] = true by decide +kernel) rfl H (fun c6 H => ?_) (fun c6 H => ?_)
      · exact jEv.weak (a := [(2, Int.ofNat o0), (0, v1), (3, 0), (3, 0), (0, v4), (0, b4.1)]) (jles.c1 (jles.c1 (jles.c0 (jles.c0 (jles.c1 (jles.c1 jles.nl)))))) (t_G_best_p40 (T := T) (xs := xs) (y := y) hd ho0 H HY)
      · refine jEv.blk [(.iload 5, 2, []), (.iload_n 2, 1, [])] (by decide +kernel) (pc' := 37) (ls' := [(2, Int.ofNat o0), (0, v1), (0, v2), (0, v3), (0, v4), (0, b4.1)]) (st' := [(0, v2), (0, b4.1)]) rfl ?_
        refine jEv.ic_ge (t := 46) (show jfI 164 37 (.if_icmp .ge 9) 3 [] = true by decide +kernel) rfl H (fun c7 H => ?_) (fun c7 H => ?_)
        · exact jEv.weak (a := [(2, Int.ofNat o0), (0, v1), (3, 0), (3, 0), (0, v4), (0, b4.1)]) (jles.c1 (jles.c1 (jles.c0 (jles.c0 (jles.c1 (jles.c1 jles.nl)))))) (t_G_best_p40 (T := T) (xs := xs) (y := y) hd ho0 H HY)
        · refine jEv.blk [(.iinc 4 1, 3, [])] (by decide +kernel) (pc' := 49) (ls' := [(2, Int.ofNat o0), (0, v1), (0, v2), (0, v3), (0, (wr (v4 + 1))), (0, b4.1)]) (st' := []) rfl ?_
          refine jEv.goto (t := 7) (show jfI 164 49 (.goto (-42)) 3 [] = true by decide +kernel) rfl ?_
          exact jEv.weak (a := [(2, Int.ofNat o0), (0, v1), (0, v2), (0, v3), (0, (wr (v4 + 1))), (3, 0)]) (jles.c1 (jles.c1 (jles.c1 (jles.c1 (jles.c1 (jles.c0 jles.nl)))))) ((by cases H; exact HY))
theorem t_G_best_L7 {T : jT} {xs : List Int} {d : Nat} {y : jV × jS} (hd : 7 ≤ d) {h : jH}  {o0 : Nat} {v1 : Int} {v2 : Int} {v3 : Int} {v4 : Int} {out : (Int × jH)} (ho0 : isX11 T o0) (H : G_best_L7 T h o0 v1 v2 v3 v4 = some out) (HY : ykI T y out) : jEv xs d (164, 7, [(2, Int.ofNat o0), (0, v1), (0, v2), (0, v3), (0, v4), (3, 0)], []) (T, h) y :=
  jloop_sound (G := fun s : (Int × Int × Int × jH) => jEv xs d (164, 7, [(2, Int.ofNat o0), (0, v1), (0, s.1), (0, s.2.1), (0, s.2.2.1), (3, 0)], []) (T, s.2.2.2) y) (K := yk_G_best_L7 T xs d y o0 v1) (fun s out H HY => t_G_best_B7 hd ho0 H HY) (fun s' hg => hg) (s := (v2, v3, v4, h)) H HY
set_option maxRecDepth 20000 in
noncomputable def G_best (T : jT) (h : jH) (o0 : Nat) (v1 : Int) : Option (Int × jH) := G_best_L7 T h o0 v1 (-1) (-1) 1
set_option maxRecDepth 20000 in
theorem t_G_best {T : jT} {xs : List Int} {h : jH}  {o0 : Nat} {v1 : Int} {out : (Int × jH)} (ho0 : isX11 T o0) (H : G_best T h o0 v1 = some out) : jEm xs 8 164 [(2, Int.ofNat o0), (0, v1)] (T, h) ((0, out.1), (T, out.2)) := by
  have hd : 7 ≤ 7 := Nat.le_refl _
  obtain ⟨y, ey⟩ : ∃ y : jV × jS, y = ((0, out.1), (T, out.2)) := ⟨_, rfl⟩
  rw [← ey]
  have HY : ykI T y out := ey
  refine jEm.ent (n := 6) (by decide +kernel) (Nat.le_of_ble_eq_true rfl) ?_
  show jEv xs 7 (164, 0, [(2, Int.ofNat o0), (0, v1), (3, 0), (3, 0), (3, 0), (3, 0)], []) (T, h) y
  unfold G_best at H
  refine jEv.blk [(.iconst (-1), 1, []), (.istore_n 2, 1, []), (.iconst (-1), 1, []), (.istore_n 3, 1, []), (.iconst 1, 1, []), (.istore 4, 2, [])] (by decide +kernel) (pc' := 7) (ls' := [(2, Int.ofNat o0), (0, v1), (0, (-1)), (0, (-1)), (0, 1), (3, 0)]) (st' := []) rfl ?_
  exact t_G_best_L7 (T := T) (xs := xs) (y := y) hd ho0 H HY
set_option maxRecDepth 20000 in
noncomputable def G_room (T : jT) (h : jH) (o0 : Nat) (v1 : Int) : Option (Int × jH) := Option.bind (G_isTold T h o0) (fun b1 => (if b1 = 0 then some ((-1), h) else (if (h (o0 + 35) 14) = 0 then (if v1 < 0 then some ((-1), h) else (if v1 < 41 then Option.bind (Pe_roomFor h (o0 + 78) (o0 + 35) (wr (3 + v1))) (fun b6 => some (b6.1, b6.2)) else some ((-1), h))) else some ((-1), h))))
set_option maxRecDepth 20000 in
theorem t_G_room {T : jT} {xs : List Int} {h : jH}  {o0 : Nat} {v1 : Int} {out : (Int × jH)} (ho0 : isX11 T o0) (H : G_room T h o0 v1 = some out) : jEm xs 5 165 [(2, Int.ofNat o0), (0, v1)] (T, h) ((0, out.1), (T, out.2)) := by
  have hd : 4 ≤ 4 := Nat.le_refl _
  obtain ⟨y, ey⟩ : ∃ y : jV × jS, y = ((0, out.1), (T, out.2)) := ⟨_, rfl⟩
  rw [← ey]
  have HY : ykI T y out := ey
  refine jEm.ent (n := 2) (by decide +kernel) (Nat.le_of_ble_eq_true rfl) ?_
  show jEv xs 4 (165, 0, [(2, Int.ofNat o0), (0, v1)], []) (T, h) y
  unfold G_room at H
  refine jEv.blk [(.aload_n 0, 1, [])] (by decide +kernel) (pc' := 1) (ls' := [(2, Int.ofNat o0), (0, v1)]) (st' := [(2, Int.ofNat o0)]) rfl ?_
  refine jbind H (fun b1 Hb1 H => ?_)
  refine jEv.calV (st' := [(0, b1)]) (show jfI 165 1 (.invokevirtual 228) 3 [1, 152, 0, 5004] = true by decide +kernel) rfl (Or.inl rfl) rfl (Nat.le_of_ble_eq_true rfl) (by decide +kernel) (by decide) (isX11_L ho0) ((t_G_isTold (T := T) (xs := xs) ho0 Hb1).mono (jKle 1 hd)) rfl ?_
  refine jEv.if_eq (t := 27) (show jfI 165 4 (.ifCond .eq 23) 3 [] = true by decide +kernel) rfl H (fun c2 H => ?_) (fun c2 H => ?_)
  · refine jEv.blk [(.iconst (-1), 1, [])] (by decide +kernel) (pc' := 28) (ls' := [(2, Int.ofNat o0), (0, v1)]) (st' := [(0, (-1))]) rfl ?_
    exact jEv.retI (show jfI 165 28 (.ireturn) 1 [] = true by decide +kernel) (by decide +kernel) (by cases H; exact HY)
  · refine jEv.blk [(.aload_n 0, 1, [])] (by decide +kernel) (pc' := 8) (ls' := [(2, Int.ofNat o0), (0, v1)]) (st' := [(2, Int.ofNat o0)]) rfl ?_
    refine jEv.gfR (o' := (o0 + 35)) (show jfI 165 8 (.getfield 45) 3 [11, 10, 5, 0, 3011] = true by decide +kernel) (isX11_L ho0) (by decide) (isX11_r10 ho0) ?_
    refine jEv.gfI (show jfI 165 11 (.getfield 179) 3 [9, 14, 0, 1, 2099] = true by decide +kernel) (isX9_L (isX11_s10 ho0)) (by decide) ?_
    refine jEv.if_ne (t := 27) (show jfI 165 14 (.ifCond .ne 13) 3 [] = true by decide +kernel) rfl H (fun c3 H => ?_) (fun c3 H => ?_)
    · refine jEv.blk [(.iload_n 1, 1, [])] (by decide +kernel) (pc' := 18) (ls' := [(2, Int.ofNat o0), (0, v1)]) (st' := [(0, v1)]) rfl ?_
      refine jEv.if_lt (t := 27) (show jfI 165 18 (.ifCond .lt 9) 3 [] = true by decide +kernel) rfl H (fun c4 H => ?_) (fun c4 H => ?_)
      · refine jEv.blk [(.iconst (-1), 1, [])] (by decide +kernel) (pc' := 28) (ls' := [(2, Int.ofNat o0), (0, v1)]) (st' := [(0, (-1))]) rfl ?_
        exact jEv.retI (show jfI 165 28 (.ireturn) 1 [] = true by decide +kernel) (by decide +kernel) (by cases H; exact HY)
      · refine jEv.blk [(.iload_n 1, 1, []), (.bipush 41, 2, [])] (by decide +kernel) (pc' := 24) (ls' := [(2, Int.ofNat o0), (0, v1)]) (st' := [(0, 41), (0, v1)]) rfl ?_
        refine jEv.ic_lt (t := 29) (show jfI 165 24 (.if_icmp .lt 5) 3 [] = true by decide +kernel) rfl H (fun c5 H => ?_) (fun c5 H => ?_)
        · refine jEv.blk [(.aload_n 0, 1, [])] (by decide +kernel) (pc' := 30) (ls' := [(2, Int.ofNat o0), (0, v1)]) (st' := [(2, Int.ofNat o0)]) rfl ?_
          refine jEv.gfR (o' := (o0 + 78)) (show jfI 165 30 (.getfield 59) 3 [11, 15, 5, 0, 3016] = true by decide +kernel) (isX11_L ho0) (by decide) (isX11_r15 ho0) ?_
          refine jEv.blk [(.aload_n 0, 1, [])] (by decide +kernel) (pc' := 34) (ls' := [(2, Int.ofNat o0), (0, v1)]) (st' := [(2, Int.ofNat o0), (2, Int.ofNat (o0 + 78))]) rfl ?_
          refine jEv.gfR (o' := (o0 + 35)) (show jfI 165 34 (.getfield 45) 3 [11, 10, 5, 0, 3011] = true by decide +kernel) (isX11_L ho0) (by decide) (isX11_r10 ho0) ?_
          refine jEv.blk [(.iconst 3, 1, []), (.iload_n 1, 1, []), (.iadd, 1, [])] (by decide +kernel) (pc' := 40) (ls' := [(2, Int.ofNat o0), (0, v1)]) (st' := [(0, (wr (3 + v1))), (2, Int.ofNat (o0 + 35)), (2, Int.ofNat (o0 + 78))]) rfl ?_
          refine jbind H (fun b6 Hb6 H => ?_)
          refine jEv.calV (st' := [(0, b6.1)]) (show jfI 165 40 (.invokevirtual 278) 3 [1, 86, 2, 6008] = true by decide +kernel) rfl (Or.inl rfl) rfl (Nat.le_of_ble_eq_true rfl) (by decide +kernel) (by decide) (isX5_L (isX11_s15 ho0)) ((t_Pe_roomFor (T := T) (xs := xs) (isX11_s15 ho0) (isX11_s10 ho0) Hb6).mono (jKle 4 hd)) rfl ?_
          exact jEv.retI (show jfI 165 43 (.ireturn) 1 [] = true by decide +kernel) (by decide +kernel) (by cases H; exact HY)
        · refine jEv.blk [(.iconst (-1), 1, [])] (by decide +kernel) (pc' := 28) (ls' := [(2, Int.ofNat o0), (0, v1)]) (st' := [(0, (-1))]) rfl ?_
          exact jEv.retI (show jfI 165 28 (.ireturn) 1 [] = true by decide +kernel) (by decide +kernel) (by cases H; exact HY)
    · refine jEv.blk [(.iconst (-1), 1, [])] (by decide +kernel) (pc' := 28) (ls' := [(2, Int.ofNat o0), (0, v1)]) (st' := [(0, (-1))]) rfl ?_
      exact jEv.retI (show jfI 165 28 (.ireturn) 1 [] = true by decide +kernel) (by decide +kernel) (by cases H; exact HY)
set_option maxRecDepth 20000 in
noncomputable def G_recovers (T : jT) (h : jH) (o0 : Nat) (v1 : Int) (v2 : Int) : Option (Int × jH) := Option.bind (G_isTold T h o0) (fun b1 => (if b1 = 0 then some ((-1), h) else (if v1 < 0 then some ((-1), h) else (if (h (o0 + 39) 2) < v1 then some ((-1), h) else Option.bind (Di_copyFrom h (o0 + 57) (o0 + 36)) (fun b5 => Option.bind (Fl_arrive b5 (o0 + 39) (o0 + 57) 0 v1) (fun b6 => Option.bind (Re_read b6 (o0 + 79) (o0 + 57) (b6 (o0 + 35) 7) (o0 + 54) 16) (fun b7 => (if v2 = 0 then some ((b7 (o0 + 79) 3), b7) else (if v2 = 1 then (if (b7 (o0 + 79) 7) = 0 then some (0, b7) else some (1, b7)) else (if v2 = 2 then some ((b7 (o0 + 79) 4), b7) else (if v2 = 3 then some ((b7 (o0 + 79) 5), b7) else (if v2 = 4 then Option.bind (Re_valueCount b7 (o0 + 79)) (fun b14 => some (b14, b7)) else some ((-1), b7)))))))))))))
set_option maxRecDepth 20000 in
theorem t_G_recovers {T : jT} {xs : List Int} {h : jH}  {o0 : Nat} {v1 : Int} {v2 : Int} {out : (Int × jH)} (ho0 : isX11 T o0) (H : G_recovers T h o0 v1 v2 = some out) : jEm xs 6 166 [(2, Int.ofNat o0), (0, v1), (0, v2)] (T, h) ((0, out.1), (T, out.2)) := by
  have hd : 5 ≤ 5 := Nat.le_refl _
  obtain ⟨y, ey⟩ : ∃ y : jV × jS, y = ((0, out.1), (T, out.2)) := ⟨_, rfl⟩
  rw [← ey]
  have HY : ykI T y out := ey
  refine jEm.ent (n := 3) (by decide +kernel) (Nat.le_of_ble_eq_true rfl) ?_
  show jEv xs 5 (166, 0, [(2, Int.ofNat o0), (0, v1), (0, v2)], []) (T, h) y
  unfold G_recovers at H
  refine jEv.blk [(.aload_n 0, 1, [])] (by decide +kernel) (pc' := 1) (ls' := [(2, Int.ofNat o0), (0, v1), (0, v2)]) (st' := [(2, Int.ofNat o0)]) rfl ?_
  refine jbind H (fun b1 Hb1 H => ?_)
  refine jEv.calV (st' := [(0, b1)]) (show jfI 166 1 (.invokevirtual 228) 3 [1, 152, 0, 5004] = true by decide +kernel) rfl (Or.inl rfl) rfl (Nat.le_of_ble_eq_true rfl) (by decide +kernel) (by decide) (isX11_L ho0) ((t_G_isTold (T := T) (xs := xs) ho0 Hb1).mono (jKle 1 hd)) rfl ?_
  refine jEv.if_eq (t := 25) (show jfI 166 4 (.ifCond .eq 21) 3 [] = true by decide +kernel) rfl H (fun c2 H => ?_) (fun c2 H => ?_)
  · refine jEv.blk [(.iconst (-1), 1, [])] (by decide +kernel) (pc' := 26) (ls' := [(2, Int.ofNat o0), (0, v1), (0, v2)]) (st' := [(0, (-1))]) rfl ?_
    exact jEv.retI (show jfI 166 26 (.ireturn) 1 [] = true by decide +kernel) (by decide +kernel) (by cases H; exact HY)
  · refine jEv.blk [(.iload_n 1, 1, [])] (by decide +kernel) (pc' := 8) (ls' := [(2, Int.ofNat o0), (0, v1), (0, v2)]) (st' := [(0, v1)]) rfl ?_
    refine jEv.if_lt (t := 25) (show jfI 166 8 (.ifCond .lt 17) 3 [] = true by decide +kernel) rfl H (fun c3 H => ?_) (fun c3 H => ?_)
    · refine jEv.blk [(.iconst (-1), 1, [])] (by decide +kernel) (pc' := 26) (ls' := [(2, Int.ofNat o0), (0, v1), (0, v2)]) (st' := [(0, (-1))]) rfl ?_
      exact jEv.retI (show jfI 166 26 (.ireturn) 1 [] = true by decide +kernel) (by decide +kernel) (by cases H; exact HY)
    · refine jEv.blk [(.iload_n 1, 1, []), (.aload_n 0, 1, [])] (by decide +kernel) (pc' := 13) (ls' := [(2, Int.ofNat o0), (0, v1), (0, v2)]) (st' := [(2, Int.ofNat o0), (0, v1)]) rfl ?_
      refine jEv.gfR (o' := (o0 + 35)) (show jfI 166 13 (.getfield 45) 3 [11, 10, 5, 0, 3011] = true by decide +kernel) (isX11_L ho0) (by decide) (isX11_r10 ho0) ?_
      refine jEv.gfR (o' := (o0 + 39)) (show jfI 166 16 (.getfield 145) 3 [9, 2, 5, 0, 2069] = true by decide +kernel) (isX9_L (isX11_s10 ho0)) (by decide) (isX9_r2 (isX11_s10 ho0)) ?_
      refine jEv.gfI (show jfI 166 19 (.getfield 149) 3 [1, 2, 0, 0, 1214] = true by decide +kernel) (isX1_L (isX9_s2 (isX11_s10 ho0))) (by decide) ?_
      refine jEv.ic_le (t := 27) (show jfI 166 22 (.if_icmp .le 5) 3 [] = true by decide +kernel) rfl H (fun c4 H => ?_) (fun c4 H => ?_)
      · refine jEv.blk [(.iconst (-1), 1, [])] (by decide +kernel) (pc' := 26) (ls' := [(2, Int.ofNat o0), (0, v1), (0, v2)]) (st' := [(0, (-1))]) rfl ?_
        exact jEv.retI (show jfI 166 26 (.ireturn) 1 [] = true by decide +kernel) (by decide +kernel) (by cases H; exact HY)
      · refine jEv.blk [(.aload_n 0, 1, [])] (by decide +kernel) (pc' := 28) (ls' := [(2, Int.ofNat o0), (0, v1), (0, v2)]) (st' := [(2, Int.ofNat o0)]) rfl ?_
        refine jEv.gfR (o' := (o0 + 56)) (show jfI 166 28 (.getfield 49) 3 [11, 11, 5, 0, 3012] = true by decide +kernel) (isX11_L ho0) (by decide) (isX11_r11 ho0) ?_
        refine jEv.gfR (o' := (o0 + 57)) (show jfI 166 31 (.getfield 115) 3 [9, 1, 5, 0, 2067] = true by decide +kernel) (isX9_L (isX11_s11 ho0)) (by decide) (isX9_r1 (isX11_s11 ho0)) ?_
        refine jEv.blk [(.aload_n 0, 1, [])] (by decide +kernel) (pc' := 35) (ls' := [(2, Int.ofNat o0), (0, v1), (0, v2)]) (st' := [(2, Int.ofNat o0), (2, Int.ofNat (o0 + 57))]) rfl ?_
        refine jEv.gfR (o' := (o0 + 35)) (show jfI 166 35 (.getfield 45) 3 [11, 10, 5, 0, 3011] = true by decide +kernel) (isX11_L ho0) (by decide) (isX11_r10 ho0) ?_
        refine jEv.gfR (o' := (o0 + 36)) (show jfI 166 38 (.getfield 115) 3 [9, 1, 5, 0, 2067] = true by decide +kernel) (isX9_L (isX11_s10 ho0)) (by decide) (isX9_r1 (isX11_s10 ho0)) ?_
        refine jbind H (fun b5 Hb5 H => ?_)
        refine jEv.calV (st' := []) (show jfI 166 41 (.invokevirtual 282) 3 [1, 15, 1, 6016] = true by decide +kernel) rfl (Or.inl rfl) rfl (Nat.le_of_ble_eq_true rfl) (by decide +kernel) (by decide) (isX0_L (isX9_s1 (isX11_s11 ho0))) ((t_Di_copyFrom (T := T) (xs := xs) (isX9_s1 (isX11_s11 ho0)) (isX9_s1 (isX11_s10 ho0)) Hb5).mono (jKle 3 hd)) rfl ?_
        refine jEv.blk [(.aload_n 0, 1, [])] (by decide +kernel) (pc' := 45) (ls' := [(2, Int.ofNat o0), (0, v1), (0, v2)]) (st' := [(2, Int.ofNat o0)]) rfl ?_
        refine jEv.gfR (o' := (o0 + 35)) (show jfI 166 45 (.getfield 45) 3 [11, 10, 5, 0, 3011] = true by decide +kernel) (isX11_L ho0) (by decide) (isX11_r10 ho0) ?_
        refine jEv.gfR (o' := (o0 + 39)) (show jfI 166 48 (.getfield 145) 3 [9, 2, 5, 0, 2069] = true by decide +kernel) (isX9_L (isX11_s10 ho0)) (by decide) (isX9_r2 (isX11_s10 ho0)) ?_
        refine jEv.blk [(.aload_n 0, 1, [])] (by decide +kernel) (pc' := 52) (ls' := [(2, Int.ofNat o0), (0, v1), (0, v2)]) (st' := [(2, Int.ofNat o0), (2, Int.ofNat (o0 + 39))]) rfl ?_
        refine jEv.gfR (o' := (o0 + 56)) (show jfI 166 52 (.getfield 49) 3 [11, 11, 5, 0, 3012] = true by decide +kernel) (isX11_L ho0) (by decide) (isX11_r11 ho0) ?_
        refine jEv.gfR (o' := (o0 + 57)) (show jfI 166 55 (.getfield 115) 3 [9, 1, 5, 0, 2067] = true by decide +kernel) (isX9_L (isX11_s11 ho0)) (by decide) (isX9_r1 (isX11_s11 ho0)) ?_
        refine jEv.blk [(.iconst 0, 1, []), (.iload_n 1, 1, [])] (by decide +kernel) (pc' := 60) (ls' := [(2, Int.ofNat o0), (0, v1), (0, v2)]) (st' := [(0, v1), (0, 0), (2, Int.ofNat (o0 + 57)), (2, Int.ofNat (o0 + 39))]) rfl ?_
        refine jbind H (fun b6 Hb6 H => ?_)
        refine jEv.calV (st' := []) (show jfI 166 60 (.invokevirtual 285) 3 [1, 24, 3, 6017] = true by decide +kernel) rfl (Or.inl rfl) rfl (Nat.le_of_ble_eq_true rfl) (by decide +kernel) (by decide) (isX1_L (isX9_s2 (isX11_s10 ho0))) ((t_Fl_arrive (T := T) (xs := xs) (isX9_s2 (isX11_s10 ho0)) (isX9_s1 (isX11_s11 ho0)) Hb6).mono (jKle 3 hd)) rfl ?_
        refine jEv.blk [(.aload_n 0, 1, [])] (by decide +kernel) (pc' := 64) (ls' := [(2, Int.ofNat o0), (0, v1), (0, v2)]) (st' := [(2, Int.ofNat o0)]) rfl ?_
        refine jEv.gfR (o' := (o0 + 79)) (show jfI 166 64 (.getfield 66) 3 [11, 16, 5, 0, 3017] = true by decide +kernel) (isX11_L ho0) (by decide) (isX11_r16 ho0) ?_
        refine jEv.blk [(.aload_n 0, 1, [])] (by decide +kernel) (pc' := 68) (ls' := [(2, Int.ofNat o0), (0, v1), (0, v2)]) (st' := [(2, Int.ofNat o0), (2, Int.ofNat (o0 + 79))]) rfl ?_
        refine jEv.gfR (o' := (o0 + 56)) (show jfI 166 68 (.getfield 49) 3 [11, 11, 5, 0, 3012] = true by decide +kernel) (isX11_L ho0) (by decide) (isX11_r11 ho0) ?_
        refine jEv.gfR (o' := (o0 + 57)) (show jfI 166 71 (.getfield 115) 3 [9, 1, 5, 0, 2067] = true by decide +kernel) (isX9_L (isX11_s11 ho0)) (by decide) (isX9_r1 (isX11_s11 ho0)) ?_
        refine jEv.blk [(.aload_n 0, 1, [])] (by decide +kernel) (pc' := 75) (ls' := [(2, Int.ofNat o0), (0, v1), (0, v2)]) (st' := [(2, Int.ofNat o0), (2, Int.ofNat (o0 + 57)), (2, Int.ofNat (o0 + 79))]) rfl ?_
        refine jEv.gfR (o' := (o0 + 35)) (show jfI 166 75 (.getfield 45) 3 [11, 10, 5, 0, 3011] = true by decide +kernel) (isX11_L ho0) (by decide) (isX11_r10 ho0) ?_
        refine jEv.gfI (show jfI 166 78 (.getfield 157) 3 [9, 7, 0, 0, 2081] = true by decide +kernel) (isX9_L (isX11_s10 ho0)) (by decide) ?_
        refine jEv.blk [(.aload_n 0, 1, [])] (by decide +kernel) (pc' := 82) (ls' := [(2, Int.ofNat o0), (0, v1), (0, v2)]) (st' := [(2, Int.ofNat o0), (0, (b6 (o0 + 35) 7)), (2, Int.ofNat (o0 + 57)), (2, Int.ofNat (o0 + 79))]) rfl ?_
        refine jEv.gfR (o' := (o0 + 35)) (show jfI 166 82 (.getfield 45) 3 [11, 10, 5, 0, 3011] = true by decide +kernel) (isX11_L ho0) (by decide) (isX11_r10 ho0) ?_
        refine jEv.gfR (o' := (o0 + 54)) (show jfI 166 85 (.getfield 289) 3 [9, 6, 5, 0, 2079] = true by decide +kernel) (isX9_L (isX11_s10 ho0)) (by decide) (isX9_r6 (isX11_s10 ho0)) ?_
        refine jbind H (fun b7 Hb7 H => ?_)
        refine jEv.calV (st' := []) (show jfI 166 88 (.invokevirtual 292) 3 [1, 102, 3, 6018] = true by decide +kernel) rfl (Or.inl rfl) rfl (Nat.le_of_ble_eq_true rfl) (by decide +kernel) (by decide) (isX8_L (isX11_s16 ho0)) ((t_Re_read (T := T) (xs := xs) (isX11_s16 ho0) (isX9_s1 (isX11_s11 ho0)) (isX9_a6 (isX11_s10 ho0)) Hb7).mono (jKle 5 hd)) rfl ?_
        refine jEv.blk [(.iload_n 2, 1, [])] (by decide +kernel) (pc' := 92) (ls' := [(2, Int.ofNat o0), (0, v1), (0, v2)]) (st' := [(0, v2)]) rfl ?_
        refine jite H (fun c8 H => ?_) (fun c8 H => ?_)
        · refine jEv.tsI (v := 0) (off := 36) (t := 128) (show jfI 166 92 (.tableswitch 84 0 4 #[36, 44, 60, 68, 76]) 36 [] = true by decide +kernel) c8 (by decide) (by decide) rfl (by decide) ?_
          refine jEv.blk [(.aload_n 0, 1, [])] (by decide +kernel) (pc' := 129) (ls' := [(2, Int.ofNat o0), (0, v1), (0, v2)]) (st' := [(2, Int.ofNat o0)]) rfl ?_
          refine jEv.gfR (o' := (o0 + 79)) (show jfI 166 129 (.getfield 66) 3 [11, 16, 5, 0, 3017] = true by decide +kernel) (isX11_L ho0) (by decide) (isX11_r16 ho0) ?_
          refine jEv.gfI (show jfI 166 132 (.getfield 296) 3 [8, 3, 0, 0, 2212] = true by decide +kernel) (isX8_L (isX11_s16 ho0)) (by decide) ?_
          exact jEv.retI (show jfI 166 135 (.ireturn) 1 [] = true by decide +kernel) (by decide +kernel) (by cases H; exact HY)
        · refine jite H (fun c9 H => ?_) (fun c9 H => ?_)
          · refine jEv.tsI (v := 1) (off := 44) (t := 136) (show jfI 166 92 (.tableswitch 84 0 4 #[36, 44, 60, 68, 76]) 36 [] = true by decide +kernel) c9 (by decide) (by decide) rfl (by decide) ?_
            refine jEv.blk [(.aload_n 0, 1, [])] (by decide +kernel) (pc' := 137) (ls' := [(2, Int.ofNat o0), (0, v1), (0, v2)]) (st' := [(2, Int.ofNat o0)]) rfl ?_
            refine jEv.gfR (o' := (o0 + 79)) (show jfI 166 137 (.getfield 66) 3 [11, 16, 5, 0, 3017] = true by decide +kernel) (isX11_L ho0) (by decide) (isX11_r16 ho0) ?_
            refine jEv.gfI (show jfI 166 140 (.getfield 299) 3 [8, 7, 0, 1, 2223] = true by decide +kernel) (isX8_L (isX11_s16 ho0)) (by decide) ?_
            refine jEv.if_eq (t := 150) (show jfI 166 143 (.ifCond .eq 7) 3 [] = true by decide +kernel) rfl H (fun c10 H => ?_) (fun c10 H => ?_)
            · refine jEv.blk [(.iconst 0, 1, [])] (by decide +kernel) (pc' := 151) (ls' := [(2, Int.ofNat o0), (0, v1), (0, v2)]) (st' := [(0, 0)]) rfl ?_
              exact jEv.retI (show jfI 166 151 (.ireturn) 1 [] = true by decide +kernel) (by decide +kernel) (by cases H; exact HY)
            · refine jEv.blk [(.iconst 1, 1, [])] (by decide +kernel) (pc' := 147) (ls' := [(2, Int.ofNat o0), (0, v1), (0, v2)]) (st' := [(0, 1)]) rfl ?_
              refine jEv.goto (t := 151) (show jfI 166 147 (.goto 4) 3 [] = true by decide +kernel) rfl ?_
              exact jEv.retI (show jfI 166 151 (.ireturn) 1 [] = true by decide +kernel) (by decide +kernel) (by cases H; exact HY)
          · refine jite H (fun c11 H => ?_) (fun c11 H => ?_)
            · refine jEv.tsI (v := 2) (off := 60) (t := 152) (show jfI 166 92 (.tableswitch 84 0 4 #[36, 44, 60, 68, 76]) 36 [] = true by decide +kernel) c11 (by decide) (by decide) rfl (by decide) ?_
              refine jEv.blk [(.aload_n 0, 1, [])] (by decide +kernel) (pc' := 153) (ls' := [(2, Int.ofNat o0), (0, v1), (0, v2)]) (st' := [(2, Int.ofNat o0)]) rfl ?_
              refine jEv.gfR (o' := (o0 + 79)) (show jfI 166 153 (.getfield 66) 3 [11, 16, 5, 0, 3017] = true by decide +kernel) (isX11_L ho0) (by decide) (isX11_r16 ho0) ?_
              refine jEv.gfI (show jfI 166 156 (.getfield 302) 3 [8, 4, 0, 0, 2215] = true by decide +kernel) (isX8_L (isX11_s16 ho0)) (by decide) ?_
              exact jEv.retI (show jfI 166 159 (.ireturn) 1 [] = true by decide +kernel) (by decide +kernel) (by cases H; exact HY)
            · refine jite H (fun c12 H => ?_) (fun c12 H => ?_)
              · refine jEv.tsI (v := 3) (off := 68) (t := 160) (show jfI 166 92 (.tableswitch 84 0 4 #[36, 44, 60, 68, 76]) 36 [] = true by decide +kernel) c12 (by decide) (by decide) rfl (by decide) ?_
                refine jEv.blk [(.aload_n 0, 1, [])] (by decide +kernel) (pc' := 161) (ls' := [(2, Int.ofNat o0), (0, v1), (0, v2)]) (st' := [(2, Int.ofNat o0)]) rfl ?_
                refine jEv.gfR (o' := (o0 + 79)) (show jfI 166 161 (.getfield 66) 3 [11, 16, 5, 0, 3017] = true by decide +kernel) (isX11_L ho0) (by decide) (isX11_r16 ho0) ?_
                refine jEv.gfI (show jfI 166 164 (.getfield 305) 3 [8, 5, 0, 0, 2218] = true by decide +kernel) (isX8_L (isX11_s16 ho0)) (by decide) ?_
                exact jEv.retI (show jfI 166 167 (.ireturn) 1 [] = true by decide +kernel) (by decide +kernel) (by cases H; exact HY)
              · refine jite H (fun c13 H => ?_) (fun c13 H => ?_)
                · refine jEv.tsI (v := 4) (off := 76) (t := 168) (show jfI 166 92 (.tableswitch 84 0 4 #[36, 44, 60, 68, 76]) 36 [] = true by decide +kernel) c13 (by decide) (by decide) rfl (by decide) ?_
                  refine jEv.blk [(.aload_n 0, 1, [])] (by decide +kernel) (pc' := 169) (ls' := [(2, Int.ofNat o0), (0, v1), (0, v2)]) (st' := [(2, Int.ofNat o0)]) rfl ?_
                  refine jEv.gfR (o' := (o0 + 79)) (show jfI 166 169 (.getfield 66) 3 [11, 16, 5, 0, 3017] = true by decide +kernel) (isX11_L ho0) (by decide) (isX11_r16 ho0) ?_
                  refine jbind H (fun b14 Hb14 H => ?_)
                  refine jEv.calV (st' := [(0, b14)]) (show jfI 166 172 (.invokevirtual 308) 3 [1, 107, 0, 6057] = true by decide +kernel) rfl (Or.inl rfl) rfl (Nat.le_of_ble_eq_true rfl) (by decide +kernel) (by decide) (isX8_L (isX11_s16 ho0)) ((t_Re_valueCount (T := T) (xs := xs) (isX11_s16 ho0) Hb14).mono (jKle 1 hd)) rfl ?_
                  exact jEv.retI (show jfI 166 175 (.ireturn) 1 [] = true by decide +kernel) (by decide +kernel) (by cases H; exact HY)
                · refine jEv.tsO (t := 176) (show jfI 166 92 (.tableswitch 84 0 4 #[36, 44, 60, 68, 76]) 36 [] = true by decide +kernel) (by omega) rfl (by decide) ?_
                  refine jEv.blk [(.iconst (-1), 1, [])] (by decide +kernel) (pc' := 177) (ls' := [(2, Int.ofNat o0), (0, v1), (0, v2)]) (st' := [(0, (-1))]) rfl ?_
                  exact jEv.retI (show jfI 166 177 (.ireturn) 1 [] = true by decide +kernel) (by decide +kernel) (by cases H; exact HY)
