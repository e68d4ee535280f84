/-! methods as functions -/
set_option maxRecDepth 20000 in
noncomputable def G_addPair  (h : jH) (o0 : Nat) (v1 : Int) : Option jH := Option.bind (G_addOctet h o0 (jand (jshr v1 8) 255)) (fun b1 => Option.bind (G_addOctet b1 o0 (jand v1 255)) (fun b2 => some b2))
set_option maxRecDepth 20000 in
theorem t_G_addPair {T : jT} {xs : List Int} {h : jH}  {o0 : Nat} {v1 : Int} {out : jH} (ho0 : isX11 T o0) (H : G_addPair h o0 v1 = some out) : jEm xs 3 194 [(2, Int.ofNat o0), (0, v1)] (T, h) ((3, 0), (T, out)) := by
  have hd : 2 ≤ 2 := Nat.le_refl _
  obtain ⟨y, ey⟩ : ∃ y : jV × jS, y = ((3, 0), (T, out)) := ⟨_, rfl⟩
  rw [← ey]
  have HY : ykV T y out := ey
  refine jEm.ent (n := 2) (by decide +kernel) (Nat.le_of_ble_eq_true rfl) ?_
  show jEv xs 2 (194, 0, [(2, Int.ofNat o0), (0, v1)], []) (T, h) y
  unfold G_addPair at H
  refine jEv.blk [(.aload_n 0, 1, []), (.iload_n 1, 1, []), (.bipush 8, 2, []), (.ishr, 1, []), (.sipush 255, 3, []), (.iand, 1, [])] (by decide +kernel) (pc' := 9) (ls' := [(2, Int.ofNat o0), (0, v1)]) (st' := [(0, (jand (jshr v1 8) 255)), (2, Int.ofNat o0)]) rfl ?_
  refine jbind H (fun b1 Hb1 H => ?_)
  refine jEv.calV (st' := []) (show jfI 194 9 (.invokevirtual 399) 3 [1, 195, 1, 7004] = true by decide +kernel) rfl (Or.inl rfl) rfl (Nat.le_of_ble_eq_true rfl) (by decide +kernel) (by decide) (isX11_L ho0) ((t_G_addOctet (T := T) (xs := xs) ho0 Hb1).mono (jKle 2 hd)) rfl ?_
  refine jEv.blk [(.aload_n 0, 1, []), (.iload_n 1, 1, []), (.sipush 255, 3, []), (.iand, 1, [])] (by decide +kernel) (pc' := 18) (ls' := [(2, Int.ofNat o0), (0, v1)]) (st' := [(0, (jand v1 255)), (2, Int.ofNat o0)]) rfl ?_
  refine jbind H (fun b2 Hb2 H => ?_)
  refine jEv.calV (st' := []) (show jfI 194 18 (.invokevirtual 399) 3 [1, 195, 1, 7004] = true by decide +kernel) rfl (Or.inl rfl) rfl (Nat.le_of_ble_eq_true rfl) (by decide +kernel) (by decide) (isX11_L ho0) ((t_G_addOctet (T := T) (xs := xs) ho0 Hb2).mono (jKle 2 hd)) rfl ?_
  exact jEv.retV (show jfI 194 21 (.return_) 1 [] = true by decide +kernel) (by decide +kernel) (by cases H; exact HY)
def yk_G_image_L69 (T : jT) (xs : List Int) (d : Nat) (y : jV × jS)  (o0 : Nat) : ((Int × jH) ⊕ (Int × jH)) → Prop
  | .inl (v1, h) => jEv xs d (193, 69, [(2, Int.ofNat o0), (0, v1), (3, 0)], []) (T, h) y
  | .inr o => ykI T y o
def yk_G_image_L27 (T : jT) (xs : List Int) (d : Nat) (y : jV × jS)  (o0 : Nat) : ((Int × jH) ⊕ (Int × jH)) → Prop
  | .inl (v1, h) => jEv xs d (193, 27, [(2, Int.ofNat o0), (0, v1), (3, 0)], []) (T, h) y
  | .inr o => ykI T y o
set_option maxRecDepth 20000 in
noncomputable def G_image_p58 (T : jT) (h : jH) (o0 : Nat) (v1 : Int) (os0 : Nat) (vs1 : Int) : Option ((Int × jH) ⊕ (Int × jH)) := Option.bind (G_addPair h os0 vs1) (fun b7 => some (.inl ((wr (v1 + 1)), b7)))
set_option maxRecDepth 20000 in
theorem t_G_image_p58 {T : jT} {xs : List Int} {d : Nat} {y : jV × jS} (hd : 3 ≤ d) {h : jH}  {o0 : Nat} {v1 : Int} {os0 : Nat} {vs1 : Int} {out : ((Int × jH) ⊕ (Int × jH))} (ho0 : isX11 T o0) (hos0 : isX11 T os0) (H : G_image_p58 T h o0 v1 os0 vs1 = some out) (HY : yk_G_image_L27 T xs d y o0 out) : jEv xs d (193, 58, [(2, Int.ofNat o0), (0, v1), (3, 0)], [(0, vs1), (2, Int.ofNat os0)]) (T, h) y := by
  unfold G_image_p58 at H
  refine jbind H (fun b7 Hb7 H => ?_)
  refine jEv.calV (st' := []) (show jfI 193 58 (.invokevirtual 392) 3 [1, 194, 1, 7000] = true by decide +kernel) rfl (Or.inl rfl) rfl (Nat.le_of_ble_eq_true rfl) (by decide +kernel) (by decide) (isX11_L hos0) ((t_G_addPair (T := T) (xs := xs) hos0 Hb7).mono (jKle 3 hd)) rfl ?_
  refine jEv.blk [(.iinc 1 1, 3, [])] (by decide +kernel) (pc' := 64) (ls' := [(2, Int.ofNat o0), (0, (wr (v1 + 1))), (3, 0)]) (st' := []) rfl ?_
  refine jEv.goto (t := 27) (show jfI 193 64 (.goto (-37)) 3 [] = true by decide +kernel) rfl ?_
  exact (by cases H; exact HY)
set_option maxRecDepth 20000 in
noncomputable def G_image_B69 (T : jT) (h : jH) (o0 : Nat) (v1 : Int) : Option ((Int × jH) ⊕ (Int × jH)) := Option.bind (Di_total h (o0 + 36)) (fun b8 => (if v1 < b8 then Option.bind (G_cell h (o0 + 37) 512 v1) (fun b10 => Option.bind (G_addOctet h o0 b10) (fun b11 => some (.inl ((wr (v1 + 1)), b11)))) else Option.map Sum.inr (Option.bind (G_checkOf h 139 (o0 + 2) 547 0 (h o0 3)) (fun b12 => Option.bind (G_addOctet h o0 b12) (fun b13 => some ((b13 o0 3), b13))))))
noncomputable def G_image_L69 (T : jT) (h : jH) (o0 : Nat) (v1 : Int) : Option (Int × jH) := jloop (fun s : (Int × jH) => G_image_B69 T s.2 o0 s.1) (v1, h)
set_option maxRecDepth 20000 in
theorem t_G_image_B69 {T : jT} {xs : List Int} {d : Nat} {y : jV × jS} (hd : 3 ≤ d) {h : jH}  {o0 : Nat} {v1 : Int} {out : ((Int × jH) ⊕ (Int × jH))} (ho0 : isX11 T o0) (H : G_image_B69 T h o0 v1 = some out) (HY : yk_G_image_L69 T xs d y o0 out) : jEv xs d (193, 69, [(2, Int.ofNat o0), (0, v1), (3, 0)], []) (T, h) y := by
  unfold G_image_B69 at H
  refine jEv.blk [(.iload_n 1, 1, []), (.aload_n 0, 1, [])] (by decide +kernel) (pc' := 71) (ls' := [(2, Int.ofNat o0), (0, v1), (3, 0)]) (st' := [(2, Int.ofNat o0), (0, v1)]) rfl ?_
  refine jEv.gfR (o' := (o0 + 35)) (show jfI 193 71 (.getfield 45) 3 [11, 10, 5, 0, 3011] = true by decide +kernel) (isX11_L ho0) (by decide) (isX11_r10 ho0) ?_
  refine jEv.gfR (o' := (o0 + 36)) (show jfI 193 74 (.getfield 115) 3 [9, 1, 5, 0, 2067] = true by decide +kernel) (isX9_L (isX11_s10 ho0)) (by decide) (isX9_r1 (isX11_s10 ho0)) ?_
  refine jbind H (fun b8 Hb8 H => ?_)
  refine jEv.calV (st' := [(0, b8), (0, v1)]) (show jfI 193 77 (.invokevirtual 311) 3 [1, 18, 0, 6065] = true by decide +kernel) rfl (Or.inl rfl) rfl (Nat.le_of_ble_eq_true rfl) (by decide +kernel) (by decide) (isX0_L (isX9_s1 (isX11_s10 ho0))) ((t_Di_total (T := T) (xs := xs) (isX9_s1 (isX11_s10 ho0)) Hb8).mono (jKle 1 hd)) rfl ?_
  refine jEv.ic_ge (t := 107) (show jfI 193 80 (.if_icmp .ge 27) 3 [] = true by decide +kernel) rfl H (fun c9 H => ?_) (fun c9 H => ?_)
  · refine jEv.blk [(.aload_n 0, 1, []), (.aload_n 0, 1, [])] (by decide +kernel) (pc' := 85) (ls' := [(2, Int.ofNat o0), (0, v1), (3, 0)]) (st' := [(2, Int.ofNat o0), (2, Int.ofNat o0)]) rfl ?_
    refine jEv.gfR (o' := (o0 + 35)) (show jfI 193 85 (.getfield 45) 3 [11, 10, 5, 0, 3011] = true by decide +kernel) (isX11_L ho0) (by decide) (isX11_r10 ho0) ?_
    refine jEv.gfR (o' := (o0 + 36)) (show jfI 193 88 (.getfield 115) 3 [9, 1, 5, 0, 2067] = true by decide +kernel) (isX9_L (isX11_s10 ho0)) (by decide) (isX9_r1 (isX11_s10 ho0)) ?_
    refine jEv.gfR (o' := (o0 + 37)) (show jfI 193 91 (.getfield 396) 3 [0, 0, 5, 0, 1181] = true by decide +kernel) (isX0_L (isX9_s1 (isX11_s10 ho0))) (by decide) (isX0_r0 (isX9_s1 (isX11_s10 ho0))) ?_
    refine jEv.blk [(.iload_n 1, 1, [])] (by decide +kernel) (pc' := 95) (ls' := [(2, Int.ofNat o0), (0, v1), (3, 0)]) (st' := [(0, v1), (2, Int.ofNat (o0 + 37)), (2, Int.ofNat o0)]) rfl ?_
    refine jbind H (fun b10 Hb10 H => ?_)
    refine jEv.calS (st' := [(0, b10), (2, Int.ofNat o0)]) (show jfI 193 95 (.invokestatic 241) 3 [3, 137, 2, 3070] = true by decide +kernel) rfl (Or.inl rfl) rfl (Nat.le_of_ble_eq_true rfl) ((t_G_cell (T := T) (xs := xs) (isX0_a0 (isX9_s1 (isX11_s10 ho0))) Hb10).mono (jKle 1 hd)) rfl ?_
    refine jbind H (fun b11 Hb11 H => ?_)
    refine jEv.calV (st' := []) (show jfI 193 98 (.invokevirtual 399) 3 [1, 195, 1, 7004] = true by decide +kernel) rfl (Or.inl rfl) rfl (Nat.le_of_ble_eq_true rfl) (by decide +kernel) (by decide) (isX11_L ho0) ((t_G_addOctet (T := T) (xs := xs) ho0 Hb11).mono (jKle 2 hd)) rfl ?_
    refine jEv.blk [(.iinc 1 1, 3, [])] (by decide +kernel) (pc' := 104) (ls' := [(2, Int.ofNat o0), (0, (wr (v1 + 1))), (3, 0)]) (st' := []) rfl ?_
    refine jEv.goto (t := 69) (show jfI 193 104 (.goto (-35)) 3 [] = true by decide +kernel) rfl ?_
    exact (by cases H; exact HY)
  · refine jmapr H HY (fun out H (HY : ykI T y out) => ?_)
    refine jEv.blk [(.aload_n 0, 1, []), (.sipush 139, 3, []), (.aload_n 0, 1, [])] (by decide +kernel) (pc' := 112) (ls' := [(2, Int.ofNat o0), (0, v1), (3, 0)]) (st' := [(2, Int.ofNat o0), (0, 139), (2, Int.ofNat o0)]) rfl ?_
    refine jEv.gfR (o' := (o0 + 2)) (show jfI 193 112 (.getfield 13) 3 [11, 2, 5, 0, 3003] = true by decide +kernel) (isX11_L ho0) (by decide) (isX11_r2 ho0) ?_
    refine jEv.blk [(.iconst 0, 1, []), (.aload_n 0, 1, [])] (by decide +kernel) (pc' := 117) (ls' := [(2, Int.ofNat o0), (0, v1), (3, 0)]) (st' := [(2, Int.ofNat o0), (0, 0), (2, Int.ofNat (o0 + 2)), (0, 139), (2, Int.ofNat o0)]) rfl ?_
    refine jEv.gfI (show jfI 193 117 (.getfield 389) 3 [11, 3, 0, 0, 3004] = true by decide +kernel) (isX11_L ho0) (by decide) ?_
    refine jbind H (fun b12 Hb12 H => ?_)
    refine jEv.calS (st' := [(0, b12), (2, Int.ofNat o0)]) (show jfI 193 120 (.invokestatic 402) 3 [3, 145, 4, 7009] = true by decide +kernel) rfl (Or.inl rfl) rfl (Nat.le_of_ble_eq_true rfl) ((t_G_checkOf (T := T) (xs := xs) (isX11_a2 ho0) Hb12).mono (jKle 1 hd)) rfl ?_
    refine jbind H (fun b13 Hb13 H => ?_)
    refine jEv.calV (st' := []) (show jfI 193 123 (.invokevirtual 399) 3 [1, 195, 1, 7004] = true by decide +kernel) rfl (Or.inl rfl) rfl (Nat.le_of_ble_eq_true rfl) (by decide +kernel) (by decide) (isX11_L ho0) ((t_G_addOctet (T := T) (xs := xs) ho0 Hb13).mono (jKle 2 hd)) rfl ?_
    refine jEv.blk [(.aload_n 0, 1, [])] (by decide +kernel) (pc' := 127) (ls' := [(2, Int.ofNat o0), (0, v1), (3, 0)]) (st' := [(2, Int.ofNat o0)]) rfl ?_
    refine jEv.gfI (show jfI 193 127 (.getfield 389) 3 [11, 3, 0, 0, 3004] = true by decide +kernel) (isX11_L ho0) (by decide) ?_
    exact jEv.retI (show jfI 193 130 (.ireturn) 1 [] = true by decide +kernel) (by decide +kernel) (by cases H; exact HY)
theorem t_G_image_L69 {T : jT} {xs : List Int} {d : Nat} {y : jV × jS} (hd : 3 ≤ d) {h : jH}  {o0 : Nat} {v1 : Int} {out : (Int × jH)} (ho0 : isX11 T o0) (H : G_image_L69 T h o0 v1 = some out) (HY : ykI T y out) : jEv xs d (193, 69, [(2, Int.ofNat o0), (0, v1), (3, 0)], []) (T, h) y :=
  jloop_sound (G := fun s : (Int × jH) => jEv xs d (193, 69, [(2, Int.ofNat o0), (0, s.1), (3, 0)], []) (T, s.2) y) (K := yk_G_image_L69 T xs d y o0) (fun s out H HY => t_G_image_B69 hd ho0 H HY) (fun s' hg => hg) (s := (v1, h)) H HY
set_option maxRecDepth 20000 in
noncomputable def G_image_B27 (T : jT) (h : jH) (o0 : Nat) (v1 : Int) : Option ((Int × jH) ⊕ (Int × jH)) := (if v1 < 16 then Option.bind (G_cell h (o0 + 54) 16 v1) (fun b5 => (if b5 = (-1) then G_image_p58 T h o0 v1 o0 65535 else G_image_p58 T h o0 v1 o0 b5)) else Option.map Sum.inr (G_image_L69 T h o0 0))
noncomputable def G_image_L27 (T : jT) (h : jH) (o0 : Nat) (v1 : Int) : Option (Int × jH) := jloop (fun s : (Int × jH) => G_image_B27 T s.2 o0 s.1) (v1, h)
set_option maxRecDepth 20000 in
theorem t_G_image_B27 {T : jT} {xs : List Int} {d : Nat} {y : jV × jS} (hd : 3 ≤ d) {h : jH}  {o0 : Nat} {v1 : Int} {out : ((Int × jH) ⊕ (Int × jH))} (ho0 : isX11 T o0) (H : G_image_B27 T h o0 v1 = some out) (HY : yk_G_image_L27 T xs d y o0 out) : jEv xs d (193, 27, [(2, Int.ofNat o0), (0, v1), (3, 0)], []) (T, h) y := by
  unfold G_image_B27 at H
  refine jEv.blk [(.iload_n 1, 1, []), (.bipush 16, 2, [])] (by decide +kernel) (pc' := 30) (ls' := [(2, Int.ofNat o0), (0, v1), (3, 0)]) (st' := [(0, 16), (0, v1)]) rfl ?_
  refine jEv.ic_ge (t := 67) (show jfI 193 30 (.if_icmp .ge 37) 3 [] = true by decide +kernel) rfl H (fun c4 H => ?_) (fun c4 H => ?_)
  · refine jEv.blk [(.aload_n 0, 1, [])] (by decide +kernel) (pc' := 34) (ls' := [(2, Int.ofNat o0), (0, v1), (3, 0)]) (st' := [(2, Int.ofNat o0)]) rfl ?_
    refine jEv.gfR (o' := (o0 + 35)) (show jfI 193 34 (.getfield 45) 3 [11, 10, 5, 0, 3011] = true by decide +kernel) (isX11_L ho0) (by decide) (isX11_r10 ho0) ?_
    refine jEv.gfR (o' := (o0 + 54)) (show jfI 193 37 (.getfield 289) 3 [9, 6, 5, 0, 2079] = true by decide +kernel) (isX9_L (isX11_s10 ho0)) (by decide) (isX9_r6 (isX11_s10 ho0)) ?_
    refine jEv.blk [(.iload_n 1, 1, [])] (by decide +kernel) (pc' := 41) (ls' := [(2, Int.ofNat o0), (0, v1), (3, 0)]) (st' := [(0, v1), (2, Int.ofNat (o0 + 54))]) rfl ?_
    refine jbind H (fun b5 Hb5 H => ?_)
    refine jEv.calS (st' := [(0, b5)]) (show jfI 193 41 (.invokestatic 241) 3 [3, 137, 2, 3070] = true by decide +kernel) rfl (Or.inl rfl) rfl (Nat.le_of_ble_eq_true rfl) ((t_G_cell (T := T) (xs := xs) (isX9_a6 (isX11_s10 ho0)) Hb5).mono (jKle 1 hd)) rfl ?_
    refine jEv.blk [(.istore_n 2, 1, []), (.aload_n 0, 1, []), (.iload_n 2, 1, []), (.iconst (-1), 1, [])] (by decide +kernel) (pc' := 48) (ls' := [(2, Int.ofNat o0), (0, v1), (0, b5)]) (st' := [(0, (-1)), (0, b5), (2, Int.ofNat o0)]) rfl ?_
    refine jEv.ic_ne (t := 57) (show jfI 193 48 (.if_icmp .ne 9) 3 [] = true by decide +kernel) rfl H (fun c6 H => ?_) (fun c6 H => ?_)
    · refine jEv.blk [(.ldc_w 395, 3, [0, 0, 65535, 7008])] (by decide +kernel) (pc' := 54) (ls' := [(2, Int.ofNat o0), (0, v1), (0, b5)]) (st' := [(0, 65535), (2, Int.ofNat o0)]) rfl ?_
      refine jEv.goto (t := 58) (show jfI 193 54 (.goto 4) 3 [] = true by decide +kernel) rfl ?_
      exact jEv.weak (a := [(2, Int.ofNat o0), (0, v1), (3, 0)]) (jles.c1 (jles.c1 (jles.c0 jles.nl))) (t_G_image_p58 (T := T) (xs := xs) (y := y) hd ho0 ho0 H HY)
    · refine jEv.blk [(.iload_n 2, 1, [])] (by decide +kernel) (pc' := 58) (ls' := [(2, Int.ofNat o0), (0, v1), (0, b5)]) (st' := [(0, b5), (2, Int.ofNat o0)]) rfl ?_
      exact jEv.weak (a := [(2, Int.ofNat o0), (0, v1), (3, 0)]) (jles.c1 (jles.c1 (jles.c0 jles.nl))) (t_G_image_p58 (T := T) (xs := xs) (y := y) hd ho0 ho0 H HY)
  · refine jmapr H HY (fun out H (HY : ykI T y out) => ?_)
    refine jEv.blk [(.iconst 0, 1, []), (.istore_n 1, 1, [])] (by decide +kernel) (pc' := 69) (ls' := [(2, Int.ofNat o0), (0, 0), (3, 0)]) (st' := []) rfl ?_
    exact t_G_image_L69 (T := T) (xs := xs) (y := y) hd ho0 H HY
theorem t_G_image_L27 {T : jT} {xs : List Int} {d : Nat} {y : jV × jS} (hd : 3 ≤ d) {h : jH}  {o0 : Nat} {v1 : Int} {out : (Int × jH)} (ho0 : isX11 T o0) (H : G_image_L27 T h o0 v1 = some out) (HY : ykI T y out) : jEv xs d (193, 27, [(2, Int.ofNat o0), (0, v1), (3, 0)], []) (T, h) y :=
  jloop_sound (G := fun s : (Int × jH) => jEv xs d (193, 27, [(2, Int.ofNat o0), (0, s.1), (3, 0)], []) (T, s.2) y) (K := yk_G_image_L27 T xs d y o0) (fun s out H HY => t_G_image_B27 hd ho0 H HY) (fun s' hg => hg) (s := (v1, h)) H HY
set_option maxRecDepth 20000 in
noncomputable def G_image (T : jT) (h : jH) (o0 : Nat) : Option (Int × jH) := Option.bind (G_isTold T h o0) (fun b1 => (if b1 = 0 then some ((-1), h) else Option.bind (G_addPair (jup h o0 3 0) o0 ((jup h o0 3 0) (o0 + 35) 7)) (fun b3 => G_image_L27 T b3 o0 0)))
set_option maxRecDepth 20000 in
theorem t_G_image {T : jT} {xs : List Int} {h : jH}  {o0 : Nat} {out : (Int × jH)} (ho0 : isX11 T o0) (H : G_image T h o0 = some out) : jEm xs 4 193 [(2, Int.ofNat o0)] (T, h) ((0, out.1), (T, out.2)) := by
  have hd : 3 ≤ 3 := Nat.le_refl _
  obtain ⟨y, ey⟩ : ∃ y : jV × jS, y = ((0, out.1), (T, out.2)) := ⟨_, rfl⟩
  rw [← ey]
  have HY : ykI T y out := ey
  refine jEm.ent (n := 3) (by decide +kernel) (Nat.le_of_ble_eq_true rfl) ?_
  show jEv xs 3 (193, 0, [(2, Int.ofNat o0), (3, 0), (3, 0)], []) (T, h) y
  unfold G_image at H
  refine jEv.blk [(.aload_n 0, 1, [])] (by decide +kernel) (pc' := 1) (ls' := [(2, Int.ofNat o0), (3, 0), (3, 0)]) (st' := [(2, Int.ofNat o0)]) rfl ?_
  refine jbind H (fun b1 Hb1 H => ?_)
  refine jEv.calV (st' := [(0, b1)]) (show jfI 193 1 (.invokevirtual 228) 3 [1, 152, 0, 5004] = true by decide +kernel) rfl (Or.inl rfl) rfl (Nat.le_of_ble_eq_true rfl) (by decide +kernel) (by decide) (isX11_L ho0) ((t_G_isTold (T := T) (xs := xs) ho0 Hb1).mono (jKle 1 hd)) rfl ?_
  refine jEv.if_ne (t := 9) (show jfI 193 4 (.ifCond .ne 5) 3 [] = true by decide +kernel) rfl H (fun c2 H => ?_) (fun c2 H => ?_)
  · refine jEv.blk [(.iconst (-1), 1, [])] (by decide +kernel) (pc' := 8) (ls' := [(2, Int.ofNat o0), (3, 0), (3, 0)]) (st' := [(0, (-1))]) rfl ?_
    exact jEv.retI (show jfI 193 8 (.ireturn) 1 [] = true by decide +kernel) (by decide +kernel) (by cases H; exact HY)
  · refine jEv.blk [(.aload_n 0, 1, []), (.iconst 0, 1, [])] (by decide +kernel) (pc' := 11) (ls' := [(2, Int.ofNat o0), (3, 0), (3, 0)]) (st' := [(0, 0), (2, Int.ofNat o0)]) rfl ?_
    refine jEv.pfI (show jfI 193 11 (.putfield 389) 3 [11, 3, 0, 0, 3004] = true by decide +kernel) (isX11_L ho0) (by decide) ?_
    refine jEv.blk [(.aload_n 0, 1, []), (.aload_n 0, 1, [])] (by decide +kernel) (pc' := 16) (ls' := [(2, Int.ofNat o0), (3, 0), (3, 0)]) (st' := [(2, Int.ofNat o0), (2, Int.ofNat o0)]) rfl ?_
    refine jEv.gfR (o' := (o0 + 35)) (show jfI 193 16 (.getfield 45) 3 [11, 10, 5, 0, 3011] = true by decide +kernel) (isX11_L ho0) (by decide) (isX11_r10 ho0) ?_
    refine jEv.gfI (show jfI 193 19 (.getfield 157) 3 [9, 7, 0, 0, 2081] = true by decide +kernel) (isX9_L (isX11_s10 ho0)) (by decide) ?_
    refine jbind H (fun b3 Hb3 H => ?_)
    refine jEv.calV (st' := []) (show jfI 193 22 (.invokevirtual 392) 3 [1, 194, 1, 7000] = true by decide +kernel) rfl (Or.inl rfl) rfl (Nat.le_of_ble_eq_true rfl) (by decide +kernel) (by decide) (isX11_L ho0) ((t_G_addPair (T := T) (xs := xs) ho0 Hb3).mono (jKle 3 hd)) rfl ?_
    refine jEv.blk [(.iconst 0, 1, []), (.istore_n 1, 1, [])] (by decide +kernel) (pc' := 27) (ls' := [(2, Int.ofNat o0), (0, 0), (3, 0)]) (st' := []) rfl ?_
    exact t_G_image_L27 (T := T) (xs := xs) (y := y) hd ho0 H HY
set_option maxRecDepth 20000 in
noncomputable def G_octet  (h : jH) (o0 : Nat) (v1 : Int) : Option Int := (if v1 < (h o0 3) then Option.bind (G_cell h (o0 + 2) 547 v1) (fun b2 => some b2) else some (-1))
set_option maxRecDepth 20000 in
theorem t_G_octet {T : jT} {xs : List Int} {h : jH}  {o0 : Nat} {v1 : Int} {out : Int} (ho0 : isX11 T o0) (H : G_octet h o0 v1 = some out) : jEm xs 2 196 [(2, Int.ofNat o0), (0, v1)] (T, h) ((0, out), (T, h)) := by
  have hd : 1 ≤ 1 := Nat.le_refl _
  obtain ⟨y, ey⟩ : ∃ y : jV × jS, y = ((0, out), (T, h)) := ⟨_, rfl⟩
  rw [← ey]
  have HY : ykIp T h y out := ey
  refine jEm.ent (n := 2) (by decide +kernel) (Nat.le_of_ble_eq_true rfl) ?_
  show jEv xs 1 (196, 0, [(2, Int.ofNat o0), (0, v1)], []) (T, h) y
  unfold G_octet at H
  refine jEv.blk [(.iload_n 1, 1, []), (.aload_n 0, 1, [])] (by decide +kernel) (pc' := 2) (ls' := [(2, Int.ofNat o0), (0, v1)]) (st' := [(2, Int.ofNat o0), (0, v1)]) rfl ?_
  refine jEv.gfI (show jfI 196 2 (.getfield 389) 3 [11, 3, 0, 0, 3004] = true by decide +kernel) (isX11_L ho0) (by decide) ?_
  refine jEv.ic_ge (t := 19) (show jfI 196 5 (.if_icmp .ge 14) 3 [] = true by decide +kernel) rfl H (fun c1 H => ?_) (fun c1 H => ?_)
  · refine jEv.blk [(.aload_n 0, 1, [])] (by decide +kernel) (pc' := 9) (ls' := [(2, Int.ofNat o0), (0, v1)]) (st' := [(2, Int.ofNat o0)]) rfl ?_
    refine jEv.gfR (o' := (o0 + 2)) (show jfI 196 9 (.getfield 13) 3 [11, 2, 5, 0, 3003] = true by decide +kernel) (isX11_L ho0) (by decide) (isX11_r2 ho0) ?_
    refine jEv.blk [(.iload_n 1, 1, [])] (by decide +kernel) (pc' := 13) (ls' := [(2, Int.ofNat o0), (0, v1)]) (st' := [(0, v1), (2, Int.ofNat (o0 + 2))]) rfl ?_
    refine jbind H (fun b2 Hb2 H => ?_)
    refine jEv.calS (st' := [(0, b2)]) (show jfI 196 13 (.invokestatic 241) 3 [3, 137, 2, 3070] = true by decide +kernel) rfl (Or.inl rfl) rfl (Nat.le_of_ble_eq_true rfl) ((t_G_cell (T := T) (xs := xs) (isX11_a2 ho0) Hb2).mono (jKle 1 hd)) rfl ?_
    refine jEv.goto (t := 20) (show jfI 196 16 (.goto 4) 3 [] = true by decide +kernel) rfl ?_
    exact jEv.retI (show jfI 196 20 (.ireturn) 1 [] = true by decide +kernel) (by decide +kernel) (by cases H; exact HY)
  · refine jEv.blk [(.iconst (-1), 1, [])] (by decide +kernel) (pc' := 20) (ls' := [(2, Int.ofNat o0), (0, v1)]) (st' := [(0, (-1))]) rfl ?_
    exact jEv.retI (show jfI 196 20 (.ireturn) 1 [] = true by decide +kernel) (by decide +kernel) (by cases H; exact HY)
def yk_G_isImage_L23 (T : jT) (xs : List Int) (d : Nat) (y : jV × jS) (h : jH)  (o0 : Nat) (v1 : Int) : (Int ⊕ Int) → Prop
  | .inl v2 => jEv xs d (198, 23, [(2, Int.ofNat o0), (0, v1), (0, v2), (3, 0)], []) (T, h) y
  | .inr o => ykIp T h y o
set_option maxRecDepth 20000 in
noncomputable def G_isImage_B23  (h : jH) (o0 : Nat) (v1 : Int) (v2 : Int) : Option (Int ⊕ Int) := (if v2 < 16 then Option.bind (G_tapePair h o0 (wr (2 + (wr (2 * v2))))) (fun b4 => (if b4 < 1000 then some (.inl ((wr (v2 + 1)))) else (if b4 = 65535 then some (.inl ((wr (v2 + 1)))) else Option.map Sum.inr (some 0)))) else Option.map Sum.inr (Option.bind (G_cell h (o0 + 1) 1600 (wr (v1 - 1))) (fun b7 => Option.bind (G_checkOf h 139 (o0 + 1) 1600 0 (wr (v1 - 1))) (fun b8 => (if b7 = b8 then some 1 else some 0)))))
noncomputable def G_isImage_L23  (h : jH) (o0 : Nat) (v1 : Int) (v2 : Int) : Option Int := jloop (fun s : Int => G_isImage_B23 h o0 v1 s) (v2)
set_option maxRecDepth 20000 in
theorem t_G_isImage_B23 {T : jT} {xs : List Int} {d : Nat} {y : jV × jS} (hd : 2 ≤ d) {h : jH}  {o0 : Nat} {v1 : Int} {v2 : Int} {out : (Int ⊕ Int)} (ho0 : isX11 T o0) (H : G_isImage_B23 h o0 v1 v2 = some out) (HY : yk_G_isImage_L23 T xs d y h o0 v1 out) : jEv xs d (198, 23, [(2, Int.ofNat o0), (0, v1), (0, v2), (3, 0)], []) (T, h) y := by
  unfold G_isImage_B23 at H
  refine jEv.blk [(.iload_n 2, 1, []), (.bipush 16, 2, [])] (by decide +kernel) (pc' := 26) (ls' := [(2, Int.ofNat o0), (0, v1), (0, v2), (3, 0)]) (st' := [(0, 16), (0, v2)]) rfl ?_
  refine jEv.ic_ge (t := 61) (show jfI 198 26 (.if_icmp .ge 35) 3 [] = true by decide +kernel) rfl H (fun c3 H => ?_) (fun c3 H => ?_)
  · refine jEv.blk [(.aload_n 0, 1, []), (.iconst 2, 1, []), (.iconst 2, 1, []), (.iload_n 2, 1, []), (.imul, 1, []), (.iadd, 1, [])] (by decide +kernel) (pc' := 35) (ls' := [(2, Int.ofNat o0), (0, v1), (0, v2), (3, 0)]) (st' := [(0, (wr (2 + (wr (2 * v2))))), (2, Int.ofNat o0)]) rfl ?_
    refine jbind H (fun b4 Hb4 H => ?_)
    refine jEv.calV (st' := [(0, b4)]) (show jfI 198 35 (.invokevirtual 412) 3 [1, 170, 1, 6082] = true by decide +kernel) rfl (Or.inl rfl) rfl (Nat.le_of_ble_eq_true rfl) (by decide +kernel) (by decide) (isX11_L ho0) ((t_G_tapePair (T := T) (xs := xs) ho0 Hb4).mono (jKle 2 hd)) rfl ?_
    refine jEv.blk [(.istore_n 3, 1, []), (.iload_n 3, 1, []), (.sipush 1000, 3, [])] (by decide +kernel) (pc' := 43) (ls' := [(2, Int.ofNat o0), (0, v1), (0, v2), (0, b4)]) (st' := [(0, 1000), (0, b4)]) rfl ?_
    refine jEv.ic_lt (t := 55) (show jfI 198 43 (.if_icmp .lt 12) 3 [] = true by decide +kernel) rfl H (fun c5 H => ?_) (fun c5 H => ?_)
    · refine jEv.blk [(.iinc 2 1, 3, [])] (by decide +kernel) (pc' := 58) (ls' := [(2, Int.ofNat o0), (0, v1), (0, (wr (v2 + 1))), (0, b4)]) (st' := []) rfl ?_
      refine jEv.goto (t := 23) (show jfI 198 58 (.goto (-35)) 3 [] = true by decide +kernel) rfl ?_
      exact jEv.weak (a := [(2, Int.ofNat o0), (0, v1), (0, (wr (v2 + 1))), (3, 0)]) (jles.c1 (jles.c1 (jles.c1 (jles.c0 jles.nl)))) ((by cases H; exact HY))
    · refine jEv.blk [(.iload_n 3, 1, []), (.ldc_w 395, 3, [0, 0, 65535, 7008])] (by decide +kernel) (pc' := 50) (ls' := [(2, Int.ofNat o0), (0, v1), (0, v2), (0, b4)]) (st' := [(0, 65535), (0, b4)]) rfl ?_
      refine jEv.ic_eq (t := 55) (show jfI 198 50 (.if_icmp .eq 5) 3 [] = true by decide +kernel) rfl H (fun c6 H => ?_) (fun c6 H => ?_)
      · refine jEv.blk [(.iinc 2 1, 3, [])] (by decide +kernel) (pc' := 58) (ls' := [(2, Int.ofNat o0), (0, v1), (0, (wr (v2 + 1))), (0, b4)]) (st' := []) rfl ?_
        refine jEv.goto (t := 23) (show jfI 198 58 (.goto (-35)) 3 [] = true by decide +kernel) rfl ?_
        exact jEv.weak (a := [(2, Int.ofNat o0), (0, v1), (0, (wr (v2 + 1))), (3, 0)]) (jles.c1 (jles.c1 (jles.c1 (jles.c0 jles.nl)))) ((by cases H; exact HY))
      · refine jmapr H HY (fun out H (HY : ykIp T h y out) => ?_)
        refine jEv.blk [(.iconst 0, 1, [])] (by decide +kernel) (pc' := 54) (ls' := [(2, Int.ofNat o0), (0, v1), (0, v2), (0, b4)]) (st' := [(0, 0)]) rfl ?_
        exact jEv.retZ (show jfI 198 54 (.ireturn) 1 [] = true by decide +kernel) (by decide +kernel) (by decide) (by cases H; exact HY)
  · refine jmapr H HY (fun out H (HY : ykIp T h y out) => ?_)
    refine jEv.blk [(.aload_n 0, 1, [])] (by decide +kernel) (pc' := 62) (ls' := [(2, Int.ofNat o0), (0, v1), (0, v2), (3, 0)]) (st' := [(2, Int.ofNat o0)]) rfl ?_
    refine jEv.gfR (o' := (o0 + 1)) (show jfI 198 62 (.getfield 9) 3 [11, 0, 5, 0, 3001] = true by decide +kernel) (isX11_L ho0) (by decide) (isX11_r0 ho0) ?_
    refine jEv.blk [(.iload_n 1, 1, []), (.iconst 1, 1, []), (.isub, 1, [])] (by decide +kernel) (pc' := 68) (ls' := [(2, Int.ofNat o0), (0, v1), (0, v2), (3, 0)]) (st' := [(0, (wr (v1 - 1))), (2, Int.ofNat (o0 + 1))]) rfl ?_
    refine jbind H (fun b7 Hb7 H => ?_)
    refine jEv.calS (st' := [(0, b7)]) (show jfI 198 68 (.invokestatic 241) 3 [3, 137, 2, 3070] = true by decide +kernel) rfl (Or.inl rfl) rfl (Nat.le_of_ble_eq_true rfl) ((t_G_cell (T := T) (xs := xs) (isX11_a0 ho0) Hb7).mono (jKle 1 hd)) rfl ?_
    refine jEv.blk [(.sipush 139, 3, []), (.aload_n 0, 1, [])] (by decide +kernel) (pc' := 75) (ls' := [(2, Int.ofNat o0), (0, v1), (0, v2), (3, 0)]) (st' := [(2, Int.ofNat o0), (0, 139), (0, b7)]) rfl ?_
    refine jEv.gfR (o' := (o0 + 1)) (show jfI 198 75 (.getfield 9) 3 [11, 0, 5, 0, 3001] = true by decide +kernel) (isX11_L ho0) (by decide) (isX11_r0 ho0) ?_
    refine jEv.blk [(.iconst 0, 1, []), (.iload_n 1, 1, []), (.iconst 1, 1, []), (.isub, 1, [])] (by decide +kernel) (pc' := 82) (ls' := [(2, Int.ofNat o0), (0, v1), (0, v2), (3, 0)]) (st' := [(0, (wr (v1 - 1))), (0, 0), (2, Int.ofNat (o0 + 1)), (0, 139), (0, b7)]) rfl ?_
    refine jbind H (fun b8 Hb8 H => ?_)
    refine jEv.calS (st' := [(0, b8), (0, b7)]) (show jfI 198 82 (.invokestatic 402) 3 [3, 145, 4, 7009] = true by decide +kernel) rfl (Or.inl rfl) rfl (Nat.le_of_ble_eq_true rfl) ((t_G_checkOf (T := T) (xs := xs) (isX11_a0 ho0) Hb8).mono (jKle 1 hd)) rfl ?_
    refine jEv.ic_ne (t := 92) (show jfI 198 85 (.if_icmp .ne 7) 3 [] = true by decide +kernel) rfl H (fun c9 H => ?_) (fun c9 H => ?_)
    · refine jEv.blk [(.iconst 1, 1, [])] (by decide +kernel) (pc' := 89) (ls' := [(2, Int.ofNat o0), (0, v1), (0, v2), (3, 0)]) (st' := [(0, 1)]) rfl ?_
      refine jEv.goto (t := 93) (show jfI 198 89 (.goto 4) 3 [] = true by decide +kernel) rfl ?_
      exact jEv.retZ (show jfI 198 93 (.ireturn) 1 [] = true by decide +kernel) (by decide +kernel) (by decide) (by cases H; exact HY)
    · refine jEv.blk [(.iconst 0, 1, [])] (by decide +kernel) (pc' := 93) (ls' := [(2, Int.ofNat o0), (0, v1), (0, v2), (3, 0)]) (st' := [(0, 0)]) rfl ?_
      exact jEv.retZ (show jfI 198 93 (.ireturn) 1 [] = true by decide +kernel) (by decide +kernel) (by decide) (by cases H; exact HY)
theorem t_G_isImage_L23 {T : jT} {xs : List Int} {d : Nat} {y : jV × jS} (hd : 2 ≤ d) {h : jH}  {o0 : Nat} {v1 : Int} {v2 : Int} {out : Int} (ho0 : isX11 T o0) (H : G_isImage_L23 h o0 v1 v2 = some out) (HY : ykIp T h y out) : jEv xs d (198, 23, [(2, Int.ofNat o0), (0, v1), (0, v2), (3, 0)], []) (T, h) y :=
  jloop_sound (G := fun s : Int => jEv xs d (198, 23, [(2, Int.ofNat o0), (0, v1), (0, s), (3, 0)], []) (T, h) y) (K := yk_G_isImage_L23 T xs d y h o0 v1) (fun s out H HY => t_G_isImage_B23 hd ho0 H HY) (fun s' hg => hg) (s := (v2)) H HY
set_option maxRecDepth 20000 in
noncomputable def G_isImage  (h : jH) (o0 : Nat) (v1 : Int) : Option Int := Option.bind (Di_total h (o0 + 36)) (fun b1 => (if v1 = (wr ((wr (34 + b1)) + 1)) then G_isImage_L23 h o0 v1 0 else some 0))
set_option maxRecDepth 20000 in
theorem t_G_isImage {T : jT} {xs : List Int} {h : jH}  {o0 : Nat} {v1 : Int} {out : Int} (ho0 : isX11 T o0) (H : G_isImage h o0 v1 = some out) : jEm xs 3 198 [(2, Int.ofNat o0), (0, v1)] (T, h) ((0, out), (T, h)) := by
  have hd : 2 ≤ 2 := Nat.le_refl _
  obtain ⟨y, ey⟩ : ∃ y : jV × jS, y = ((0, out), (T, h)) := ⟨_, rfl⟩
  rw [← ey]
  have HY : ykIp T h y out := ey
  refine jEm.ent (n := 4) (by decide +kernel) (Nat.le_of_ble_eq_true rfl) ?_
  show jEv xs 2 (198, 0, [(2, Int.ofNat o0), (0, v1), (3, 0), (3, 0)], []) (T, h) y
  unfold G_isImage at H
  refine jEv.blk [(.iload_n 1, 1, []), (.bipush 34, 2, []), (.aload_n 0, 1, [])] (by decide +kernel) (pc' := 4) (ls' := [(2, Int.ofNat o0), (0, v1), (3, 0), (3, 0)]) (st' := [(2, Int.ofNat o0), (0, 34), (0, v1)]) rfl ?_
  refine jEv.gfR (o' := (o0 + 35)) (show jfI 198 4 (.getfield 45) 3 [11, 10, 5, 0, 3011] = true by decide +kernel) (isX11_L ho0) (by decide) (isX11_r10 ho0) ?_
  refine jEv.gfR (o' := (o0 + 36)) (show jfI 198 7 (.getfield 115) 3 [9, 1, 5, 0, 2067] = true by decide +kernel) (isX9_L (isX11_s10 ho0)) (by decide) (isX9_r1 (isX11_s10 ho0)) ?_
  refine jbind H (fun b1 Hb1 H => ?_)
  refine jEv.calV (st' := [(0, b1), (0, 34), (0, v1)]) (show jfI 198 10 (.invokevirtual 311) 3 [1, 18, 0, 6065] = true by decide +kernel) rfl (Or.inl rfl) rfl (Nat.le_of_ble_eq_true rfl) (by decide +kernel) (by decide) (isX0_L (isX9_s1 (isX11_s10 ho0))) ((t_Di_total (T := T) (xs := xs) (isX9_s1 (isX11_s10 ho0)) Hb1).mono (jKle 1 hd)) rfl ?_
  refine jEv.blk [(.iadd, 1, []), (.iconst 1, 1, []), (.iadd, 1, [])] (by decide +kernel) (pc' := 16) (ls' := [(2, Int.ofNat o0), (0, v1), (3, 0), (3, 0)]) (st' := [(0, (wr ((wr (34 + b1)) + 1))), (0, v1)]) rfl ?_
  refine jEv.ic_eq (t := 21) (show jfI 198 16 (.if_icmp .eq 5) 3 [] = true by decide +kernel) rfl H (fun c2 H => ?_) (fun c2 H => ?_)
  · refine jEv.blk [(.iconst 0, 1, []), (.istore_n 2, 1, [])] (by decide +kernel) (pc' := 23) (ls' := [(2, Int.ofNat o0), (0, v1), (0, 0), (3, 0)]) (st' := []) rfl ?_
    exact t_G_isImage_L23 (T := T) (xs := xs) (y := y) hd ho0 H HY
  · refine jEv.blk [(.iconst 0, 1, [])] (by decide +kernel) (pc' := 20) (ls' := [(2, Int.ofNat o0), (0, v1), (3, 0), (3, 0)]) (st' := [(0, 0)]) rfl ?_
    exact jEv.retZ (show jfI 198 20 (.ireturn) 1 [] = true by decide +kernel) (by decide +kernel) (by decide) (by cases H; exact HY)
def yk_G_on_L104 (T : jT) (xs : List Int) (d : Nat) (y : jV × jS)  (o0 : Nat) : ((Int × jH) ⊕ (Int × jH)) → Prop
  | .inl (v2, h) => jEv xs d (197, 104, [(2, Int.ofNat o0), (3, 0), (0, v2), (3, 0)], []) (T, h) y
  | .inr o => ykI T y o
def yk_G_on_L57 (T : jT) (xs : List Int) (d : Nat) (y : jV × jS)  (o0 : Nat) : ((Int × jH) ⊕ (Int × jH)) → Prop
  | .inl (v2, h) => jEv xs d (197, 57, [(2, Int.ofNat o0), (3, 0), (0, v2), (3, 0)], []) (T, h) y
  | .inr o => ykI T y o
set_option maxRecDepth 20000 in
noncomputable def G_on_p20 (T : jT) (h : jH) (o0 : Nat) : Option (Int × jH) := Option.bind (G_deny h o0 6) (fun b9 => (if b9.1 = 0 ∨ b9.1 = 1 then some (b9.1, b9.2) else none))
set_option maxRecDepth 20000 in
theorem t_G_on_p20 {T : jT} {xs : List Int} {d : Nat} {y : jV × jS} (hd : 6 ≤ d) {h : jH}  {o0 : Nat} {out : (Int × jH)} (ho0 : isX11 T o0) (H : G_on_p20 T h o0 = some out) (HY : ykI T y out) : jEv xs d (197, 20, [(2, Int.ofNat o0), (3, 0), (3, 0), (3, 0)], []) (T, h) y := by
  unfold G_on_p20 at H
  refine jEv.blk [(.aload_n 0, 1, []), (.bipush 6, 2, [])] (by decide +kernel) (pc' := 23) (ls' := [(2, Int.ofNat o0), (3, 0), (3, 0), (3, 0)]) (st' := [(0, 6), (2, Int.ofNat o0)]) rfl ?_
  refine jbind H (fun b9 Hb9 H => ?_)
  refine jEv.calV (st' := [(0, b9.1)]) (show jfI 197 23 (.invokevirtual 88) 3 [1, 141, 1, 3084] = true by decide +kernel) rfl (Or.inl rfl) rfl (Nat.le_of_ble_eq_true rfl) (by decide +kernel) (by decide) (isX11_L ho0) ((t_G_deny (T := T) (xs := xs) ho0 Hb9).mono (jKle 3 hd)) rfl ?_
  refine jchk H (fun c10 H => ?_)
  exact jEv.retZ (show jfI 197 26 (.ireturn) 1 [] = true by decide +kernel) (by decide +kernel) c10 (by cases H; exact HY)
set_option maxRecDepth 20000 in
noncomputable def G_on_p93 (T : jT) (h : jH) (o0 : Nat) (v2 : Int) (rs0 : Nat) (ns0 : Nat) (vs1 : Int) (vs2 : Int) : Option ((Int × jH) ⊕ (Int × jH)) := Option.bind (G_put h rs0 ns0 vs1 vs2) (fun b14 => some (.inl ((wr (v2 + 1)), b14)))
set_option maxRecDepth 20000 in
theorem t_G_on_p93 {T : jT} {xs : List Int} {d : Nat} {y : jV × jS} (hd : 6 ≤ d) {h : jH}  {o0 : Nat} {v2 : Int} {rs0 : Nat} {ns0 : Nat} {vs1 : Int} {vs2 : Int} {out : ((Int × jH) ⊕ (Int × jH))} (ho0 : isX11 T o0) (hrs0 : T.1[rs0]? = some (20, ns0)) (H : G_on_p93 T h o0 v2 rs0 ns0 vs1 vs2 = some out) (HY : yk_G_on_L57 T xs d y o0 out) : jEv xs d (197, 93, [(2, Int.ofNat o0), (3, 0), (0, v2), (3, 0)], [(0, vs2), (0, vs1), (2, Int.ofNat rs0)]) (T, h) y := by
  unfold G_on_p93 at H
  refine jbind H (fun b14 Hb14 H => ?_)
  refine jEv.calS (st' := []) (show jfI 197 93 (.invokestatic 415) 3 [3, 138, 3, 3073] = true by decide +kernel) rfl (Or.inl rfl) rfl (Nat.le_of_ble_eq_true rfl) ((t_G_put (T := T) (xs := xs) hrs0 Hb14).mono (jKle 1 hd)) rfl ?_
  refine jEv.blk [(.iinc 2 1, 3, [])] (by decide +kernel) (pc' := 99) (ls' := [(2, Int.ofNat o0), (3, 0), (0, (wr (v2 + 1))), (3, 0)]) (st' := []) rfl ?_
  refine jEv.goto (t := 57) (show jfI 197 99 (.goto (-42)) 3 [] = true by decide +kernel) rfl ?_
  exact (by cases H; exact HY)
set_option maxRecDepth 20000 in
noncomputable def G_on_B104 (T : jT) (h : jH) (o0 : Nat) (v2 : Int) : Option ((Int × jH) ⊕ (Int × jH)) := Option.bind (Di_total h (o0 + 36)) (fun b15 => (if v2 < b15 then Option.bind (G_cell h (o0 + 1) 1600 (wr (34 + v2))) (fun b17 => Option.bind (Di_write h (o0 + 36) v2 b17) (fun b18 => some (.inl ((wr (v2 + 1)), b18)))) else Option.map Sum.inr (Option.bind (Di_greatestSerial h (o0 + 36)) (fun b19 => Option.bind (St_recover (jup h (o0 + 35) 13 b19) (o0 + 35) (o0 + 79)) (fun b20 => some (1, b20))))))
noncomputable def G_on_L104 (T : jT) (h : jH) (o0 : Nat) (v2 : Int) : Option (Int × jH) := jloop (fun s : (Int × jH) => G_on_B104 T s.2 o0 s.1) (v2, h)
set_option maxRecDepth 20000 in
theorem t_G_on_B104 {T : jT} {xs : List Int} {d : Nat} {y : jV × jS} (hd : 6 ≤ d) {h : jH}  {o0 : Nat} {v2 : Int} {out : ((Int × jH) ⊕ (Int × jH))} (ho0 : isX11 T o0) (H : G_on_B104 T h o0 v2 = some out) (HY : yk_G_on_L104 T xs d y o0 out) : jEv xs d (197, 104, [(2, Int.ofNat o0), (3, 0), (0, v2), (3, 0)], []) (T, h) y := by
  unfold G_on_B104 at H
  refine jEv.blk [(.iload_n 2, 1, []), (.aload_n 0, 1, [])] (by decide +kernel) (pc' := 106) (ls' := [(2, Int.ofNat o0), (3, 0), (0, v2), (3, 0)]) (st' := [(2, Int.ofNat o0), (0, v2)]) rfl ?_
  refine jEv.gfR (o' := (o0 + 35)) (show jfI 197 106 (.getfield 45) 3 [11, 10, 5, 0, 3011] = true by decide +kernel) (isX11_L ho0) (by decide) (isX11_r10 ho0) ?_
  refine jEv.gfR (o' := (o0 + 36)) (show jfI 197 109 (.getfield 115) 3 [9, 1, 5, 0, 2067] = true by decide +kernel) (isX9_L (isX11_s10 ho0)) (by decide) (isX9_r1 (isX11_s10 ho0)) ?_
  refine jbind H (fun b15 Hb15 H => ?_)
  refine jEv.calV (st' := [(0, b15), (0, v2)]) (show jfI 197 112 (.invokevirtual 311) 3 [1, 18, 0, 6065] = true by decide +kernel) rfl (Or.inl rfl) rfl (Nat.le_of_ble_eq_true rfl) (by decide +kernel) (by decide) (isX0_L (isX9_s1 (isX11_s10 ho0))) ((t_Di_total (T := T) (xs := xs) (isX9_s1 (isX11_s10 ho0)) Hb15).mono (jKle 1 hd)) rfl ?_
  refine jEv.ic_ge (t := 146) (show jfI 197 115 (.if_icmp .ge 31) 3 [] = true by decide +kernel) rfl H (fun c16 H => ?_) (fun c16 H => ?_)
  · refine jEv.blk [(.aload_n 0, 1, [])] (by decide +kernel) (pc' := 119) (ls' := [(2, Int.ofNat o0), (3, 0), (0, v2), (3, 0)]) (st' := [(2, Int.ofNat o0)]) rfl ?_
    refine jEv.gfR (o' := (o0 + 35)) (show jfI 197 119 (.getfield 45) 3 [11, 10, 5, 0, 3011] = true by decide +kernel) (isX11_L ho0) (by decide) (isX11_r10 ho0) ?_
    refine jEv.gfR (o' := (o0 + 36)) (show jfI 197 122 (.getfield 115) 3 [9, 1, 5, 0, 2067] = true by decide +kernel) (isX9_L (isX11_s10 ho0)) (by decide) (isX9_r1 (isX11_s10 ho0)) ?_
    refine jEv.blk [(.iload_n 2, 1, []), (.aload_n 0, 1, [])] (by decide +kernel) (pc' := 127) (ls' := [(2, Int.ofNat o0), (3, 0), (0, v2), (3, 0)]) (st' := [(2, Int.ofNat o0), (0, v2), (2, Int.ofNat (o0 + 36))]) rfl ?_
    refine jEv.gfR (o' := (o0 + 1)) (show jfI 197 127 (.getfield 9) 3 [11, 0, 5, 0, 3001] = true by decide +kernel) (isX11_L ho0) (by decide) (isX11_r0 ho0) ?_
    refine jEv.blk [(.bipush 34, 2, []), (.iload_n 2, 1, []), (.iadd, 1, [])] (by decide +kernel) (pc' := 134) (ls' := [(2, Int.ofNat o0), (3, 0), (0, v2), (3, 0)]) (st' := [(0, (wr (34 + v2))), (2, Int.ofNat (o0 + 1)), (0, v2), (2, Int.ofNat (o0 + 36))]) rfl ?_
    refine jbind H (fun b17 Hb17 H => ?_)
    refine jEv.calS (st' := [(0, b17), (0, v2), (2, Int.ofNat (o0 + 36))]) (show jfI 197 134 (.invokestatic 241) 3 [3, 137, 2, 3070] = true by decide +kernel) rfl (Or.inl rfl) rfl (Nat.le_of_ble_eq_true rfl) ((t_G_cell (T := T) (xs := xs) (isX11_a0 ho0) Hb17).mono (jKle 1 hd)) rfl ?_
    refine jbind H (fun b18 Hb18 H => ?_)
    refine jEv.calV (st' := []) (show jfI 197 137 (.invokevirtual 419) 3 [1, 4, 2, 7022] = true by decide +kernel) rfl (Or.inl rfl) rfl (Nat.le_of_ble_eq_true rfl) (by decide +kernel) (by decide) (isX0_L (isX9_s1 (isX11_s10 ho0))) ((t_Di_write (T := T) (xs := xs) (isX9_s1 (isX11_s10 ho0)) Hb18).mono (jKle 2 hd)) rfl ?_
    refine jEv.blk [(.iinc 2 1, 3, [])] (by decide +kernel) (pc' := 143) (ls' := [(2, Int.ofNat o0), (3, 0), (0, (wr (v2 + 1))), (3, 0)]) (st' := []) rfl ?_
    refine jEv.goto (t := 104) (show jfI 197 143 (.goto (-39)) 3 [] = true by decide +kernel) rfl ?_
    exact (by cases H; exact HY)
  · refine jmapr H HY (fun out H (HY : ykI T y out) => ?_)
    refine jEv.blk [(.aload_n 0, 1, [])] (by decide +kernel) (pc' := 147) (ls' := [(2, Int.ofNat o0), (3, 0), (0, v2), (3, 0)]) (st' := [(2, Int.ofNat o0)]) rfl ?_
    refine jEv.gfR (o' := (o0 + 35)) (show jfI 197 147 (.getfield 45) 3 [11, 10, 5, 0, 3011] = true by decide +kernel) (isX11_L ho0) (by decide) (isX11_r10 ho0) ?_
    refine jEv.blk [(.aload_n 0, 1, [])] (by decide +kernel) (pc' := 151) (ls' := [(2, Int.ofNat o0), (3, 0), (0, v2), (3, 0)]) (st' := [(2, Int.ofNat o0), (2, Int.ofNat (o0 + 35))]) rfl ?_
    refine jEv.gfR (o' := (o0 + 35)) (show jfI 197 151 (.getfield 45) 3 [11, 10, 5, 0, 3011] = true by decide +kernel) (isX11_L ho0) (by decide) (isX11_r10 ho0) ?_
    refine jEv.gfR (o' := (o0 + 36)) (show jfI 197 154 (.getfield 115) 3 [9, 1, 5, 0, 2067] = true by decide +kernel) (isX9_L (isX11_s10 ho0)) (by decide) (isX9_r1 (isX11_s10 ho0)) ?_
    refine jbind H (fun b19 Hb19 H => ?_)
    refine jEv.calV (st' := [(0, b19), (2, Int.ofNat (o0 + 35))]) (show jfI 197 157 (.invokevirtual 422) 3 [1, 17, 0, 7023] = true by decide +kernel) rfl (Or.inl rfl) rfl (Nat.le_of_ble_eq_true rfl) (by decide +kernel) (by decide) (isX0_L (isX9_s1 (isX11_s10 ho0))) ((t_Di_greatestSerial (T := T) (xs := xs) (isX9_s1 (isX11_s10 ho0)) Hb19).mono (jKle 4 hd)) rfl ?_
    refine jEv.pfI (show jfI 197 160 (.putfield 425) 3 [9, 13, 0, 0, 2097] = true by decide +kernel) (isX9_L (isX11_s10 ho0)) (by decide) ?_
    refine jEv.blk [(.aload_n 0, 1, [])] (by decide +kernel) (pc' := 164) (ls' := [(2, Int.ofNat o0), (3, 0), (0, v2), (3, 0)]) (st' := [(2, Int.ofNat o0)]) rfl ?_
    refine jEv.gfR (o' := (o0 + 35)) (show jfI 197 164 (.getfield 45) 3 [11, 10, 5, 0, 3011] = true by decide +kernel) (isX11_L ho0) (by decide) (isX11_r10 ho0) ?_
    refine jEv.blk [(.aload_n 0, 1, [])] (by decide +kernel) (pc' := 168) (ls' := [(2, Int.ofNat o0), (3, 0), (0, v2), (3, 0)]) (st' := [(2, Int.ofNat o0), (2, Int.ofNat (o0 + 35))]) rfl ?_
    refine jEv.gfR (o' := (o0 + 79)) (show jfI 197 168 (.getfield 66) 3 [11, 16, 5, 0, 3017] = true by decide +kernel) (isX11_L ho0) (by decide) (isX11_r16 ho0) ?_
    refine jbind H (fun b20 Hb20 H => ?_)
    refine jEv.calV (st' := []) (show jfI 197 171 (.invokevirtual 428) 3 [1, 122, 1, 7024] = true by decide +kernel) rfl (Or.inl rfl) rfl (Nat.le_of_ble_eq_true rfl) (by decide +kernel) (by decide) (isX9_L (isX11_s10 ho0)) ((t_St_recover (T := T) (xs := xs) (isX11_s10 ho0) (isX11_s16 ho0) Hb20).mono (jKle 6 hd)) rfl ?_
    refine jEv.blk [(.iconst 1, 1, [])] (by decide +kernel) (pc' := 175) (ls' := [(2, Int.ofNat o0), (3, 0), (0, v2), (3, 0)]) (st' := [(0, 1)]) rfl ?_
    exact jEv.retZ (show jfI 197 175 (.ireturn) 1 [] = true by decide +kernel) (by decide +kernel) (by decide) (by cases H; exact HY)
theorem t_G_on_L104 {T : jT} {xs : List Int} {d : Nat} {y : jV × jS} (hd : 6 ≤ d) {h : jH}  {o0 : Nat} {v2 : Int} {out : (Int × jH)} (ho0 : isX11 T o0) (H : G_on_L104 T h o0 v2 = some out) (HY : ykI T y out) : jEv xs d (197, 104, [(2, Int.ofNat o0), (3, 0), (0, v2), (3, 0)], []) (T, h) y :=
  jloop_sound (G := fun s : (Int × jH) => jEv xs d (197, 104, [(2, Int.ofNat o0), (3, 0), (0, s.1), (3, 0)], []) (T, s.2) y) (K := yk_G_on_L104 T xs d y o0) (fun s out H HY => t_G_on_B104 hd ho0 H HY) (fun s' hg => hg) (s := (v2, h)) H HY
set_option maxRecDepth 20000 in
noncomputable def G_on_B57 (T : jT) (h : jH) (o0 : Nat) (v2 : Int) : Option ((Int × jH) ⊕ (Int × jH)) := (if v2 < 16 then Option.bind (G_tapePair h o0 (wr (2 + (wr (2 * v2))))) (fun b12 => (if b12 = 65535 then G_on_p93 T h o0 v2 (o0 + 54) 16 v2 (-1) else G_on_p93 T h o0 v2 (o0 + 54) 16 v2 b12)) else Option.map Sum.inr (G_on_L104 T h o0 0))
noncomputable def G_on_L57 (T : jT) (h : jH) (o0 : Nat) (v2 : Int) : Option (Int × jH) := jloop (fun s : (Int × jH) => G_on_B57 T s.2 o0 s.1) (v2, h)
set_option maxRecDepth 20000 in
theorem t_G_on_B57 {T : jT} {xs : List Int} {d : Nat} {y : jV × jS} (hd : 6 ≤ d) {h : jH}  {o0 : Nat} {v2 : Int} {out : ((Int × jH) ⊕ (Int × jH))} (ho0 : isX11 T o0) (H : G_on_B57 T h o0 v2 = some out) (HY : yk_G_on_L57 T xs d y o0 out) : jEv xs d (197, 57, [(2, Int.ofNat o0), (3, 0), (0, v2), (3, 0)], []) (T, h) y := by
  unfold G_on_B57 at H
  refine jEv.blk [(.iload_n 2, 1, []), (.bipush 16, 2, [])] (by decide +kernel) (pc' := 60) (ls' := [(2, Int.ofNat o0), (3, 0), (0, v2), (3, 0)]) (st' := [(0, 16), (0, v2)]) rfl ?_
  refine jEv.ic_ge (t := 102) (show jfI 197 60 (.if_icmp .ge 42) 3 [] = true by decide +kernel) rfl H (fun c11 H => ?_) (fun c11 H => ?_)
  · refine jEv.blk [(.aload_n 0, 1, []), (.iconst 2, 1, []), (.iconst 2, 1, []), (.iload_n 2, 1, []), (.imul, 1, []), (.iadd, 1, [])] (by decide +kernel) (pc' := 69) (ls' := [(2, Int.ofNat o0), (3, 0), (0, v2), (3, 0)]) (st' := [(0, (wr (2 + (wr (2 * v2))))), (2, Int.ofNat o0)]) rfl ?_
    refine jbind H (fun b12 Hb12 H => ?_)
    refine jEv.calV (st' := [(0, b12)]) (show jfI 197 69 (.invokevirtual 412) 3 [1, 170, 1, 6082] = true by decide +kernel) rfl (Or.inl rfl) rfl (Nat.le_of_ble_eq_true rfl) (by decide +kernel) (by decide) (isX11_L ho0) ((t_G_tapePair (T := T) (xs := xs) ho0 Hb12).mono (jKle 2 hd)) rfl ?_
    refine jEv.blk [(.istore_n 3, 1, []), (.aload_n 0, 1, [])] (by decide +kernel) (pc' := 74) (ls' := [(2, Int.ofNat o0), (3, 0), (0, v2), (0, b12)]) (st' := [(2, Int.ofNat o0)]) rfl ?_
    refine jEv.gfR (o' := (o0 + 35)) (show jfI 197 74 (.getfield 45) 3 [11, 10, 5, 0, 3011] = true by decide +kernel) (isX11_L ho0) (by decide) (isX11_r10 ho0) ?_
    refine jEv.gfR (o' := (o0 + 54)) (show jfI 197 77 (.getfield 289) 3 [9, 6, 5, 0, 2079] = true by decide +kernel) (isX9_L (isX11_s10 ho0)) (by decide) (isX9_r6 (isX11_s10 ho0)) ?_
    refine jEv.blk [(.iload_n 2, 1, []), (.iload_n 3, 1, []), (.ldc_w 395, 3, [0, 0, 65535, 7008])] (by decide +kernel) (pc' := 85) (ls' := [(2, Int.ofNat o0), (3, 0), (0, v2), (0, b12)]) (st' := [(0, 65535), (0, b12), (0, v2), (2, Int.ofNat (o0 + 54))]) rfl ?_
    refine jEv.ic_ne (t := 92) (show jfI 197 85 (.if_icmp .ne 7) 3 [] = true by decide +kernel) rfl H (fun c13 H => ?_) (fun c13 H => ?_)
    · refine jEv.blk [(.iconst (-1), 1, [])] (by decide +kernel) (pc' := 89) (ls' := [(2, Int.ofNat o0), (3, 0), (0, v2), (0, b12)]) (st' := [(0, (-1)), (0, v2), (2, Int.ofNat (o0 + 54))]) rfl ?_
      refine jEv.goto (t := 93) (show jfI 197 89 (.goto 4) 3 [] = true by decide +kernel) rfl ?_
      exact jEv.weak (a := [(2, Int.ofNat o0), (3, 0), (0, v2), (3, 0)]) (jles.c1 (jles.c0 (jles.c1 (jles.c0 jles.nl)))) (t_G_on_p93 (T := T) (xs := xs) (y := y) hd ho0 (isX9_a6 (isX11_s10 ho0)) H HY)
    · refine jEv.blk [(.iload_n 3, 1, [])] (by decide +kernel) (pc' := 93) (ls' := [(2, Int.ofNat o0), (3, 0), (0, v2), (0, b12)]) (st' := [(0, b12), (0, v2), (2, Int.ofNat (o0 + 54))]) rfl ?_
      exact jEv.weak (a := [(2, Int.ofNat o0), (3, 0), (0, v2), (3, 0)]) (jles.c1 (jles.c0 (jles.c1 (jles.c0 jles.nl)))) (t_G_on_p93 (T := T) (xs := xs) (y := y) hd ho0 (isX9_a6 (isX11_s10 ho0)) H HY)
  · refine jmapr H HY (fun out H (HY : ykI T y out) => ?_)
    refine jEv.blk [(.iconst 0, 1, []), (.istore_n 2, 1, [])] (by decide +kernel) (pc' := 104) (ls' := [(2, Int.ofNat o0), (3, 0), (0, 0), (3, 0)]) (st' := []) rfl ?_
    exact t_G_on_L104 (T := T) (xs := xs) (y := y) hd ho0 H HY
theorem t_G_on_L57 {T : jT} {xs : List Int} {d : Nat} {y : jV × jS} (hd : 6 ≤ d) {h : jH}  {o0 : Nat} {v2 : Int} {out : (Int × jH)} (ho0 : isX11 T o0) (H : G_on_L57 T h o0 v2 = some out) (HY : ykI T y out) : jEv xs d (197, 57, [(2, Int.ofNat o0), (3, 0), (0, v2), (3, 0)], []) (T, h) y :=
  jloop_sound (G := fun s : (Int × jH) => jEv xs d (197, 57, [(2, Int.ofNat o0), (3, 0), (0, s.1), (3, 0)], []) (T, s.2) y) (K := yk_G_on_L57 T xs d y o0) (fun s out H HY => t_G_on_B57 hd ho0 H HY) (fun s' hg => hg) (s := (v2, h)) H HY
set_option maxRecDepth 20000 in
noncomputable def G_on (T : jT) (h : jH) (o0 : Nat) : Option (Int × jH) := Option.bind (G_takeTape h o0) (fun b1 => Option.bind (G_isTold T b1.2 o0) (fun b2 => (if b2 = 0 then G_on_p20 T b1.2 o0 else Option.bind (G_isImage b1.2 o0 b1.1) (fun b4 => (if b4 = 0 then G_on_p20 T b1.2 o0 else Option.bind (jdyn (isX6 T) ((jup b1.2 o0 13 0) o0 8)) (fun q6 => Option.bind (St_blank (jup b1.2 o0 13 0) (o0 + 35) q6) (fun b7 => Option.bind (G_tapePair b7 o0 0) (fun b8 => G_on_L57 T (jup b7 (o0 + 35) 7 b8) o0 0))))))))
set_option maxRecDepth 20000 in
theorem t_G_on {T : jT} {xs : List Int} {h : jH}  {o0 : Nat} {out : (Int × jH)} (ho0 : isX11 T o0) (H : G_on T h o0 = some out) : jEm xs 7 197 [(2, Int.ofNat o0)] (T, h) ((0, out.1), (T, out.2)) := by
  have hd : 6 ≤ 6 := Nat.le_refl _
  obtain ⟨y, ey⟩ : ∃ y : jV × jS, y = ((0, out.1), (T, out.2)) := ⟨_, rfl⟩
  rw [← ey]
  have HY : ykI T y out := ey
  refine jEm.ent (n := 4) (by decide +kernel) (Nat.le_of_ble_eq_true rfl) ?_
  show jEv xs 6 (197, 0, [(2, Int.ofNat o0), (3, 0), (3, 0), (3, 0)], []) (T, h) y
  unfold G_on at H
  refine jEv.blk [(.aload_n 0, 1, [])] (by decide +kernel) (pc' := 1) (ls' := [(2, Int.ofNat o0), (3, 0), (3, 0), (3, 0)]) (st' := [(2, Int.ofNat o0)]) rfl ?_
  refine jbind H (fun b1 Hb1 H => ?_)
  refine jEv.calV (st' := [(0, b1.1)]) (show jfI 197 1 (.invokevirtual 92) 3 [1, 143, 0, 3092] = true by decide +kernel) rfl (Or.inl rfl) rfl (Nat.le_of_ble_eq_true rfl) (by decide +kernel) (by decide) (isX11_L ho0) ((t_G_takeTape (T := T) (xs := xs) ho0 Hb1).mono (jKle 1 hd)) rfl ?_
  refine jEv.blk [(.istore_n 1, 1, []), (.aload_n 0, 1, [])] (by decide +kernel) (pc' := 6) (ls' := [(2, Int.ofNat o0), (0, b1.1), (3, 0), (3, 0)]) (st' := [(2, Int.ofNat o0)]) rfl ?_
  refine jbind H (fun b2 Hb2 H => ?_)
  refine jEv.calV (st' := [(0, b2)]) (show jfI 197 6 (.invokevirtual 228) 3 [1, 152, 0, 5004] = true by decide +kernel) rfl (Or.inl rfl) rfl (Nat.le_of_ble_eq_true rfl) (by decide +kernel) (by decide) (isX11_L ho0) ((t_G_isTold (T := T) (xs := xs) ho0 Hb2).mono (jKle 1 hd)) rfl ?_
  refine jEv.if_eq (t := 20) (show jfI 197 9 (.ifCond .eq 11) 3 [] = true by decide +kernel) rfl H (fun c3 H => ?_) (fun c3 H => ?_)
  · exact jEv.weak (a := [(2, Int.ofNat o0), (3, 0), (3, 0), (3, 0)]) (jles.c1 (jles.c0 (jles.c0 (jles.c0 jles.nl)))) (t_G_on_p20 (T := T) (xs := xs) (y := y) hd ho0 H HY)
  · refine jEv.blk [(.aload_n 0, 1, []), (.iload_n 1, 1, [])] (by decide +kernel) (pc' := 14) (ls' := [(2, Int.ofNat o0), (0, b1.1), (3, 0), (3, 0)]) (st' := [(0, b1.1), (2, Int.ofNat o0)]) rfl ?_
    refine jbind H (fun b4 Hb4 H => ?_)
    refine jEv.calV (st' := [(0, b4)]) (show jfI 197 14 (.invokevirtual 406) 3 [1, 198, 1, 7018] = true by decide +kernel) rfl (Or.inl rfl) rfl (Nat.le_of_ble_eq_true rfl) (by decide +kernel) (by decide) (isX11_L ho0) ((t_G_isImage (T := T) (xs := xs) ho0 Hb4).mono (jKle 3 hd)) rfl ?_
    refine jEv.if_ne (t := 27) (show jfI 197 17 (.ifCond .ne 10) 3 [] = true by decide +kernel) rfl H (fun c5 H => ?_) (fun c5 H => ?_)
    · exact jEv.weak (a := [(2, Int.ofNat o0), (3, 0), (3, 0), (3, 0)]) (jles.c1 (jles.c0 (jles.c0 (jles.c0 jles.nl)))) (t_G_on_p20 (T := T) (xs := xs) (y := y) hd ho0 H HY)
    · refine jEv.blk [(.aload_n 0, 1, []), (.iconst 0, 1, [])] (by decide +kernel) (pc' := 29) (ls' := [(2, Int.ofNat o0), (0, b1.1), (3, 0), (3, 0)]) (st' := [(0, 0), (2, Int.ofNat o0)]) rfl ?_
      refine jEv.pfI (show jfI 197 29 (.putfield 176) 3 [11, 13, 0, 0, 3014] = true by decide +kernel) (isX11_L ho0) (by decide) ?_
      refine jEv.blk [(.aload_n 0, 1, [])] (by decide +kernel) (pc' := 33) (ls' := [(2, Int.ofNat o0), (0, b1.1), (3, 0), (3, 0)]) (st' := [(2, Int.ofNat o0)]) rfl ?_
      refine jEv.gfR (o' := (o0 + 35)) (show jfI 197 33 (.getfield 45) 3 [11, 10, 5, 0, 3011] = true by decide +kernel) (isX11_L ho0) (by decide) (isX11_r10 ho0) ?_
      refine jEv.blk [(.aload_n 0, 1, [])] (by decide +kernel) (pc' := 37) (ls' := [(2, Int.ofNat o0), (0, b1.1), (3, 0), (3, 0)]) (st' := [(2, Int.ofNat o0), (2, Int.ofNat (o0 + 35))]) rfl ?_
      refine jEv.gfD (show jfI 197 37 (.getfield 29) 3 [11, 8, 2, 0, 3009] = true by decide +kernel) (isX11_L ho0) (by decide) H (fun q6 hq6 H => ?_)
      refine jbind H (fun b7 Hb7 H => ?_)
      refine jEv.calV (st' := []) (show jfI 197 40 (.invokevirtual 409) 3 [1, 109, 1, 4070] = true by decide +kernel) rfl (Or.inl rfl) rfl (Nat.le_of_ble_eq_true rfl) (by decide +kernel) (by decide) (isX9_L (isX11_s10 ho0)) ((t_St_blank (T := T) (xs := xs) (isX11_s10 ho0) hq6 Hb7).mono (jKle 3 hd)) rfl ?_
      refine jEv.blk [(.aload_n 0, 1, [])] (by decide +kernel) (pc' := 44) (ls' := [(2, Int.ofNat o0), (0, b1.1), (3, 0), (3, 0)]) (st' := [(2, Int.ofNat o0)]) rfl ?_
      refine jEv.gfR (o' := (o0 + 35)) (show jfI 197 44 (.getfield 45) 3 [11, 10, 5, 0, 3011] = true by decide +kernel) (isX11_L ho0) (by decide) (isX11_r10 ho0) ?_
      refine jEv.blk [(.aload_n 0, 1, []), (.iconst 0, 1, [])] (by decide +kernel) (pc' := 49) (ls' := [(2, Int.ofNat o0), (0, b1.1), (3, 0), (3, 0)]) (st' := [(0, 0), (2, Int.ofNat o0), (2, Int.ofNat (o0 + 35))]) rfl ?_
      refine jbind H (fun b8 Hb8 H => ?_)
      refine jEv.calV (st' := [(0, b8), (2, Int.ofNat (o0 + 35))]) (show jfI 197 49 (.invokevirtual 412) 3 [1, 170, 1, 6082] = true by decide +kernel) rfl (Or.inl rfl) rfl (Nat.le_of_ble_eq_true rfl) (by decide +kernel) (by decide) (isX11_L ho0) ((t_G_tapePair (T := T) (xs := xs) ho0 Hb8).mono (jKle 2 hd)) rfl ?_
      refine jEv.pfI (show jfI 197 52 (.putfield 157) 3 [9, 7, 0, 0, 2081] = true by decide +kernel) (isX9_L (isX11_s10 ho0)) (by decide) ?_
      refine jEv.blk [(.iconst 0, 1, []), (.istore_n 2, 1, [])] (by decide +kernel) (pc' := 57) (ls' := [(2, Int.ofNat o0), (0, b1.1), (0, 0), (3, 0)]) (st' := []) rfl ?_
      exact jEv.weak (a := [(2, Int.ofNat o0), (3, 0), (0, 0), (3, 0)]) (jles.c1 (jles.c0 (jles.c1 (jles.c0 jles.nl)))) (t_G_on_L57 (T := T) (xs := xs) (y := y) hd ho0 H HY)
set_option maxRecDepth 20000 in
noncomputable def G_status  (h : jH) (o0 : Nat) (v1 : Int) : Option Int := Option.bind (G_cell h (o0 + 3) 7 v1) (fun b1 => some b1)
set_option maxRecDepth 20000 in
theorem t_G_status {T : jT} {xs : List Int} {h : jH}  {o0 : Nat} {v1 : Int} {out : Int} (ho0 : isX11 T o0) (H : G_status h o0 v1 = some out) : jEm xs 2 199 [(2, Int.ofNat o0), (0, v1)] (T, h) ((0, out), (T, h)) := by
  have hd : 1 ≤ 1 := Nat.le_refl _
  obtain ⟨y, ey⟩ : ∃ y : jV × jS, y = ((0, out), (T, h)) := ⟨_, rfl⟩
  rw [← ey]
  have HY : ykIp T h y out := ey
  refine jEm.ent (n := 2) (by decide +kernel) (Nat.le_of_ble_eq_true rfl) ?_
  show jEv xs 1 (199, 0, [(2, Int.ofNat o0), (0, v1)], []) (T, h) y
  unfold G_status at H
  refine jEv.blk [(.aload_n 0, 1, [])] (by decide +kernel) (pc' := 1) (ls' := [(2, Int.ofNat o0), (0, v1)]) (st' := [(2, Int.ofNat o0)]) rfl ?_
  refine jEv.gfR (o' := (o0 + 3)) (show jfI 199 1 (.getfield 16) 3 [11, 4, 5, 0, 3005] = true by decide +kernel) (isX11_L ho0) (by decide) (isX11_r4 ho0) ?_
  refine jEv.blk [(.iload_n 1, 1, [])] (by decide +kernel) (pc' := 5) (ls' := [(2, Int.ofNat o0), (0, v1)]) (st' := [(0, v1), (2, Int.ofNat (o0 + 3))]) rfl ?_
  refine jbind H (fun b1 Hb1 H => ?_)
  refine jEv.calS (st' := [(0, b1)]) (show jfI 199 5 (.invokestatic 241) 3 [3, 137, 2, 3070] = true by decide +kernel) rfl (Or.inl rfl) rfl (Nat.le_of_ble_eq_true rfl) ((t_G_cell (T := T) (xs := xs) (isX11_a4 ho0) Hb1).mono (jKle 1 hd)) rfl ?_
  exact jEv.retI (show jfI 199 8 (.ireturn) 1 [] = true by decide +kernel) (by decide +kernel) (by cases H; exact HY)
