/-! methods as functions -/
def yk_G_flips_L79 (T : jT) (xs : List Int) (d : Nat) (y : jV × jS)  (o0 : Nat) (v1 : Int) (v2 : Int) (o3 : Nat) : ((Int × Int × jH) ⊕ (Int × jH)) → Prop
  | .inl (v4, v5, h) => jEv xs d (167, 79, [(2, Int.ofNat o0), (0, v1), (0, v2), (2, Int.ofNat o3), (0, v4), (0, v5), (3, 0)], []) (T, h) y
  | .inr o => ykI T y o
set_option maxRecDepth 20000 in
noncomputable def G_flips_p167 (T : jT) (h : jH) (o0 : Nat) (v1 : Int) (v2 : Int) (o3 : Nat) (v5 : Int) (vs0 : Int) (vs1 : Int) : Option ((Int × Int × jH) ⊕ (Int × jH)) := some (.inl ((wr (vs0 + vs1)), (wr (v5 + 1)), h))
set_option maxRecDepth 20000 in
theorem t_G_flips_p167 {T : jT} {xs : List Int} {d : Nat} {y : jV × jS} (hd : 5 ≤ d) {h : jH}  {o0 : Nat} {v1 : Int} {v2 : Int} {o3 : Nat} {v5 : Int} {vs0 : Int} {vs1 : Int} {out : ((Int × Int × jH) ⊕ (Int × jH))} (ho0 : isX11 T o0) (ho3 : isX0 T o3) (H : G_flips_p167 T h o0 v1 v2 o3 v5 vs0 vs1 = some out) (HY : yk_G_flips_L79 T xs d y o0 v1 v2 o3 out) : jEv xs d (167, 167, [(2, Int.ofNat o0), (0, v1), (0, v2), (2, Int.ofNat o3), (3, 0), (0, v5), (3, 0)], [(0, vs1), (0, vs0)]) (T, h) y := by
  unfold G_flips_p167 at H
  refine jEv.blk [(.iadd, 1, []), (.istore 4, 2, []), (.iinc 5 1, 3, [])] (by decide +kernel) (pc' := 173) (ls' := [(2, Int.ofNat o0), (0, v1), (0, v2), (2, Int.ofNat o3), (0, (wr (vs0 + vs1))), (0, (wr (v5 + 1))), (3, 0)]) (st' := []) rfl ?_
  refine jEv.goto (t := 79) (show jfI 167 173 (.goto (-94)) 3 [] = true by decide +kernel) rfl ?_
  exact (by cases H; exact HY)
set_option maxRecDepth 20000 in
noncomputable def G_flips_p152 (T : jT) (h : jH) (o0 : Nat) (v1 : Int) (v2 : Int) (o3 : Nat) (v4 : Int) (v5 : Int) (vs0 : Int) : Option ((Int × Int × jH) ⊕ (Int × jH)) := (if vs0 = v1 then G_flips_p167 T h o0 v1 v2 o3 v5 v4 1 else G_flips_p167 T h o0 v1 v2 o3 v5 v4 0)
set_option maxRecDepth 20000 in
theorem t_G_flips_p152 {T : jT} {xs : List Int} {d : Nat} {y : jV × jS} (hd : 5 ≤ d) {h : jH}  {o0 : Nat} {v1 : Int} {v2 : Int} {o3 : Nat} {v4 : Int} {v5 : Int} {vs0 : Int} {out : ((Int × Int × jH) ⊕ (Int × jH))} (ho0 : isX11 T o0) (ho3 : isX0 T o3) (H : G_flips_p152 T h o0 v1 v2 o3 v4 v5 vs0 = some out) (HY : yk_G_flips_L79 T xs d y o0 v1 v2 o3 out) : jEv xs d (167, 152, [(2, Int.ofNat o0), (0, v1), (0, v2), (2, Int.ofNat o3), (0, v4), (0, v5), (3, 0)], [(0, vs0)]) (T, h) y := by
  unfold G_flips_p152 at H
  refine jEv.blk [(.istore 6, 2, []), (.iload 4, 2, []), (.iload 6, 2, []), (.iload_n 1, 1, [])] (by decide +kernel) (pc' := 159) (ls' := [(2, Int.ofNat o0), (0, v1), (0, v2), (2, Int.ofNat o3), (0, v4), (0, v5), (0, vs0)]) (st' := [(0, v1), (0, vs0), (0, v4)]) rfl ?_
  refine jEv.ic_ne (t := 166) (show jfI 167 159 (.if_icmp .ne 7) 3 [] = true by decide +kernel) rfl H (fun c14 H => ?_) (fun c14 H => ?_)
  · refine jEv.blk [(.iconst 1, 1, [])] (by decide +kernel) (pc' := 163) (ls' := [(2, Int.ofNat o0), (0, v1), (0, v2), (2, Int.ofNat o3), (0, v4), (0, v5), (0, vs0)]) (st' := [(0, 1), (0, v4)]) rfl ?_
    refine jEv.goto (t := 167) (show jfI 167 163 (.goto 4) 3 [] = true by decide +kernel) rfl ?_
    exact jEv.weak (a := [(2, Int.ofNat o0), (0, v1), (0, v2), (2, Int.ofNat o3), (3, 0), (0, v5), (3, 0)]) (jles.c1 (jles.c1 (jles.c1 (jles.c1 (jles.c0 (jles.c1 (jles.c0 jles.nl))))))) (t_G_flips_p167 (T := T) (xs := xs) (y := y) hd ho0 ho3 H HY)
  · refine jEv.blk [(.iconst 0, 1, [])] (by decide +kernel) (pc' := 167) (ls' := [(2, Int.ofNat o0), (0, v1), (0, v2), (2, Int.ofNat o3), (0, v4), (0, v5), (0, vs0)]) (st' := [(0, 0), (0, v4)]) rfl ?_
    exact jEv.weak (a := [(2, Int.ofNat o0), (0, v1), (0, v2), (2, Int.ofNat o3), (3, 0), (0, v5), (3, 0)]) (jles.c1 (jles.c1 (jles.c1 (jles.c1 (jles.c0 (jles.c1 (jles.c0 jles.nl))))))) (t_G_flips_p167 (T := T) (xs := xs) (y := y) hd ho0 ho3 H HY)
set_option maxRecDepth 20000 in
noncomputable def G_flips_B79 (T : jT) (h : jH) (o0 : Nat) (v1 : Int) (v2 : Int) (o3 : Nat) (v4 : Int) (v5 : Int) : Option ((Int × Int × jH) ⊕ (Int × jH)) := Option.bind (Di_total h o3) (fun b7 => (if v5 < b7 then Option.bind (Di_turn h o3 v5) (fun b9 => Option.bind (Re_read b9 (o0 + 79) o3 (b9 (o0 + 35) 7) (o0 + 54) 16) (fun b10 => Option.bind (Di_turn b10 o3 v5) (fun b11 => (if (b11 (o0 + 79) 7) = 0 then (if (b11 (o0 + 79) 3) < v2 then G_flips_p152 T b11 o0 v1 v2 o3 v4 v5 1 else G_flips_p152 T b11 o0 v1 v2 o3 v4 v5 2) else G_flips_p152 T b11 o0 v1 v2 o3 v4 v5 0)))) else Option.map Sum.inr (some (v4, h))))
noncomputable def G_flips_L79 (T : jT) (h : jH) (o0 : Nat) (v1 : Int) (v2 : Int) (o3 : Nat) (v4 : Int) (v5 : Int) : Option (Int × jH) := jloop (fun s : (Int × Int × jH) => G_flips_B79 T s.2.2 o0 v1 v2 o3 s.1 s.2.1) (v4, v5, h)
set_option maxRecDepth 20000 in
theorem t_G_flips_B79 {T : jT} {xs : List Int} {d : Nat} {y : jV × jS} (hd : 5 ≤ d) {h : jH}  {o0 : Nat} {v1 : Int} {v2 : Int} {o3 : Nat} {v4 : Int} {v5 : Int} {out : ((Int × Int × jH) ⊕ (Int × jH))} (ho0 : isX11 T o0) (ho3 : isX0 T o3) (H : G_flips_B79 T h o0 v1 v2 o3 v4 v5 = some out) (HY : yk_G_flips_L79 T xs d y o0 v1 v2 o3 out) : jEv xs d (167, 79, [(2, Int.ofNat o0), (0, v1), (0, v2), (2, Int.ofNat o3), (0, v4), (0, v5), (3, 0)], []) (T, h) y := by
  unfold G_flips_B79 at H
  refine jEv.blk [(.iload 5, 2, []), (.aload_n 3, 1, [])] (by decide +kernel) (pc' := 82) (ls' := [(2, Int.ofNat o0), (0, v1), (0, v2), (2, Int.ofNat o3), (0, v4), (0, v5), (3, 0)]) (st' := [(2, Int.ofNat o3), (0, v5)]) rfl ?_
  refine jbind H (fun b7 Hb7 H => ?_)
  refine jEv.calV (st' := [(0, b7), (0, v5)]) (show jfI 167 82 (.invokevirtual 311) 3 [1, 18, 0, 6065] = true by decide +kernel) rfl (Or.inl rfl) rfl (Nat.le_of_ble_eq_true rfl) (by decide +kernel) (by decide) (isX0_L ho3) ((t_Di_total (T := T) (xs := xs) ho3 Hb7).mono (jKle 1 hd)) rfl ?_
  refine jEv.ic_ge (t := 176) (show jfI 167 85 (.if_icmp .ge 91) 3 [] = true by decide +kernel) rfl H (fun c8 H => ?_) (fun c8 H => ?_)
  · refine jEv.blk [(.aload_n 3, 1, []), (.iload 5, 2, [])] (by decide +kernel) (pc' := 91) (ls' := [(2, Int.ofNat o0), (0, v1), (0, v2), (2, Int.ofNat o3), (0, v4), (0, v5), (3, 0)]) (st' := [(0, v5), (2, Int.ofNat o3)]) rfl ?_
    refine jbind H (fun b9 Hb9 H => ?_)
    refine jEv.calV (st' := []) (show jfI 167 91 (.invokevirtual 314) 3 [1, 19, 1, 6069] = true by decide +kernel) rfl (Or.inl rfl) rfl (Nat.le_of_ble_eq_true rfl) (by decide +kernel) (by decide) (isX0_L ho3) ((t_Di_turn (T := T) (xs := xs) ho3 Hb9).mono (jKle 2 hd)) rfl ?_
    refine jEv.blk [(.aload_n 0, 1, [])] (by decide +kernel) (pc' := 95) (ls' := [(2, Int.ofNat o0), (0, v1), (0, v2), (2, Int.ofNat o3), (0, v4), (0, v5), (3, 0)]) (st' := [(2, Int.ofNat o0)]) rfl ?_
    refine jEv.gfR (o' := (o0 + 79)) (show jfI 167 95 (.getfield 66) 3 [11, 16, 5, 0, 3017] = true by decide +kernel) (isX11_L ho0) (by decide) (isX11_r16 ho0) ?_
    refine jEv.blk [(.aload_n 3, 1, []), (.aload_n 0, 1, [])] (by decide +kernel) (pc' := 100) (ls' := [(2, Int.ofNat o0), (0, v1), (0, v2), (2, Int.ofNat o3), (0, v4), (0, v5), (3, 0)]) (st' := [(2, Int.ofNat o0), (2, Int.ofNat o3), (2, Int.ofNat (o0 + 79))]) rfl ?_
    refine jEv.gfR (o' := (o0 + 35)) (show jfI 167 100 (.getfield 45) 3 [11, 10, 5, 0, 3011] = true by decide +kernel) (isX11_L ho0) (by decide) (isX11_r10 ho0) ?_
    refine jEv.gfI (show jfI 167 103 (.getfield 157) 3 [9, 7, 0, 0, 2081] = true by decide +kernel) (isX9_L (isX11_s10 ho0)) (by decide) ?_
    refine jEv.blk [(.aload_n 0, 1, [])] (by decide +kernel) (pc' := 107) (ls' := [(2, Int.ofNat o0), (0, v1), (0, v2), (2, Int.ofNat o3), (0, v4), (0, v5), (3, 0)]) (st' := [(2, Int.ofNat o0), (0, (b9 (o0 + 35) 7)), (2, Int.ofNat o3), (2, Int.ofNat (o0 + 79))]) rfl ?_
    refine jEv.gfR (o' := (o0 + 35)) (show jfI 167 107 (.getfield 45) 3 [11, 10, 5, 0, 3011] = true by decide +kernel) (isX11_L ho0) (by decide) (isX11_r10 ho0) ?_
    refine jEv.gfR (o' := (o0 + 54)) (show jfI 167 110 (.getfield 289) 3 [9, 6, 5, 0, 2079] = true by decide +kernel) (isX9_L (isX11_s10 ho0)) (by decide) (isX9_r6 (isX11_s10 ho0)) ?_
    refine jbind H (fun b10 Hb10 H => ?_)
    refine jEv.calV (st' := []) (show jfI 167 113 (.invokevirtual 292) 3 [1, 102, 3, 6018] = true by decide +kernel) rfl (Or.inl rfl) rfl (Nat.le_of_ble_eq_true rfl) (by decide +kernel) (by decide) (isX8_L (isX11_s16 ho0)) ((t_Re_read (T := T) (xs := xs) (isX11_s16 ho0) ho3 (isX9_a6 (isX11_s10 ho0)) Hb10).mono (jKle 5 hd)) rfl ?_
    refine jEv.blk [(.aload_n 3, 1, []), (.iload 5, 2, [])] (by decide +kernel) (pc' := 119) (ls' := [(2, Int.ofNat o0), (0, v1), (0, v2), (2, Int.ofNat o3), (0, v4), (0, v5), (3, 0)]) (st' := [(0, v5), (2, Int.ofNat o3)]) rfl ?_
    refine jbind H (fun b11 Hb11 H => ?_)
    refine jEv.calV (st' := []) (show jfI 167 119 (.invokevirtual 314) 3 [1, 19, 1, 6069] = true by decide +kernel) rfl (Or.inl rfl) rfl (Nat.le_of_ble_eq_true rfl) (by decide +kernel) (by decide) (isX0_L ho3) ((t_Di_turn (T := T) (xs := xs) ho3 Hb11).mono (jKle 2 hd)) rfl ?_
    refine jEv.blk [(.aload_n 0, 1, [])] (by decide +kernel) (pc' := 123) (ls' := [(2, Int.ofNat o0), (0, v1), (0, v2), (2, Int.ofNat o3), (0, v4), (0, v5), (3, 0)]) (st' := [(2, Int.ofNat o0)]) rfl ?_
    refine jEv.gfR (o' := (o0 + 79)) (show jfI 167 123 (.getfield 66) 3 [11, 16, 5, 0, 3017] = true by decide +kernel) (isX11_L ho0) (by decide) (isX11_r16 ho0) ?_
    refine jEv.gfI (show jfI 167 126 (.getfield 299) 3 [8, 7, 0, 1, 2223] = true by decide +kernel) (isX8_L (isX11_s16 ho0)) (by decide) ?_
    refine jEv.if_eq (t := 136) (show jfI 167 129 (.ifCond .eq 7) 3 [] = true by decide +kernel) rfl H (fun c12 H => ?_) (fun c12 H => ?_)
    · refine jEv.blk [(.aload_n 0, 1, [])] (by decide +kernel) (pc' := 137) (ls' := [(2, Int.ofNat o0), (0, v1), (0, v2), (2, Int.ofNat o3), (0, v4), (0, v5), (3, 0)]) (st' := [(2, Int.ofNat o0)]) rfl ?_
      refine jEv.gfR (o' := (o0 + 79)) (show jfI 167 137 (.getfield 66) 3 [11, 16, 5, 0, 3017] = true by decide +kernel) (isX11_L ho0) (by decide) (isX11_r16 ho0) ?_
      refine jEv.gfI (show jfI 167 140 (.getfield 296) 3 [8, 3, 0, 0, 2212] = true by decide +kernel) (isX8_L (isX11_s16 ho0)) (by decide) ?_
      refine jEv.blk [(.iload_n 2, 1, [])] (by decide +kernel) (pc' := 144) (ls' := [(2, Int.ofNat o0), (0, v1), (0, v2), (2, Int.ofNat o3), (0, v4), (0, v5), (3, 0)]) (st' := [(0, v2), (0, (b11 (o0 + 79) 3))]) rfl ?_
      refine jEv.ic_ge (t := 151) (show jfI 167 144 (.if_icmp .ge 7) 3 [] = true by decide +kernel) rfl H (fun c13 H => ?_) (fun c13 H => ?_)
      · refine jEv.blk [(.iconst 1, 1, [])] (by decide +kernel) (pc' := 148) (ls' := [(2, Int.ofNat o0), (0, v1), (0, v2), (2, Int.ofNat o3), (0, v4), (0, v5), (3, 0)]) (st' := [(0, 1)]) rfl ?_
        refine jEv.goto (t := 152) (show jfI 167 148 (.goto 4) 3 [] = true by decide +kernel) rfl ?_
        exact t_G_flips_p152 (T := T) (xs := xs) (y := y) hd ho0 ho3 H HY
      · refine jEv.blk [(.iconst 2, 1, [])] (by decide +kernel) (pc' := 152) (ls' := [(2, Int.ofNat o0), (0, v1), (0, v2), (2, Int.ofNat o3), (0, v4), (0, v5), (3, 0)]) (st' := [(0, 2)]) rfl ?_
        exact t_G_flips_p152 (T := T) (xs := xs) (y := y) hd ho0 ho3 H HY
    · refine jEv.blk [(.iconst 0, 1, [])] (by decide +kernel) (pc' := 133) (ls' := [(2, Int.ofNat o0), (0, v1), (0, v2), (2, Int.ofNat o3), (0, v4), (0, v5), (3, 0)]) (st' := [(0, 0)]) rfl ?_
      refine jEv.goto (t := 152) (show jfI 167 133 (.goto 19) 3 [] = true by decide +kernel) rfl ?_
      exact t_G_flips_p152 (T := T) (xs := xs) (y := y) hd ho0 ho3 H HY
  · refine jmapr H HY (fun out H (HY : ykI T y out) => ?_)
    refine jEv.blk [(.iload 4, 2, [])] (by decide +kernel) (pc' := 178) (ls' := [(2, Int.ofNat o0), (0, v1), (0, v2), (2, Int.ofNat o3), (0, v4), (0, v5), (3, 0)]) (st' := [(0, v4)]) rfl ?_
    exact jEv.retI (show jfI 167 178 (.ireturn) 1 [] = true by decide +kernel) (by decide +kernel) (by cases H; exact HY)
theorem t_G_flips_L79 {T : jT} {xs : List Int} {d : Nat} {y : jV × jS} (hd : 5 ≤ d) {h : jH}  {o0 : Nat} {v1 : Int} {v2 : Int} {o3 : Nat} {v4 : Int} {v5 : Int} {out : (Int × jH)} (ho0 : isX11 T o0) (ho3 : isX0 T o3) (H : G_flips_L79 T h o0 v1 v2 o3 v4 v5 = some out) (HY : ykI T y out) : jEv xs d (167, 79, [(2, Int.ofNat o0), (0, v1), (0, v2), (2, Int.ofNat o3), (0, v4), (0, v5), (3, 0)], []) (T, h) y :=
  jloop_sound (G := fun s : (Int × Int × jH) => jEv xs d (167, 79, [(2, Int.ofNat o0), (0, v1), (0, v2), (2, Int.ofNat o3), (0, s.1), (0, s.2.1), (3, 0)], []) (T, s.2.2) y) (K := yk_G_flips_L79 T xs d y o0 v1 v2 o3) (fun s out H HY => t_G_flips_B79 hd ho0 ho3 H HY) (fun s' hg => hg) (s := (v4, v5, h)) H HY
set_option maxRecDepth 20000 in
noncomputable def G_flips (T : jT) (h : jH) (o0 : Nat) (v1 : Int) : Option (Int × jH) := Option.bind (G_isTold T h o0) (fun b1 => (if b1 = 0 then some ((-1), h) else (if v1 < 0 then some ((-1), h) else (if 2 < v1 then some ((-1), h) else Option.bind (Re_read h (o0 + 79) (o0 + 36) (h (o0 + 35) 7) (o0 + 54) 16) (fun b5 => Option.bind (Di_copyFrom b5 (o0 + 57) (o0 + 36)) (fun b6 => G_flips_L79 T b6 o0 v1 (b5 (o0 + 79) 3) (o0 + 57) 0 0))))))
set_option maxRecDepth 20000 in
theorem t_G_flips {T : jT} {xs : List Int} {h : jH}  {o0 : Nat} {v1 : Int} {out : (Int × jH)} (ho0 : isX11 T o0) (H : G_flips T h o0 v1 = some out) : jEm xs 6 167 [(2, Int.ofNat o0), (0, v1)] (T, h) ((0, out.1), (T, out.2)) := by
  have hd : 5 ≤ 5 := Nat.le_refl _
  obtain ⟨y, ey⟩ : ∃ y : jV × jS, y = ((0, out.1), (T, out.2)) := ⟨_, rfl⟩
  rw [← ey]
  have HY : ykI T y out := ey
  refine jEm.ent (n := 7) (by decide +kernel) (Nat.le_of_ble_eq_true rfl) ?_
  show jEv xs 5 (167, 0, [(2, Int.ofNat o0), (0, v1), (3, 0), (3, 0), (3, 0), (3, 0), (3, 0)], []) (T, h) y
  unfold G_flips at H
  refine jEv.blk [(.aload_n 0, 1, [])] (by decide +kernel) (pc' := 1) (ls' := [(2, Int.ofNat o0), (0, v1), (3, 0), (3, 0), (3, 0), (3, 0), (3, 0)]) (st' := [(2, Int.ofNat o0)]) rfl ?_
  refine jbind H (fun b1 Hb1 H => ?_)
  refine jEv.calV (st' := [(0, b1)]) (show jfI 167 1 (.invokevirtual 228) 3 [1, 152, 0, 5004] = true by decide +kernel) rfl (Or.inl rfl) rfl (Nat.le_of_ble_eq_true rfl) (by decide +kernel) (by decide) (isX11_L ho0) ((t_G_isTold (T := T) (xs := xs) ho0 Hb1).mono (jKle 1 hd)) rfl ?_
  refine jEv.if_eq (t := 16) (show jfI 167 4 (.ifCond .eq 12) 3 [] = true by decide +kernel) rfl H (fun c2 H => ?_) (fun c2 H => ?_)
  · refine jEv.blk [(.iconst (-1), 1, [])] (by decide +kernel) (pc' := 17) (ls' := [(2, Int.ofNat o0), (0, v1), (3, 0), (3, 0), (3, 0), (3, 0), (3, 0)]) (st' := [(0, (-1))]) rfl ?_
    exact jEv.retI (show jfI 167 17 (.ireturn) 1 [] = true by decide +kernel) (by decide +kernel) (by cases H; exact HY)
  · refine jEv.blk [(.iload_n 1, 1, [])] (by decide +kernel) (pc' := 8) (ls' := [(2, Int.ofNat o0), (0, v1), (3, 0), (3, 0), (3, 0), (3, 0), (3, 0)]) (st' := [(0, v1)]) rfl ?_
    refine jEv.if_lt (t := 16) (show jfI 167 8 (.ifCond .lt 8) 3 [] = true by decide +kernel) rfl H (fun c3 H => ?_) (fun c3 H => ?_)
    · refine jEv.blk [(.iconst (-1), 1, [])] (by decide +kernel) (pc' := 17) (ls' := [(2, Int.ofNat o0), (0, v1), (3, 0), (3, 0), (3, 0), (3, 0), (3, 0)]) (st' := [(0, (-1))]) rfl ?_
      exact jEv.retI (show jfI 167 17 (.ireturn) 1 [] = true by decide +kernel) (by decide +kernel) (by cases H; exact HY)
    · refine jEv.blk [(.iload_n 1, 1, []), (.iconst 2, 1, [])] (by decide +kernel) (pc' := 13) (ls' := [(2, Int.ofNat o0), (0, v1), (3, 0), (3, 0), (3, 0), (3, 0), (3, 0)]) (st' := [(0, 2), (0, v1)]) rfl ?_
      refine jEv.ic_le (t := 18) (show jfI 167 13 (.if_icmp .le 5) 3 [] = true by decide +kernel) rfl H (fun c4 H => ?_) (fun c4 H => ?_)
      · refine jEv.blk [(.iconst (-1), 1, [])] (by decide +kernel) (pc' := 17) (ls' := [(2, Int.ofNat o0), (0, v1), (3, 0), (3, 0), (3, 0), (3, 0), (3, 0)]) (st' := [(0, (-1))]) rfl ?_
        exact jEv.retI (show jfI 167 17 (.ireturn) 1 [] = true by decide +kernel) (by decide +kernel) (by cases H; exact HY)
      · refine jEv.blk [(.aload_n 0, 1, [])] (by decide +kernel) (pc' := 19) (ls' := [(2, Int.ofNat o0), (0, v1), (3, 0), (3, 0), (3, 0), (3, 0), (3, 0)]) (st' := [(2, Int.ofNat o0)]) rfl ?_
        refine jEv.gfR (o' := (o0 + 79)) (show jfI 167 19 (.getfield 66) 3 [11, 16, 5, 0, 3017] = true by decide +kernel) (isX11_L ho0) (by decide) (isX11_r16 ho0) ?_
        refine jEv.blk [(.aload_n 0, 1, [])] (by decide +kernel) (pc' := 23) (ls' := [(2, Int.ofNat o0), (0, v1), (3, 0), (3, 0), (3, 0), (3, 0), (3, 0)]) (st' := [(2, Int.ofNat o0), (2, Int.ofNat (o0 + 79))]) rfl ?_
        refine jEv.gfR (o' := (o0 + 35)) (show jfI 167 23 (.getfield 45) 3 [11, 10, 5, 0, 3011] = true by decide +kernel) (isX11_L ho0) (by decide) (isX11_r10 ho0) ?_
        refine jEv.gfR (o' := (o0 + 36)) (show jfI 167 26 (.getfield 115) 3 [9, 1, 5, 0, 2067] = true by decide +kernel) (isX9_L (isX11_s10 ho0)) (by decide) (isX9_r1 (isX11_s10 ho0)) ?_
        refine jEv.blk [(.aload_n 0, 1, [])] (by decide +kernel) (pc' := 30) (ls' := [(2, Int.ofNat o0), (0, v1), (3, 0), (3, 0), (3, 0), (3, 0), (3, 0)]) (st' := [(2, Int.ofNat o0), (2, Int.ofNat (o0 + 36)), (2, Int.ofNat (o0 + 79))]) rfl ?_
        refine jEv.gfR (o' := (o0 + 35)) (show jfI 167 30 (.getfield 45) 3 [11, 10, 5, 0, 3011] = true by decide +kernel) (isX11_L ho0) (by decide) (isX11_r10 ho0) ?_
        refine jEv.gfI (show jfI 167 33 (.getfield 157) 3 [9, 7, 0, 0, 2081] = true by decide +kernel) (isX9_L (isX11_s10 ho0)) (by decide) ?_
        refine jEv.blk [(.aload_n 0, 1, [])] (by decide +kernel) (pc' := 37) (ls' := [(2, Int.ofNat o0), (0, v1), (3, 0), (3, 0), (3, 0), (3, 0), (3, 0)]) (st' := [(2, Int.ofNat o0), (0, (h (o0 + 35) 7)), (2, Int.ofNat (o0 + 36)), (2, Int.ofNat (o0 + 79))]) rfl ?_
        refine jEv.gfR (o' := (o0 + 35)) (show jfI 167 37 (.getfield 45) 3 [11, 10, 5, 0, 3011] = true by decide +kernel) (isX11_L ho0) (by decide) (isX11_r10 ho0) ?_
        refine jEv.gfR (o' := (o0 + 54)) (show jfI 167 40 (.getfield 289) 3 [9, 6, 5, 0, 2079] = true by decide +kernel) (isX9_L (isX11_s10 ho0)) (by decide) (isX9_r6 (isX11_s10 ho0)) ?_
        refine jbind H (fun b5 Hb5 H => ?_)
        refine jEv.calV (st' := []) (show jfI 167 43 (.invokevirtual 292) 3 [1, 102, 3, 6018] = true by decide +kernel) rfl (Or.inl rfl) rfl (Nat.le_of_ble_eq_true rfl) (by decide +kernel) (by decide) (isX8_L (isX11_s16 ho0)) ((t_Re_read (T := T) (xs := xs) (isX11_s16 ho0) (isX9_s1 (isX11_s10 ho0)) (isX9_a6 (isX11_s10 ho0)) Hb5).mono (jKle 5 hd)) rfl ?_
        refine jEv.blk [(.aload_n 0, 1, [])] (by decide +kernel) (pc' := 47) (ls' := [(2, Int.ofNat o0), (0, v1), (3, 0), (3, 0), (3, 0), (3, 0), (3, 0)]) (st' := [(2, Int.ofNat o0)]) rfl ?_
        refine jEv.gfR (o' := (o0 + 79)) (show jfI 167 47 (.getfield 66) 3 [11, 16, 5, 0, 3017] = true by decide +kernel) (isX11_L ho0) (by decide) (isX11_r16 ho0) ?_
        refine jEv.gfI (show jfI 167 50 (.getfield 296) 3 [8, 3, 0, 0, 2212] = true by decide +kernel) (isX8_L (isX11_s16 ho0)) (by decide) ?_
        refine jEv.blk [(.istore_n 2, 1, []), (.aload_n 0, 1, [])] (by decide +kernel) (pc' := 55) (ls' := [(2, Int.ofNat o0), (0, v1), (0, (b5 (o0 + 79) 3)), (3, 0), (3, 0), (3, 0), (3, 0)]) (st' := [(2, Int.ofNat o0)]) rfl ?_
        refine jEv.gfR (o' := (o0 + 56)) (show jfI 167 55 (.getfield 49) 3 [11, 11, 5, 0, 3012] = true by decide +kernel) (isX11_L ho0) (by decide) (isX11_r11 ho0) ?_
        refine jEv.gfR (o' := (o0 + 57)) (show jfI 167 58 (.getfield 115) 3 [9, 1, 5, 0, 2067] = true by decide +kernel) (isX9_L (isX11_s11 ho0)) (by decide) (isX9_r1 (isX11_s11 ho0)) ?_
        refine jEv.blk [(.astore_n 3, 1, []), (.aload_n 3, 1, []), (.aload_n 0, 1, [])] (by decide +kernel) (pc' := 64) (ls' := [(2, Int.ofNat o0), (0, v1), (0, (b5 (o0 + 79) 3)), (2, Int.ofNat (o0 + 57)), (3, 0), (3, 0), (3, 0)]) (st' := [(2, Int.ofNat o0), (2, Int.ofNat (o0 + 57))]) rfl ?_
        refine jEv.gfR (o' := (o0 + 35)) (show jfI 167 64 (.getfield 45) 3 [11, 10, 5, 0, 3011] = true by decide +kernel) (isX11_L ho0) (by decide) (isX11_r10 ho0) ?_
        refine jEv.gfR (o' := (o0 + 36)) (show jfI 167 67 (.getfield 115) 3 [9, 1, 5, 0, 2067] = true by decide +kernel) (isX9_L (isX11_s10 ho0)) (by decide) (isX9_r1 (isX11_s10 ho0)) ?_
        refine jbind H (fun b6 Hb6 H => ?_)
        refine jEv.calV (st' := []) (show jfI 167 70 (.invokevirtual 282) 3 [1, 15, 1, 6016] = true by decide +kernel) rfl (Or.inl rfl) rfl (Nat.le_of_ble_eq_true rfl) (by decide +kernel) (by decide) (isX0_L (isX9_s1 (isX11_s11 ho0))) ((t_Di_copyFrom (T := T) (xs := xs) (isX9_s1 (isX11_s11 ho0)) (isX9_s1 (isX11_s10 ho0)) Hb6).mono (jKle 3 hd)) rfl ?_
        refine jEv.blk [(.iconst 0, 1, []), (.istore 4, 2, []), (.iconst 0, 1, []), (.istore 5, 2, [])] (by decide +kernel) (pc' := 79) (ls' := [(2, Int.ofNat o0), (0, v1), (0, (b5 (o0 + 79) 3)), (2, Int.ofNat (o0 + 57)), (0, 0), (0, 0), (3, 0)]) (st' := []) rfl ?_
        exact t_G_flips_L79 (T := T) (xs := xs) (y := y) hd ho0 (isX9_s1 (isX11_s11 ho0)) H HY
set_option maxRecDepth 20000 in
noncomputable def G_tapePair  (h : jH) (o0 : Nat) (v1 : Int) : Option Int := Option.bind (G_cell h (o0 + 1) 1600 v1) (fun b1 => Option.bind (G_cell h (o0 + 1) 1600 (wr (v1 + 1))) (fun b2 => some (jor (jshl b1 8) b2)))
set_option maxRecDepth 20000 in
theorem t_G_tapePair {T : jT} {xs : List Int} {h : jH}  {o0 : Nat} {v1 : Int} {out : Int} (ho0 : isX11 T o0) (H : G_tapePair h o0 v1 = some out) : jEm xs 2 170 [(2, Int.ofNat o0), (0, v1)] (T, h) ((0, out), (T, h)) := by
  have hd : 1 ≤ 1 := Nat.le_refl _
  obtain ⟨y, ey⟩ : ∃ y : jV × jS, y = ((0, out), (T, h)) := ⟨_, rfl⟩
  rw [← ey]
  have HY : ykIp T h y out := ey
  refine jEm.ent (n := 2) (by decide +kernel) (Nat.le_of_ble_eq_true rfl) ?_
  show jEv xs 1 (170, 0, [(2, Int.ofNat o0), (0, v1)], []) (T, h) y
  unfold G_tapePair at H
  refine jEv.blk [(.aload_n 0, 1, [])] (by decide +kernel) (pc' := 1) (ls' := [(2, Int.ofNat o0), (0, v1)]) (st' := [(2, Int.ofNat o0)]) rfl ?_
  refine jEv.gfR (o' := (o0 + 1)) (show jfI 170 1 (.getfield 9) 3 [11, 0, 5, 0, 3001] = true by decide +kernel) (isX11_L ho0) (by decide) (isX11_r0 ho0) ?_
  refine jEv.blk [(.iload_n 1, 1, [])] (by decide +kernel) (pc' := 5) (ls' := [(2, Int.ofNat o0), (0, v1)]) (st' := [(0, v1), (2, Int.ofNat (o0 + 1))]) rfl ?_
  refine jbind H (fun b1 Hb1 H => ?_)
  refine jEv.calS (st' := [(0, b1)]) (show jfI 170 5 (.invokestatic 241) 3 [3, 137, 2, 3070] = true by decide +kernel) rfl (Or.inl rfl) rfl (Nat.le_of_ble_eq_true rfl) ((t_G_cell (T := T) (xs := xs) (isX11_a0 ho0) Hb1).mono (jKle 1 hd)) rfl ?_
  refine jEv.blk [(.bipush 8, 2, []), (.ishl, 1, []), (.aload_n 0, 1, [])] (by decide +kernel) (pc' := 12) (ls' := [(2, Int.ofNat o0), (0, v1)]) (st' := [(2, Int.ofNat o0), (0, (jshl b1 8))]) rfl ?_
  refine jEv.gfR (o' := (o0 + 1)) (show jfI 170 12 (.getfield 9) 3 [11, 0, 5, 0, 3001] = true by decide +kernel) (isX11_L ho0) (by decide) (isX11_r0 ho0) ?_
  refine jEv.blk [(.iload_n 1, 1, []), (.iconst 1, 1, []), (.iadd, 1, [])] (by decide +kernel) (pc' := 18) (ls' := [(2, Int.ofNat o0), (0, v1)]) (st' := [(0, (wr (v1 + 1))), (2, Int.ofNat (o0 + 1)), (0, (jshl b1 8))]) rfl ?_
  refine jbind H (fun b2 Hb2 H => ?_)
  refine jEv.calS (st' := [(0, b2), (0, (jshl b1 8))]) (show jfI 170 18 (.invokestatic 241) 3 [3, 137, 2, 3070] = true by decide +kernel) rfl (Or.inl rfl) rfl (Nat.le_of_ble_eq_true rfl) ((t_G_cell (T := T) (xs := xs) (isX11_a0 ho0) Hb2).mono (jKle 1 hd)) rfl ?_
  refine jEv.blk [(.ior, 1, [])] (by decide +kernel) (pc' := 22) (ls' := [(2, Int.ofNat o0), (0, v1)]) (st' := [(0, (jor (jshl b1 8) b2))]) rfl ?_
  exact jEv.retI (show jfI 170 22 (.ireturn) 1 [] = true by decide +kernel) (by decide +kernel) (by cases H; exact HY)
def yk_G_rowsStand_L21 (T : jT) (xs : List Int) (d : Nat) (y : jV × jS) (h : jH)  (o0 : Nat) (v1 : Int) : (Int ⊕ Int) → Prop
  | .inl v2 => jEv xs d (169, 21, [(2, Int.ofNat o0), (0, v1), (0, v2)], []) (T, h) y
  | .inr o => ykIp T h y o
set_option maxRecDepth 20000 in
noncomputable def G_rowsStand_B21  (h : jH) (o0 : Nat) (v1 : Int) (v2 : Int) : Option (Int ⊕ Int) := (if v2 < v1 then Option.bind (G_cell h (o0 + 1) 1600 v2) (fun b5 => (if b5 < 16 then Option.bind (G_tapePair h o0 (wr (v2 + 1))) (fun b7 => (if 1000 < b7 then Option.map Sum.inr (some 0) else some (.inl ((wr (v2 + 3)))))) else Option.map Sum.inr (some 0))) else Option.map Sum.inr (some 1))
noncomputable def G_rowsStand_L21  (h : jH) (o0 : Nat) (v1 : Int) (v2 : Int) : Option Int := jloop (fun s : Int => G_rowsStand_B21 h o0 v1 s) (v2)
set_option maxRecDepth 20000 in
theorem t_G_rowsStand_B21 {T : jT} {xs : List Int} {d : Nat} {y : jV × jS} (hd : 2 ≤ d) {h : jH}  {o0 : Nat} {v1 : Int} {v2 : Int} {out : (Int ⊕ Int)} (ho0 : isX11 T o0) (H : G_rowsStand_B21 h o0 v1 v2 = some out) (HY : yk_G_rowsStand_L21 T xs d y h o0 v1 out) : jEv xs d (169, 21, [(2, Int.ofNat o0), (0, v1), (0, v2)], []) (T, h) y := by
  unfold G_rowsStand_B21 at H
  refine jEv.blk [(.iload_n 2, 1, []), (.iload_n 1, 1, [])] (by decide +kernel) (pc' := 23) (ls' := [(2, Int.ofNat o0), (0, v1), (0, v2)]) (st' := [(0, v1), (0, v2)]) rfl ?_
  refine jEv.ic_ge (t := 60) (show jfI 169 23 (.if_icmp .ge 37) 3 [] = true by decide +kernel) rfl H (fun c4 H => ?_) (fun c4 H => ?_)
  · refine jEv.blk [(.aload_n 0, 1, [])] (by decide +kernel) (pc' := 27) (ls' := [(2, Int.ofNat o0), (0, v1), (0, v2)]) (st' := [(2, Int.ofNat o0)]) rfl ?_
    refine jEv.gfR (o' := (o0 + 1)) (show jfI 169 27 (.getfield 9) 3 [11, 0, 5, 0, 3001] = true by decide +kernel) (isX11_L ho0) (by decide) (isX11_r0 ho0) ?_
    refine jEv.blk [(.iload_n 2, 1, [])] (by decide +kernel) (pc' := 31) (ls' := [(2, Int.ofNat o0), (0, v1), (0, v2)]) (st' := [(0, v2), (2, Int.ofNat (o0 + 1))]) rfl ?_
    refine jbind H (fun b5 Hb5 H => ?_)
    refine jEv.calS (st' := [(0, b5)]) (show jfI 169 31 (.invokestatic 241) 3 [3, 137, 2, 3070] = true by decide +kernel) rfl (Or.inl rfl) rfl (Nat.le_of_ble_eq_true rfl) ((t_G_cell (T := T) (xs := xs) (isX11_a0 ho0) Hb5).mono (jKle 1 hd)) rfl ?_
    refine jEv.blk [(.bipush 16, 2, [])] (by decide +kernel) (pc' := 36) (ls' := [(2, Int.ofNat o0), (0, v1), (0, v2)]) (st' := [(0, 16), (0, b5)]) rfl ?_
    refine jEv.ic_ge (t := 52) (show jfI 169 36 (.if_icmp .ge 16) 3 [] = true by decide +kernel) rfl H (fun c6 H => ?_) (fun c6 H => ?_)
    · refine jEv.blk [(.aload_n 0, 1, []), (.iload_n 2, 1, []), (.iconst 1, 1, []), (.iadd, 1, [])] (by decide +kernel) (pc' := 43) (ls' := [(2, Int.ofNat o0), (0, v1), (0, v2)]) (st' := [(0, (wr (v2 + 1))), (2, Int.ofNat o0)]) rfl ?_
      refine jbind H (fun b7 Hb7 H => ?_)
      refine jEv.calV (st' := [(0, b7)]) (show jfI 169 43 (.invokevirtual 412) 3 [1, 170, 1, 6082] = true by decide +kernel) rfl (Or.inl rfl) rfl (Nat.le_of_ble_eq_true rfl) (by decide +kernel) (by decide) (isX11_L ho0) ((t_G_tapePair (T := T) (xs := xs) ho0 Hb7).mono (jKle 2 hd)) rfl ?_
      refine jEv.blk [(.sipush 1000, 3, [])] (by decide +kernel) (pc' := 49) (ls' := [(2, Int.ofNat o0), (0, v1), (0, v2)]) (st' := [(0, 1000), (0, b7)]) rfl ?_
      refine jEv.ic_le (t := 54) (show jfI 169 49 (.if_icmp .le 5) 3 [] = true by decide +kernel) rfl H (fun c8 H => ?_) (fun c8 H => ?_)
      · refine jmapr H HY (fun out H (HY : ykIp T h y out) => ?_)
        refine jEv.blk [(.iconst 0, 1, [])] (by decide +kernel) (pc' := 53) (ls' := [(2, Int.ofNat o0), (0, v1), (0, v2)]) (st' := [(0, 0)]) rfl ?_
        exact jEv.retZ (show jfI 169 53 (.ireturn) 1 [] = true by decide +kernel) (by decide +kernel) (by decide) (by cases H; exact HY)
      · refine jEv.blk [(.iinc 2 3, 3, [])] (by decide +kernel) (pc' := 57) (ls' := [(2, Int.ofNat o0), (0, v1), (0, (wr (v2 + 3)))]) (st' := []) rfl ?_
        refine jEv.goto (t := 21) (show jfI 169 57 (.goto (-36)) 3 [] = true by decide +kernel) rfl ?_
        exact (by cases H; exact HY)
    · refine jmapr H HY (fun out H (HY : ykIp T h y out) => ?_)
      refine jEv.blk [(.iconst 0, 1, [])] (by decide +kernel) (pc' := 53) (ls' := [(2, Int.ofNat o0), (0, v1), (0, v2)]) (st' := [(0, 0)]) rfl ?_
      exact jEv.retZ (show jfI 169 53 (.ireturn) 1 [] = true by decide +kernel) (by decide +kernel) (by decide) (by cases H; exact HY)
  · refine jmapr H HY (fun out H (HY : ykIp T h y out) => ?_)
    refine jEv.blk [(.iconst 1, 1, [])] (by decide +kernel) (pc' := 61) (ls' := [(2, Int.ofNat o0), (0, v1), (0, v2)]) (st' := [(0, 1)]) rfl ?_
    exact jEv.retZ (show jfI 169 61 (.ireturn) 1 [] = true by decide +kernel) (by decide +kernel) (by decide) (by cases H; exact HY)
theorem t_G_rowsStand_L21 {T : jT} {xs : List Int} {d : Nat} {y : jV × jS} (hd : 2 ≤ d) {h : jH}  {o0 : Nat} {v1 : Int} {v2 : Int} {out : Int} (ho0 : isX11 T o0) (H : G_rowsStand_L21 h o0 v1 v2 = some out) (HY : ykIp T h y out) : jEv xs d (169, 21, [(2, Int.ofNat o0), (0, v1), (0, v2)], []) (T, h) y :=
  jloop_sound (G := fun s : Int => jEv xs d (169, 21, [(2, Int.ofNat o0), (0, v1), (0, s)], []) (T, h) y) (K := yk_G_rowsStand_L21 T xs d y h o0 v1) (fun s out H HY => t_G_rowsStand_B21 hd ho0 H HY) (fun s' hg => hg) (s := (v2)) H HY
set_option maxRecDepth 20000 in
noncomputable def G_rowsStand  (h : jH) (o0 : Nat) (v1 : Int) : Option Int := (if v1 < 3 then some 0 else (if 48 < v1 then some 0 else (if (Int.tmod v1 3) = 0 then G_rowsStand_L21 h o0 v1 0 else some 0)))
set_option maxRecDepth 20000 in
theorem t_G_rowsStand {T : jT} {xs : List Int} {h : jH}  {o0 : Nat} {v1 : Int} {out : Int} (ho0 : isX11 T o0) (H : G_rowsStand h o0 v1 = some out) : jEm xs 3 169 [(2, Int.ofNat o0), (0, v1)] (T, h) ((0, out), (T, h)) := by
  have hd : 2 ≤ 2 := Nat.le_refl _
  obtain ⟨y, ey⟩ : ∃ y : jV × jS, y = ((0, out), (T, h)) := ⟨_, rfl⟩
  rw [← ey]
  have HY : ykIp T h y out := ey
  refine jEm.ent (n := 3) (by decide +kernel) (Nat.le_of_ble_eq_true rfl) ?_
  show jEv xs 2 (169, 0, [(2, Int.ofNat o0), (0, v1), (3, 0)], []) (T, h) y
  unfold G_rowsStand at H
  refine jEv.blk [(.iload_n 1, 1, []), (.iconst 3, 1, [])] (by decide +kernel) (pc' := 2) (ls' := [(2, Int.ofNat o0), (0, v1), (3, 0)]) (st' := [(0, 3), (0, v1)]) rfl ?_
  refine jEv.ic_lt (t := 17) (show jfI 169 2 (.if_icmp .lt 15) 3 [] = true by decide +kernel) rfl H (fun c1 H => ?_) (fun c1 H => ?_)
  · refine jEv.blk [(.iconst 0, 1, [])] (by decide +kernel) (pc' := 18) (ls' := [(2, Int.ofNat o0), (0, v1), (3, 0)]) (st' := [(0, 0)]) rfl ?_
    exact jEv.retZ (show jfI 169 18 (.ireturn) 1 [] = true by decide +kernel) (by decide +kernel) (by decide) (by cases H; exact HY)
  · refine jEv.blk [(.iload_n 1, 1, []), (.bipush 48, 2, [])] (by decide +kernel) (pc' := 8) (ls' := [(2, Int.ofNat o0), (0, v1), (3, 0)]) (st' := [(0, 48), (0, v1)]) rfl ?_
    refine jEv.ic_gt (t := 17) (show jfI 169 8 (.if_icmp .gt 9) 3 [] = true by decide +kernel) rfl H (fun c2 H => ?_) (fun c2 H => ?_)
    · refine jEv.blk [(.iconst 0, 1, [])] (by decide +kernel) (pc' := 18) (ls' := [(2, Int.ofNat o0), (0, v1), (3, 0)]) (st' := [(0, 0)]) rfl ?_
      exact jEv.retZ (show jfI 169 18 (.ireturn) 1 [] = true by decide +kernel) (by decide +kernel) (by decide) (by cases H; exact HY)
    · refine jEv.blk [(.iload_n 1, 1, []), (.iconst 3, 1, [])] (by decide +kernel) (pc' := 13) (ls' := [(2, Int.ofNat o0), (0, v1), (3, 0)]) (st' := [(0, 3), (0, v1)]) rfl ?_
      refine jEv.irem (show jfI 169 13 (.irem) 1 [] = true by decide +kernel) (by decide) ?_
      refine jEv.if_eq (t := 19) (show jfI 169 14 (.ifCond .eq 5) 3 [] = true by decide +kernel) rfl H (fun c3 H => ?_) (fun c3 H => ?_)
      · refine jEv.blk [(.iconst 0, 1, []), (.istore_n 2, 1, [])] (by decide +kernel) (pc' := 21) (ls' := [(2, Int.ofNat o0), (0, v1), (0, 0)]) (st' := []) rfl ?_
        exact t_G_rowsStand_L21 (T := T) (xs := xs) (y := y) hd ho0 H HY
      · refine jEv.blk [(.iconst 0, 1, [])] (by decide +kernel) (pc' := 18) (ls' := [(2, Int.ofNat o0), (0, v1), (3, 0)]) (st' := [(0, 0)]) rfl ?_
        exact jEv.retZ (show jfI 169 18 (.ireturn) 1 [] = true by decide +kernel) (by decide +kernel) (by decide) (by cases H; exact HY)
def yk_G_see_L28 (T : jT) (xs : List Int) (d : Nat) (y : jV × jS)  (o0 : Nat) (v1 : Int) : ((Int × jH) ⊕ (Int × jH)) → Prop
  | .inl (v2, h) => jEv xs d (168, 28, [(2, Int.ofNat o0), (0, v1), (0, v2)], []) (T, h) y
  | .inr o => ykI T y o
set_option maxRecDepth 20000 in
noncomputable def G_see_p20 (T : jT) (h : jH) (o0 : Nat) : Option (Int × jH) := Option.bind (G_refuse h o0 1) (fun b6 => some (b6.1, b6.2))
set_option maxRecDepth 20000 in
theorem t_G_see_p20 {T : jT} {xs : List Int} {d : Nat} {y : jV × jS} (hd : 3 ≤ d) {h : jH}  {o0 : Nat} {out : (Int × jH)} (ho0 : isX11 T o0) (H : G_see_p20 T h o0 = some out) (HY : ykI T y out) : jEv xs d (168, 20, [(2, Int.ofNat o0), (3, 0), (3, 0)], []) (T, h) y := by
  unfold G_see_p20 at H
  refine jEv.blk [(.aload_n 0, 1, []), (.iconst 1, 1, [])] (by decide +kernel) (pc' := 22) (ls' := [(2, Int.ofNat o0), (3, 0), (3, 0)]) (st' := [(0, 1), (2, Int.ofNat o0)]) rfl ?_
  refine jbind H (fun b6 Hb6 H => ?_)
  refine jEv.calV (st' := [(0, b6.1)]) (show jfI 168 22 (.invokevirtual 80) 3 [1, 136, 1, 3066] = true by decide +kernel) rfl (Or.inl rfl) rfl (Nat.le_of_ble_eq_true rfl) (by decide +kernel) (by decide) (isX11_L ho0) ((t_G_refuse (T := T) (xs := xs) ho0 Hb6).mono (jKle 2 hd)) rfl ?_
  exact jEv.retI (show jfI 168 25 (.ireturn) 1 [] = true by decide +kernel) (by decide +kernel) (by cases H; exact HY)
set_option maxRecDepth 20000 in
noncomputable def G_see_p62 (T : jT) (h : jH) (o0 : Nat) (v1 : Int) : Option (Int × jH) := some (((jup h o0 7 (wr (Int.tdiv v1 3))) o0 7), (jup h o0 7 (wr (Int.tdiv v1 3))))
set_option maxRecDepth 20000 in
theorem t_G_see_p62 {T : jT} {xs : List Int} {d : Nat} {y : jV × jS} (hd : 3 ≤ d) {h : jH}  {o0 : Nat} {v1 : Int} {out : (Int × jH)} (ho0 : isX11 T o0) (H : G_see_p62 T h o0 v1 = some out) (HY : ykI T y out) : jEv xs d (168, 62, [(2, Int.ofNat o0), (0, v1), (3, 0)], []) (T, h) y := by
  unfold G_see_p62 at H
  refine jEv.blk [(.aload_n 0, 1, []), (.iload_n 1, 1, []), (.iconst 3, 1, [])] (by decide +kernel) (pc' := 65) (ls' := [(2, Int.ofNat o0), (0, v1), (3, 0)]) (st' := [(0, 3), (0, v1), (2, Int.ofNat o0)]) rfl ?_
  refine jEv.idiv (show jfI 168 65 (.idiv) 1 [] = true by decide +kernel) (by decide) ?_
  refine jEv.pfI (show jfI 168 66 (.putfield 173) 3 [11, 7, 0, 0, 3008] = true by decide +kernel) (isX11_L ho0) (by decide) ?_
  refine jEv.blk [(.aload_n 0, 1, [])] (by decide +kernel) (pc' := 70) (ls' := [(2, Int.ofNat o0), (0, v1), (3, 0)]) (st' := [(2, Int.ofNat o0)]) rfl ?_
  refine jEv.gfI (show jfI 168 70 (.getfield 173) 3 [11, 7, 0, 0, 3008] = true by decide +kernel) (isX11_L ho0) (by decide) ?_
  exact jEv.retI (show jfI 168 73 (.ireturn) 1 [] = true by decide +kernel) (by decide +kernel) (by cases H; exact HY)
set_option maxRecDepth 20000 in
noncomputable def G_see_B28 (T : jT) (h : jH) (o0 : Nat) (v1 : Int) (v2 : Int) : Option ((Int × jH) ⊕ (Int × jH)) := (if v2 < v1 then (if v2 < ((48 : Nat) : Int) then Option.bind (G_cell h (o0 + 1) 1600 v2) (fun b9 => (if (0 : Int) ≤ v2 ∧ (v2 : Int).toNat < 48 then some (.inl ((wr (v2 + 1)), (jup h (o0 + 4) (v2 : Int).toNat b9))) else none)) else Option.map Sum.inr (G_see_p62 T h o0 v1)) else Option.map Sum.inr (G_see_p62 T h o0 v1))
noncomputable def G_see_L28 (T : jT) (h : jH) (o0 : Nat) (v1 : Int) (v2 : Int) : Option (Int × jH) := jloop (fun s : (Int × jH) => G_see_B28 T s.2 o0 v1 s.1) (v2, h)
set_option maxRecDepth 20000 in
theorem t_G_see_B28 {T : jT} {xs : List Int} {d : Nat} {y : jV × jS} (hd : 3 ≤ d) {h : jH}  {o0 : Nat} {v1 : Int} {v2 : Int} {out : ((Int × jH) ⊕ (Int × jH))} (ho0 : isX11 T o0) (H : G_see_B28 T h o0 v1 v2 = some out) (HY : yk_G_see_L28 T xs d y o0 v1 out) : jEv xs d (168, 28, [(2, Int.ofNat o0), (0, v1), (0, v2)], []) (T, h) y := by
  unfold G_see_B28 at H
  refine jEv.blk [(.iload_n 2, 1, []), (.iload_n 1, 1, [])] (by decide +kernel) (pc' := 30) (ls' := [(2, Int.ofNat o0), (0, v1), (0, v2)]) (st' := [(0, v1), (0, v2)]) rfl ?_
  refine jEv.ic_ge (t := 62) (show jfI 168 30 (.if_icmp .ge 32) 3 [] = true by decide +kernel) rfl H (fun c7 H => ?_) (fun c7 H => ?_)
  · refine jEv.blk [(.iload_n 2, 1, []), (.aload_n 0, 1, [])] (by decide +kernel) (pc' := 35) (ls' := [(2, Int.ofNat o0), (0, v1), (0, v2)]) (st' := [(2, Int.ofNat o0), (0, v2)]) rfl ?_
    refine jEv.gfR (o' := (o0 + 4)) (show jfI 168 35 (.getfield 23) 3 [11, 6, 5, 0, 3007] = true by decide +kernel) (isX11_L ho0) (by decide) (isX11_r6 ho0) ?_
    refine jEv.alen (show jfI 168 38 (.arraylength) 1 [] = true by decide +kernel) (isX11_a6 ho0) (by decide) ?_
    refine jEv.ic_ge (t := 62) (show jfI 168 39 (.if_icmp .ge 23) 3 [] = true by decide +kernel) rfl H (fun c8 H => ?_) (fun c8 H => ?_)
    · refine jEv.blk [(.aload_n 0, 1, [])] (by decide +kernel) (pc' := 43) (ls' := [(2, Int.ofNat o0), (0, v1), (0, v2)]) (st' := [(2, Int.ofNat o0)]) rfl ?_
      refine jEv.gfR (o' := (o0 + 4)) (show jfI 168 43 (.getfield 23) 3 [11, 6, 5, 0, 3007] = true by decide +kernel) (isX11_L ho0) (by decide) (isX11_r6 ho0) ?_
      refine jEv.blk [(.iload_n 2, 1, []), (.aload_n 0, 1, [])] (by decide +kernel) (pc' := 48) (ls' := [(2, Int.ofNat o0), (0, v1), (0, v2)]) (st' := [(2, Int.ofNat o0), (0, v2), (2, Int.ofNat (o0 + 4))]) rfl ?_
      refine jEv.gfR (o' := (o0 + 1)) (show jfI 168 48 (.getfield 9) 3 [11, 0, 5, 0, 3001] = true by decide +kernel) (isX11_L ho0) (by decide) (isX11_r0 ho0) ?_
      refine jEv.blk [(.iload_n 2, 1, [])] (by decide +kernel) (pc' := 52) (ls' := [(2, Int.ofNat o0), (0, v1), (0, v2)]) (st' := [(0, v2), (2, Int.ofNat (o0 + 1)), (0, v2), (2, Int.ofNat (o0 + 4))]) rfl ?_
      refine jbind H (fun b9 Hb9 H => ?_)
      refine jEv.calS (st' := [(0, b9), (0, v2), (2, Int.ofNat (o0 + 4))]) (show jfI 168 52 (.invokestatic 241) 3 [3, 137, 2, 3070] = true by decide +kernel) rfl (Or.inl rfl) rfl (Nat.le_of_ble_eq_true rfl) ((t_G_cell (T := T) (xs := xs) (isX11_a0 ho0) Hb9).mono (jKle 1 hd)) rfl ?_
      refine jEv.ast (Or.inl ⟨rfl, rfl, rfl⟩) (show jfI 168 55 (.iastore) 1 [] = true by decide +kernel) (isX11_a6 ho0) rfl H (fun c10 H => ?_)
      refine jEv.blk [(.iinc 2 1, 3, [])] (by decide +kernel) (pc' := 59) (ls' := [(2, Int.ofNat o0), (0, v1), (0, (wr (v2 + 1)))]) (st' := []) rfl ?_
      refine jEv.goto (t := 28) (show jfI 168 59 (.goto (-31)) 3 [] = true by decide +kernel) rfl ?_
      exact (by cases H; exact HY)
    · refine jmapr H HY (fun out H (HY : ykI T y out) => ?_)
      exact jEv.weak (a := [(2, Int.ofNat o0), (0, v1), (3, 0)]) (jles.c1 (jles.c1 (jles.c0 jles.nl))) (t_G_see_p62 (T := T) (xs := xs) (y := y) hd ho0 H HY)
  · refine jmapr H HY (fun out H (HY : ykI T y out) => ?_)
    exact jEv.weak (a := [(2, Int.ofNat o0), (0, v1), (3, 0)]) (jles.c1 (jles.c1 (jles.c0 jles.nl))) (t_G_see_p62 (T := T) (xs := xs) (y := y) hd ho0 H HY)
theorem t_G_see_L28 {T : jT} {xs : List Int} {d : Nat} {y : jV × jS} (hd : 3 ≤ d) {h : jH}  {o0 : Nat} {v1 : Int} {v2 : Int} {out : (Int × jH)} (ho0 : isX11 T o0) (H : G_see_L28 T h o0 v1 v2 = some out) (HY : ykI T y out) : jEv xs d (168, 28, [(2, Int.ofNat o0), (0, v1), (0, v2)], []) (T, h) y :=
  jloop_sound (G := fun s : (Int × jH) => jEv xs d (168, 28, [(2, Int.ofNat o0), (0, v1), (0, s.1)], []) (T, s.2) y) (K := yk_G_see_L28 T xs d y o0 v1) (fun s out H HY => t_G_see_B28 hd ho0 H HY) (fun s' hg => hg) (s := (v2, h)) H HY
set_option maxRecDepth 20000 in
noncomputable def G_see (T : jT) (h : jH) (o0 : Nat) : Option (Int × jH) := Option.bind (G_takeTape h o0) (fun b1 => Option.bind (G_isTold T b1.2 o0) (fun b2 => (if b2 = 0 then G_see_p20 T b1.2 o0 else Option.bind (G_rowsStand b1.2 o0 b1.1) (fun b4 => (if b4 = 0 then G_see_p20 T b1.2 o0 else G_see_L28 T b1.2 o0 b1.1 0)))))
set_option maxRecDepth 20000 in
theorem t_G_see {T : jT} {xs : List Int} {h : jH}  {o0 : Nat} {out : (Int × jH)} (ho0 : isX11 T o0) (H : G_see T h o0 = some out) : jEm xs 4 168 [(2, Int.ofNat o0)] (T, h) ((0, out.1), (T, out.2)) := by
  have hd : 3 ≤ 3 := Nat.le_refl _
  obtain ⟨y, ey⟩ : ∃ y : jV × jS, y = ((0, out.1), (T, out.2)) := ⟨_, rfl⟩
  rw [← ey]
  have HY : ykI T y out := ey
  refine jEm.ent (n := 3) (by decide +kernel) (Nat.le_of_ble_eq_true rfl) ?_
  show jEv xs 3 (168, 0, [(2, Int.ofNat o0), (3, 0), (3, 0)], []) (T, h) y
  unfold G_see at H
  refine jEv.blk [(.aload_n 0, 1, [])] (by decide +kernel) (pc' := 1) (ls' := [(2, Int.ofNat o0), (3, 0), (3, 0)]) (st' := [(2, Int.ofNat o0)]) rfl ?_
  refine jbind H (fun b1 Hb1 H => ?_)
  refine jEv.calV (st' := [(0, b1.1)]) (show jfI 168 1 (.invokevirtual 92) 3 [1, 143, 0, 3092] = true by decide +kernel) rfl (Or.inl rfl) rfl (Nat.le_of_ble_eq_true rfl) (by decide +kernel) (by decide) (isX11_L ho0) ((t_G_takeTape (T := T) (xs := xs) ho0 Hb1).mono (jKle 1 hd)) rfl ?_
  refine jEv.blk [(.istore_n 1, 1, []), (.aload_n 0, 1, [])] (by decide +kernel) (pc' := 6) (ls' := [(2, Int.ofNat o0), (0, b1.1), (3, 0)]) (st' := [(2, Int.ofNat o0)]) rfl ?_
  refine jbind H (fun b2 Hb2 H => ?_)
  refine jEv.calV (st' := [(0, b2)]) (show jfI 168 6 (.invokevirtual 228) 3 [1, 152, 0, 5004] = true by decide +kernel) rfl (Or.inl rfl) rfl (Nat.le_of_ble_eq_true rfl) (by decide +kernel) (by decide) (isX11_L ho0) ((t_G_isTold (T := T) (xs := xs) ho0 Hb2).mono (jKle 1 hd)) rfl ?_
  refine jEv.if_eq (t := 20) (show jfI 168 9 (.ifCond .eq 11) 3 [] = true by decide +kernel) rfl H (fun c3 H => ?_) (fun c3 H => ?_)
  · exact jEv.weak (a := [(2, Int.ofNat o0), (3, 0), (3, 0)]) (jles.c1 (jles.c0 (jles.c0 jles.nl))) (t_G_see_p20 (T := T) (xs := xs) (y := y) hd ho0 H HY)
  · refine jEv.blk [(.aload_n 0, 1, []), (.iload_n 1, 1, [])] (by decide +kernel) (pc' := 14) (ls' := [(2, Int.ofNat o0), (0, b1.1), (3, 0)]) (st' := [(0, b1.1), (2, Int.ofNat o0)]) rfl ?_
    refine jbind H (fun b4 Hb4 H => ?_)
    refine jEv.calV (st' := [(0, b4)]) (show jfI 168 14 (.invokevirtual 317) 3 [1, 169, 1, 6078] = true by decide +kernel) rfl (Or.inl rfl) rfl (Nat.le_of_ble_eq_true rfl) (by decide +kernel) (by decide) (isX11_L ho0) ((t_G_rowsStand (T := T) (xs := xs) ho0 Hb4).mono (jKle 3 hd)) rfl ?_
    refine jEv.if_ne (t := 26) (show jfI 168 17 (.ifCond .ne 9) 3 [] = true by decide +kernel) rfl H (fun c5 H => ?_) (fun c5 H => ?_)
    · exact jEv.weak (a := [(2, Int.ofNat o0), (3, 0), (3, 0)]) (jles.c1 (jles.c0 (jles.c0 jles.nl))) (t_G_see_p20 (T := T) (xs := xs) (y := y) hd ho0 H HY)
    · refine jEv.blk [(.iconst 0, 1, []), (.istore_n 2, 1, [])] (by decide +kernel) (pc' := 28) (ls' := [(2, Int.ofNat o0), (0, b1.1), (0, 0)]) (st' := []) rfl ?_
      exact t_G_see_L28 (T := T) (xs := xs) (y := y) hd ho0 H HY
def yk_G_isSeen_L2 (T : jT) (xs : List Int) (d : Nat) (y : jV × jS) (h : jH)  (o0 : Nat) (r1 : Nat) (n1 : Nat) : (Int ⊕ Int) → Prop
  | .inl v2 => jEv xs d (173, 2, [(2, Int.ofNat o0), (2, Int.ofNat r1), (0, v2), (3, 0)], []) (T, h) y
  | .inr o => ykIp T h y o
set_option maxRecDepth 20000 in
noncomputable def G_isSeen_p61  (h : jH) (o0 : Nat) (r1 : Nat) (n1 : Nat) (v2 : Int) (vs0 : Int) (vs1 : Int) : Option (Int ⊕ Int) := (if vs0 = vs1 then some (.inl ((wr (v2 + 3)))) else Option.map Sum.inr (some 0))
set_option maxRecDepth 20000 in
theorem t_G_isSeen_p61 {T : jT} {xs : List Int} {d : Nat} {y : jV × jS} (hd : 1 ≤ d) {h : jH}  {o0 : Nat} {r1 : Nat} {n1 : Nat} {v2 : Int} {vs0 : Int} {vs1 : Int} {out : (Int ⊕ Int)} (ho0 : isX11 T o0) (hr1 : T.1[r1]? = some (20, n1)) (H : G_isSeen_p61 h o0 r1 n1 v2 vs0 vs1 = some out) (HY : yk_G_isSeen_L2 T xs d y h o0 r1 n1 out) : jEv xs d (173, 61, [(2, Int.ofNat o0), (2, Int.ofNat r1), (0, v2), (3, 0)], [(0, vs1), (0, vs0)]) (T, h) y := by
  unfold G_isSeen_p61 at H
  refine jEv.ic_eq (t := 66) (show jfI 173 61 (.if_icmp .eq 5) 3 [] = true by decide +kernel) rfl H (fun c7 H => ?_) (fun c7 H => ?_)
  · refine jEv.blk [(.iinc 2 3, 3, [])] (by decide +kernel) (pc' := 69) (ls' := [(2, Int.ofNat o0), (2, Int.ofNat r1), (0, (wr (v2 + 3))), (3, 0)]) (st' := []) rfl ?_
    refine jEv.goto (t := 2) (show jfI 173 69 (.goto (-67)) 3 [] = true by decide +kernel) rfl ?_
    exact (by cases H; exact HY)
  · refine jmapr H HY (fun out H (HY : ykIp T h y out) => ?_)
    refine jEv.blk [(.iconst 0, 1, [])] (by decide +kernel) (pc' := 65) (ls' := [(2, Int.ofNat o0), (2, Int.ofNat r1), (0, v2), (3, 0)]) (st' := [(0, 0)]) rfl ?_
    exact jEv.retZ (show jfI 173 65 (.ireturn) 1 [] = true by decide +kernel) (by decide +kernel) (by decide) (by cases H; exact HY)
set_option maxRecDepth 20000 in
noncomputable def G_isSeen_B2  (h : jH) (o0 : Nat) (r1 : Nat) (n1 : Nat) (v2 : Int) : Option (Int ⊕ Int) := (if v2 < (wr ((h o0 7) * 3)) then Option.bind (G_cell h (o0 + 4) 48 (wr (v2 + 1))) (fun b2 => Option.bind (G_cell h (o0 + 4) 48 (wr (v2 + 2))) (fun b3 => Option.bind (G_cell h (o0 + 4) 48 v2) (fun b4 => Option.bind (G_cell h r1 n1 b4) (fun b5 => (if (jor (jshl b2 8) b3) = 1000 then G_isSeen_p61 h o0 r1 n1 v2 b5 (-1) else G_isSeen_p61 h o0 r1 n1 v2 b5 (jor (jshl b2 8) b3)))))) else Option.map Sum.inr (some 1))
noncomputable def G_isSeen_L2  (h : jH) (o0 : Nat) (r1 : Nat) (n1 : Nat) (v2 : Int) : Option Int := jloop (fun s : Int => G_isSeen_B2 h o0 r1 n1 s) (v2)
set_option maxRecDepth 20000 in
theorem t_G_isSeen_B2 {T : jT} {xs : List Int} {d : Nat} {y : jV × jS} (hd : 1 ≤ d) {h : jH}  {o0 : Nat} {r1 : Nat} {n1 : Nat} {v2 : Int} {out : (Int ⊕ Int)} (ho0 : isX11 T o0) (hr1 : T.1[r1]? = some (20, n1)) (H : G_isSeen_B2 h o0 r1 n1 v2 = some out) (HY : yk_G_isSeen_L2 T xs d y h o0 r1 n1 out) : jEv xs d (173, 2, [(2, Int.ofNat o0), (2, Int.ofNat r1), (0, v2), (3, 0)], []) (T, h) y := by
  unfold G_isSeen_B2 at H
  refine jEv.blk [(.iload_n 2, 1, []), (.aload_n 0, 1, [])] (by decide +kernel) (pc' := 4) (ls' := [(2, Int.ofNat o0), (2, Int.ofNat r1), (0, v2), (3, 0)]) (st' := [(2, Int.ofNat o0), (0, v2)]) rfl ?_
  refine jEv.gfI (show jfI 173 4 (.getfield 173) 3 [11, 7, 0, 0, 3008] = true by decide +kernel) (isX11_L ho0) (by decide) ?_
  refine jEv.blk [(.iconst 3, 1, []), (.imul, 1, [])] (by decide +kernel) (pc' := 9) (ls' := [(2, Int.ofNat o0), (2, Int.ofNat r1), (0, v2), (3, 0)]) (st' := [(0, (wr ((h o0 7) * 3))), (0, v2)]) rfl ?_
  refine jEv.ic_ge (t := 72) (show jfI 173 9 (.if_icmp .ge 63) 3 [] = true by decide +kernel) rfl H (fun c1 H => ?_) (fun c1 H => ?_)
  · refine jEv.blk [(.aload_n 0, 1, [])] (by decide +kernel) (pc' := 13) (ls' := [(2, Int.ofNat o0), (2, Int.ofNat r1), (0, v2), (3, 0)]) (st' := [(2, Int.ofNat o0)]) rfl ?_
    refine jEv.gfR (o' := (o0 + 4)) (show jfI 173 13 (.getfield 23) 3 [11, 6, 5, 0, 3007] = true by decide +kernel) (isX11_L ho0) (by decide) (isX11_r6 ho0) ?_
    refine jEv.blk [(.iload_n 2, 1, []), (.iconst 1, 1, []), (.iadd, 1, [])] (by decide +kernel) (pc' := 19) (ls' := [(2, Int.ofNat o0), (2, Int.ofNat r1), (0, v2), (3, 0)]) (st' := [(0, (wr (v2 + 1))), (2, Int.ofNat (o0 + 4))]) rfl ?_
    refine jbind H (fun b2 Hb2 H => ?_)
    refine jEv.calS (st' := [(0, b2)]) (show jfI 173 19 (.invokestatic 241) 3 [3, 137, 2, 3070] = true by decide +kernel) rfl (Or.inl rfl) rfl (Nat.le_of_ble_eq_true rfl) ((t_G_cell (T := T) (xs := xs) (isX11_a6 ho0) Hb2).mono (jKle 1 hd)) rfl ?_
    refine jEv.blk [(.bipush 8, 2, []), (.ishl, 1, []), (.aload_n 0, 1, [])] (by decide +kernel) (pc' := 26) (ls' := [(2, Int.ofNat o0), (2, Int.ofNat r1), (0, v2), (3, 0)]) (st' := [(2, Int.ofNat o0), (0, (jshl b2 8))]) rfl ?_
    refine jEv.gfR (o' := (o0 + 4)) (show jfI 173 26 (.getfield 23) 3 [11, 6, 5, 0, 3007] = true by decide +kernel) (isX11_L ho0) (by decide) (isX11_r6 ho0) ?_
    refine jEv.blk [(.iload_n 2, 1, []), (.iconst 2, 1, []), (.iadd, 1, [])] (by decide +kernel) (pc' := 32) (ls' := [(2, Int.ofNat o0), (2, Int.ofNat r1), (0, v2), (3, 0)]) (st' := [(0, (wr (v2 + 2))), (2, Int.ofNat (o0 + 4)), (0, (jshl b2 8))]) rfl ?_
    refine jbind H (fun b3 Hb3 H => ?_)
    refine jEv.calS (st' := [(0, b3), (0, (jshl b2 8))]) (show jfI 173 32 (.invokestatic 241) 3 [3, 137, 2, 3070] = true by decide +kernel) rfl (Or.inl rfl) rfl (Nat.le_of_ble_eq_true rfl) ((t_G_cell (T := T) (xs := xs) (isX11_a6 ho0) Hb3).mono (jKle 1 hd)) rfl ?_
    refine jEv.blk [(.ior, 1, []), (.istore_n 3, 1, []), (.aload_n 1, 1, []), (.aload_n 0, 1, [])] (by decide +kernel) (pc' := 39) (ls' := [(2, Int.ofNat o0), (2, Int.ofNat r1), (0, v2), (0, (jor (jshl b2 8) b3))]) (st' := [(2, Int.ofNat o0), (2, Int.ofNat r1)]) rfl ?_
    refine jEv.gfR (o' := (o0 + 4)) (show jfI 173 39 (.getfield 23) 3 [11, 6, 5, 0, 3007] = true by decide +kernel) (isX11_L ho0) (by decide) (isX11_r6 ho0) ?_
    refine jEv.blk [(.iload_n 2, 1, [])] (by decide +kernel) (pc' := 43) (ls' := [(2, Int.ofNat o0), (2, Int.ofNat r1), (0, v2), (0, (jor (jshl b2 8) b3))]) (st' := [(0, v2), (2, Int.ofNat (o0 + 4)), (2, Int.ofNat r1)]) rfl ?_
    refine jbind H (fun b4 Hb4 H => ?_)
    refine jEv.calS (st' := [(0, b4), (2, Int.ofNat r1)]) (show jfI 173 43 (.invokestatic 241) 3 [3, 137, 2, 3070] = true by decide +kernel) rfl (Or.inl rfl) rfl (Nat.le_of_ble_eq_true rfl) ((t_G_cell (T := T) (xs := xs) (isX11_a6 ho0) Hb4).mono (jKle 1 hd)) rfl ?_
    refine jbind H (fun b5 Hb5 H => ?_)
    refine jEv.calS (st' := [(0, b5)]) (show jfI 173 46 (.invokestatic 241) 3 [3, 137, 2, 3070] = true by decide +kernel) rfl (Or.inl rfl) rfl (Nat.le_of_ble_eq_true rfl) ((t_G_cell (T := T) (xs := xs) hr1 Hb5).mono (jKle 1 hd)) rfl ?_
    refine jEv.blk [(.iload_n 3, 1, []), (.sipush 1000, 3, [])] (by decide +kernel) (pc' := 53) (ls' := [(2, Int.ofNat o0), (2, Int.ofNat r1), (0, v2), (0, (jor (jshl b2 8) b3))]) (st' := [(0, 1000), (0, (jor (jshl b2 8) b3)), (0, b5)]) rfl ?_
    refine jEv.ic_ne (t := 60) (show jfI 173 53 (.if_icmp .ne 7) 3 [] = true by decide +kernel) rfl H (fun c6 H => ?_) (fun c6 H => ?_)
    · refine jEv.blk [(.iconst (-1), 1, [])] (by decide +kernel) (pc' := 57) (ls' := [(2, Int.ofNat o0), (2, Int.ofNat r1), (0, v2), (0, (jor (jshl b2 8) b3))]) (st' := [(0, (-1)), (0, b5)]) rfl ?_
      refine jEv.goto (t := 61) (show jfI 173 57 (.goto 4) 3 [] = true by decide +kernel) rfl ?_
      exact jEv.weak (a := [(2, Int.ofNat o0), (2, Int.ofNat r1), (0, v2), (3, 0)]) (jles.c1 (jles.c1 (jles.c1 (jles.c0 jles.nl)))) (t_G_isSeen_p61 (T := T) (xs := xs) (y := y) hd ho0 hr1 H HY)
    · refine jEv.blk [(.iload_n 3, 1, [])] (by decide +kernel) (pc' := 61) (ls' := [(2, Int.ofNat o0), (2, Int.ofNat r1), (0, v2), (0, (jor (jshl b2 8) b3))]) (st' := [(0, (jor (jshl b2 8) b3)), (0, b5)]) rfl ?_
      exact jEv.weak (a := [(2, Int.ofNat o0), (2, Int.ofNat r1), (0, v2), (3, 0)]) (jles.c1 (jles.c1 (jles.c1 (jles.c0 jles.nl)))) (t_G_isSeen_p61 (T := T) (xs := xs) (y := y) hd ho0 hr1 H HY)
  · refine jmapr H HY (fun out H (HY : ykIp T h y out) => ?_)
    refine jEv.blk [(.iconst 1, 1, [])] (by decide +kernel) (pc' := 73) (ls' := [(2, Int.ofNat o0), (2, Int.ofNat r1), (0, v2), (3, 0)]) (st' := [(0, 1)]) rfl ?_
    exact jEv.retZ (show jfI 173 73 (.ireturn) 1 [] = true by decide +kernel) (by decide +kernel) (by decide) (by cases H; exact HY)
theorem t_G_isSeen_L2 {T : jT} {xs : List Int} {d : Nat} {y : jV × jS} (hd : 1 ≤ d) {h : jH}  {o0 : Nat} {r1 : Nat} {n1 : Nat} {v2 : Int} {out : Int} (ho0 : isX11 T o0) (hr1 : T.1[r1]? = some (20, n1)) (H : G_isSeen_L2 h o0 r1 n1 v2 = some out) (HY : ykIp T h y out) : jEv xs d (173, 2, [(2, Int.ofNat o0), (2, Int.ofNat r1), (0, v2), (3, 0)], []) (T, h) y :=
  jloop_sound (G := fun s : Int => jEv xs d (173, 2, [(2, Int.ofNat o0), (2, Int.ofNat r1), (0, s), (3, 0)], []) (T, h) y) (K := yk_G_isSeen_L2 T xs d y h o0 r1 n1) (fun s out H HY => t_G_isSeen_B2 hd ho0 hr1 H HY) (fun s' hg => hg) (s := (v2)) H HY
set_option maxRecDepth 20000 in
noncomputable def G_isSeen  (h : jH) (o0 : Nat) (r1 : Nat) (n1 : Nat) : Option Int := G_isSeen_L2 h o0 r1 n1 0
set_option maxRecDepth 20000 in
theorem t_G_isSeen {T : jT} {xs : List Int} {h : jH}  {o0 : Nat} {r1 : Nat} {n1 : Nat} {out : Int} (ho0 : isX11 T o0) (hr1 : T.1[r1]? = some (20, n1)) (H : G_isSeen h o0 r1 n1 = some out) : jEm xs 2 173 [(2, Int.ofNat o0), (2, Int.ofNat r1)] (T, h) ((0, out), (T, h)) := by
  have hd : 1 ≤ 1 := Nat.le_refl _
  obtain ⟨y, ey⟩ : ∃ y : jV × jS, y = ((0, out), (T, h)) := ⟨_, rfl⟩
  rw [← ey]
  have HY : ykIp T h y out := ey
  refine jEm.ent (n := 4) (by decide +kernel) (Nat.le_of_ble_eq_true rfl) ?_
  show jEv xs 1 (173, 0, [(2, Int.ofNat o0), (2, Int.ofNat r1), (3, 0), (3, 0)], []) (T, h) y
  unfold G_isSeen at H
  refine jEv.blk [(.iconst 0, 1, []), (.istore_n 2, 1, [])] (by decide +kernel) (pc' := 2) (ls' := [(2, Int.ofNat o0), (2, Int.ofNat r1), (0, 0), (3, 0)]) (st' := []) rfl ?_
  exact t_G_isSeen_L2 (T := T) (xs := xs) (y := y) hd ho0 hr1 H HY
def yk_G_addArrival_L24 (T : jT) (xs : List Int) (d : Nat) (y : jV × jS)  (o0 : Nat) (r2 : Nat) (n2 : Nat) : ((Int × jH) ⊕ jH) → Prop
  | .inl (v3, h) => jEv xs d (174, 24, [(2, Int.ofNat o0), (3, 0), (2, Int.ofNat r2), (0, v3), (3, 0)], []) (T, h) y
  | .inr o => ykV T y o
set_option maxRecDepth 20000 in
noncomputable def G_addArrival_B24  (h : jH) (o0 : Nat) (r2 : Nat) (n2 : Nat) (v3 : Int) : Option ((Int × jH) ⊕ jH) := (if v3 < 16 then Option.bind (G_cell h r2 n2 v3) (fun b3 => Option.bind (G_cell h (o0 + 84) 16016 (wr ((wr ((wr (v3 * 1001)) + 1)) + b3))) (fun b4 => Option.bind (G_put h (o0 + 84) 16016 (wr ((wr ((wr (v3 * 1001)) + 1)) + b3)) (wr (b4 + 1))) (fun b5 => some (.inl ((wr (v3 + 1)), b5))))) else Option.map Sum.inr (some h))
noncomputable def G_addArrival_L24  (h : jH) (o0 : Nat) (r2 : Nat) (n2 : Nat) (v3 : Int) : Option jH := jloop (fun s : (Int × jH) => G_addArrival_B24 s.2 o0 r2 n2 s.1) (v3, h)
set_option maxRecDepth 20000 in
theorem t_G_addArrival_B24 {T : jT} {xs : List Int} {d : Nat} {y : jV × jS} (hd : 1 ≤ d) {h : jH}  {o0 : Nat} {r2 : Nat} {n2 : Nat} {v3 : Int} {out : ((Int × jH) ⊕ jH)} (ho0 : isX11 T o0) (hr2 : T.1[r2]? = some (20, n2)) (H : G_addArrival_B24 h o0 r2 n2 v3 = some out) (HY : yk_G_addArrival_L24 T xs d y o0 r2 n2 out) : jEv xs d (174, 24, [(2, Int.ofNat o0), (3, 0), (2, Int.ofNat r2), (0, v3), (3, 0)], []) (T, h) y := by
  unfold G_addArrival_B24 at H
  refine jEv.blk [(.iload_n 3, 1, []), (.bipush 16, 2, [])] (by decide +kernel) (pc' := 27) (ls' := [(2, Int.ofNat o0), (3, 0), (2, Int.ofNat r2), (0, v3), (3, 0)]) (st' := [(0, 16), (0, v3)]) rfl ?_
  refine jEv.ic_ge (t := 71) (show jfI 174 27 (.if_icmp .ge 44) 3 [] = true by decide +kernel) rfl H (fun c2 H => ?_) (fun c2 H => ?_)
  · refine jEv.blk [(.iload_n 3, 1, []), (.sipush 1001, 3, []), (.imul, 1, []), (.iconst 1, 1, []), (.iadd, 1, []), (.aload_n 2, 1, []), (.iload_n 3, 1, [])] (by decide +kernel) (pc' := 39) (ls' := [(2, Int.ofNat o0), (3, 0), (2, Int.ofNat r2), (0, v3), (3, 0)]) (st' := [(0, v3), (2, Int.ofNat r2), (0, (wr ((wr (v3 * 1001)) + 1)))]) rfl ?_
    refine jbind H (fun b3 Hb3 H => ?_)
    refine jEv.calS (st' := [(0, b3), (0, (wr ((wr (v3 * 1001)) + 1)))]) (show jfI 174 39 (.invokestatic 241) 3 [3, 137, 2, 3070] = true by decide +kernel) rfl (Or.inl rfl) rfl (Nat.le_of_ble_eq_true rfl) ((t_G_cell (T := T) (xs := xs) hr2 Hb3).mono (jKle 1 hd)) rfl ?_
    refine jEv.blk [(.iadd, 1, []), (.istore 4, 2, []), (.aload_n 0, 1, [])] (by decide +kernel) (pc' := 46) (ls' := [(2, Int.ofNat o0), (3, 0), (2, Int.ofNat r2), (0, v3), (0, (wr ((wr ((wr (v3 * 1001)) + 1)) + b3)))]) (st' := [(2, Int.ofNat o0)]) rfl ?_
    refine jEv.gfR (o' := (o0 + 84)) (show jfI 174 46 (.getfield 73) 3 [11, 19, 5, 0, 3020] = true by decide +kernel) (isX11_L ho0) (by decide) (isX11_r19 ho0) ?_
    refine jEv.blk [(.iload 4, 2, []), (.aload_n 0, 1, [])] (by decide +kernel) (pc' := 52) (ls' := [(2, Int.ofNat o0), (3, 0), (2, Int.ofNat r2), (0, v3), (0, (wr ((wr ((wr (v3 * 1001)) + 1)) + b3)))]) (st' := [(2, Int.ofNat o0), (0, (wr ((wr ((wr (v3 * 1001)) + 1)) + b3))), (2, Int.ofNat (o0 + 84))]) rfl ?_
    refine jEv.gfR (o' := (o0 + 84)) (show jfI 174 52 (.getfield 73) 3 [11, 19, 5, 0, 3020] = true by decide +kernel) (isX11_L ho0) (by decide) (isX11_r19 ho0) ?_
    refine jEv.blk [(.iload 4, 2, [])] (by decide +kernel) (pc' := 57) (ls' := [(2, Int.ofNat o0), (3, 0), (2, Int.ofNat r2), (0, v3), (0, (wr ((wr ((wr (v3 * 1001)) + 1)) + b3)))]) (st' := [(0, (wr ((wr ((wr (v3 * 1001)) + 1)) + b3))), (2, Int.ofNat (o0 + 84)), (0, (wr ((wr ((wr (v3 * 1001)) + 1)) + b3))), (2, Int.ofNat (o0 + 84))]) rfl ?_
    refine jbind H (fun b4 Hb4 H => ?_)
    refine jEv.calS (st' := [(0, b4), (0, (wr ((wr ((wr (v3 * 1001)) + 1)) + b3))), (2, Int.ofNat (o0 + 84))]) (show jfI 174 57 (.invokestatic 241) 3 [3, 137, 2, 3070] = true by decide +kernel) rfl (Or.inl rfl) rfl (Nat.le_of_ble_eq_true rfl) ((t_G_cell (T := T) (xs := xs) (isX11_a19 ho0) Hb4).mono (jKle 1 hd)) rfl ?_
    refine jEv.blk [(.iconst 1, 1, []), (.iadd, 1, [])] (by decide +kernel) (pc' := 62) (ls' := [(2, Int.ofNat o0), (3, 0), (2, Int.ofNat r2), (0, v3), (0, (wr ((wr ((wr (v3 * 1001)) + 1)) + b3)))]) (st' := [(0, (wr (b4 + 1))), (0, (wr ((wr ((wr (v3 * 1001)) + 1)) + b3))), (2, Int.ofNat (o0 + 84))]) rfl ?_
    refine jbind H (fun b5 Hb5 H => ?_)
    refine jEv.calS (st' := []) (show jfI 174 62 (.invokestatic 415) 3 [3, 138, 3, 3073] = true by decide +kernel) rfl (Or.inl rfl) rfl (Nat.le_of_ble_eq_true rfl) ((t_G_put (T := T) (xs := xs) (isX11_a19 ho0) Hb5).mono (jKle 1 hd)) rfl ?_
    refine jEv.blk [(.iinc 3 1, 3, [])] (by decide +kernel) (pc' := 68) (ls' := [(2, Int.ofNat o0), (3, 0), (2, Int.ofNat r2), (0, (wr (v3 + 1))), (0, (wr ((wr ((wr (v3 * 1001)) + 1)) + b3)))]) (st' := []) rfl ?_
    refine jEv.goto (t := 24) (show jfI 174 68 (.goto (-44)) 3 [] = true by decide +kernel) rfl ?_
    exact jEv.weak (a := [(2, Int.ofNat o0), (3, 0), (2, Int.ofNat r2), (0, (wr (v3 + 1))), (3, 0)]) (jles.c1 (jles.c0 (jles.c1 (jles.c1 (jles.c0 jles.nl))))) ((by cases H; exact HY))
  · refine jmapr H HY (fun out H (HY : ykV T y out) => ?_)
    exact jEv.retV (show jfI 174 71 (.return_) 1 [] = true by decide +kernel) (by decide +kernel) (by cases H; exact HY)
theorem t_G_addArrival_L24 {T : jT} {xs : List Int} {d : Nat} {y : jV × jS} (hd : 1 ≤ d) {h : jH}  {o0 : Nat} {r2 : Nat} {n2 : Nat} {v3 : Int} {out : jH} (ho0 : isX11 T o0) (hr2 : T.1[r2]? = some (20, n2)) (H : G_addArrival_L24 h o0 r2 n2 v3 = some out) (HY : ykV T y out) : jEv xs d (174, 24, [(2, Int.ofNat o0), (3, 0), (2, Int.ofNat r2), (0, v3), (3, 0)], []) (T, h) y :=
  jloop_sound (G := fun s : (Int × jH) => jEv xs d (174, 24, [(2, Int.ofNat o0), (3, 0), (2, Int.ofNat r2), (0, s.1), (3, 0)], []) (T, s.2) y) (K := yk_G_addArrival_L24 T xs d y o0 r2 n2) (fun s out H HY => t_G_addArrival_B24 hd ho0 hr2 H HY) (fun s' hg => hg) (s := (v3, h)) H HY
set_option maxRecDepth 20000 in
noncomputable def G_addArrival  (h : jH) (o0 : Nat) (v1 : Int) (r2 : Nat) (n2 : Nat) : Option jH := Option.bind (G_put h (o0 + 83) 513 (h o0 18) v1) (fun b1 => G_addArrival_L24 (jup b1 o0 18 (wr ((b1 o0 18) + 1))) o0 r2 n2 0)
set_option maxRecDepth 20000 in
theorem t_G_addArrival {T : jT} {xs : List Int} {h : jH}  {o0 : Nat} {v1 : Int} {r2 : Nat} {n2 : Nat} {out : jH} (ho0 : isX11 T o0) (hr2 : T.1[r2]? = some (20, n2)) (H : G_addArrival h o0 v1 r2 n2 = some out) : jEm xs 2 174 [(2, Int.ofNat o0), (0, v1), (2, Int.ofNat r2)] (T, h) ((3, 0), (T, out)) := by
  have hd : 1 ≤ 1 := Nat.le_refl _
  obtain ⟨y, ey⟩ : ∃ y : jV × jS, y = ((3, 0), (T, out)) := ⟨_, rfl⟩
  rw [← ey]
  have HY : ykV T y out := ey
  refine jEm.ent (n := 5) (by decide +kernel) (Nat.le_of_ble_eq_true rfl) ?_
  show jEv xs 1 (174, 0, [(2, Int.ofNat o0), (0, v1), (2, Int.ofNat r2), (3, 0), (3, 0)], []) (T, h) y
  unfold G_addArrival at H
  refine jEv.blk [(.aload_n 0, 1, [])] (by decide +kernel) (pc' := 1) (ls' := [(2, Int.ofNat o0), (0, v1), (2, Int.ofNat r2), (3, 0), (3, 0)]) (st' := [(2, Int.ofNat o0)]) rfl ?_
  refine jEv.gfR (o' := (o0 + 83)) (show jfI 174 1 (.getfield 70) 3 [11, 17, 5, 0, 3018] = true by decide +kernel) (isX11_L ho0) (by decide) (isX11_r17 ho0) ?_
  refine jEv.blk [(.aload_n 0, 1, [])] (by decide +kernel) (pc' := 5) (ls' := [(2, Int.ofNat o0), (0, v1), (2, Int.ofNat r2), (3, 0), (3, 0)]) (st' := [(2, Int.ofNat o0), (2, Int.ofNat (o0 + 83))]) rfl ?_
  refine jEv.gfI (show jfI 174 5 (.getfield 323) 3 [11, 18, 0, 0, 3019] = true by decide +kernel) (isX11_L ho0) (by decide) ?_
  refine jEv.blk [(.iload_n 1, 1, [])] (by decide +kernel) (pc' := 9) (ls' := [(2, Int.ofNat o0), (0, v1), (2, Int.ofNat r2), (3, 0), (3, 0)]) (st' := [(0, v1), (0, (h o0 18)), (2, Int.ofNat (o0 + 83))]) rfl ?_
  refine jbind H (fun b1 Hb1 H => ?_)
  refine jEv.calS (st' := []) (show jfI 174 9 (.invokestatic 415) 3 [3, 138, 3, 3073] = true by decide +kernel) rfl (Or.inl rfl) rfl (Nat.le_of_ble_eq_true rfl) ((t_G_put (T := T) (xs := xs) (isX11_a17 ho0) Hb1).mono (jKle 1 hd)) rfl ?_
  refine jEv.blk [(.aload_n 0, 1, []), (.dup, 1, [])] (by decide +kernel) (pc' := 14) (ls' := [(2, Int.ofNat o0), (0, v1), (2, Int.ofNat r2), (3, 0), (3, 0)]) (st' := [(2, Int.ofNat o0), (2, Int.ofNat o0)]) rfl ?_
  refine jEv.gfI (show jfI 174 14 (.getfield 323) 3 [11, 18, 0, 0, 3019] = true by decide +kernel) (isX11_L ho0) (by decide) ?_
  refine jEv.blk [(.iconst 1, 1, []), (.iadd, 1, [])] (by decide +kernel) (pc' := 19) (ls' := [(2, Int.ofNat o0), (0, v1), (2, Int.ofNat r2), (3, 0), (3, 0)]) (st' := [(0, (wr ((b1 o0 18) + 1))), (2, Int.ofNat o0)]) rfl ?_
  refine jEv.pfI (show jfI 174 19 (.putfield 323) 3 [11, 18, 0, 0, 3019] = true by decide +kernel) (isX11_L ho0) (by decide) ?_
  refine jEv.blk [(.iconst 0, 1, []), (.istore_n 3, 1, [])] (by decide +kernel) (pc' := 24) (ls' := [(2, Int.ofNat o0), (0, v1), (2, Int.ofNat r2), (0, 0), (3, 0)]) (st' := []) rfl ?_
  exact jEv.weak (a := [(2, Int.ofNat o0), (3, 0), (2, Int.ofNat r2), (0, 0), (3, 0)]) (jles.c1 (jles.c0 (jles.c1 (jles.c1 (jles.c0 jles.nl))))) (t_G_addArrival_L24 (T := T) (xs := xs) (y := y) hd ho0 hr2 H HY)
def yk_G_gatherArrived_L34 (T : jT) (xs : List Int) (d : Nat) (y : jV × jS)  (o0 : Nat) (o1 : Nat) : ((Int × jH) ⊕ jH) → Prop
  | .inl (v2, h) => jEv xs d (172, 34, [(2, Int.ofNat o0), (2, Int.ofNat o1), (0, v2)], []) (T, h) y
  | .inr o => ykV T y o
set_option maxRecDepth 20000 in
noncomputable def G_gatherArrived_p67  (h : jH) (o0 : Nat) (o1 : Nat) (v2 : Int) : Option ((Int × jH) ⊕ jH) := Option.bind (Re_read h (o0 + 79) o1 (h (o0 + 35) 7) (o0 + 54) 16) (fun b5 => Option.bind (G_isSeen b5 o0 (o0 + 81) 16) (fun b6 => (if b6 = 0 then some (.inl ((wr (v2 + 1)), b5)) else Option.bind (G_addArrival b5 o0 v2 (o0 + 81) 16) (fun b8 => some (.inl ((wr (v2 + 1)), b8))))))
set_option maxRecDepth 20000 in
theorem t_G_gatherArrived_p67 {T : jT} {xs : List Int} {d : Nat} {y : jV × jS} (hd : 5 ≤ d) {h : jH}  {o0 : Nat} {o1 : Nat} {v2 : Int} {out : ((Int × jH) ⊕ jH)} (ho0 : isX11 T o0) (ho1 : isX0 T o1) (H : G_gatherArrived_p67 h o0 o1 v2 = some out) (HY : yk_G_gatherArrived_L34 T xs d y o0 o1 out) : jEv xs d (172, 67, [(2, Int.ofNat o0), (2, Int.ofNat o1), (0, v2)], []) (T, h) y := by
  unfold G_gatherArrived_p67 at H
  refine jEv.blk [(.aload_n 0, 1, [])] (by decide +kernel) (pc' := 68) (ls' := [(2, Int.ofNat o0), (2, Int.ofNat o1), (0, v2)]) (st' := [(2, Int.ofNat o0)]) rfl ?_
  refine jEv.gfR (o' := (o0 + 79)) (show jfI 172 68 (.getfield 66) 3 [11, 16, 5, 0, 3017] = true by decide +kernel) (isX11_L ho0) (by decide) (isX11_r16 ho0) ?_
  refine jEv.blk [(.aload_n 1, 1, []), (.aload_n 0, 1, [])] (by decide +kernel) (pc' := 73) (ls' := [(2, Int.ofNat o0), (2, Int.ofNat o1), (0, v2)]) (st' := [(2, Int.ofNat o0), (2, Int.ofNat o1), (2, Int.ofNat (o0 + 79))]) rfl ?_
  refine jEv.gfR (o' := (o0 + 35)) (show jfI 172 73 (.getfield 45) 3 [11, 10, 5, 0, 3011] = true by decide +kernel) (isX11_L ho0) (by decide) (isX11_r10 ho0) ?_
  refine jEv.gfI (show jfI 172 76 (.getfield 157) 3 [9, 7, 0, 0, 2081] = true by decide +kernel) (isX9_L (isX11_s10 ho0)) (by decide) ?_
  refine jEv.blk [(.aload_n 0, 1, [])] (by decide +kernel) (pc' := 80) (ls' := [(2, Int.ofNat o0), (2, Int.ofNat o1), (0, v2)]) (st' := [(2, Int.ofNat o0), (0, (h (o0 + 35) 7)), (2, Int.ofNat o1), (2, Int.ofNat (o0 + 79))]) rfl ?_
  refine jEv.gfR (o' := (o0 + 35)) (show jfI 172 80 (.getfield 45) 3 [11, 10, 5, 0, 3011] = true by decide +kernel) (isX11_L ho0) (by decide) (isX11_r10 ho0) ?_
  refine jEv.gfR (o' := (o0 + 54)) (show jfI 172 83 (.getfield 289) 3 [9, 6, 5, 0, 2079] = true by decide +kernel) (isX9_L (isX11_s10 ho0)) (by decide) (isX9_r6 (isX11_s10 ho0)) ?_
  refine jbind H (fun b5 Hb5 H => ?_)
  refine jEv.calV (st' := []) (show jfI 172 86 (.invokevirtual 292) 3 [1, 102, 3, 6018] = true by decide +kernel) rfl (Or.inl rfl) rfl (Nat.le_of_ble_eq_true rfl) (by decide +kernel) (by decide) (isX8_L (isX11_s16 ho0)) ((t_Re_read (T := T) (xs := xs) (isX11_s16 ho0) ho1 (isX9_a6 (isX11_s10 ho0)) Hb5).mono (jKle 5 hd)) rfl ?_
  refine jEv.blk [(.aload_n 0, 1, []), (.aload_n 0, 1, [])] (by decide +kernel) (pc' := 91) (ls' := [(2, Int.ofNat o0), (2, Int.ofNat o1), (0, v2)]) (st' := [(2, Int.ofNat o0), (2, Int.ofNat o0)]) rfl ?_
  refine jEv.gfR (o' := (o0 + 79)) (show jfI 172 91 (.getfield 66) 3 [11, 16, 5, 0, 3017] = true by decide +kernel) (isX11_L ho0) (by decide) (isX11_r16 ho0) ?_
  refine jEv.gfR (o' := (o0 + 81)) (show jfI 172 94 (.getfield 468) 3 [8, 1, 5, 0, 2207] = true by decide +kernel) (isX8_L (isX11_s16 ho0)) (by decide) (isX8_r1 (isX11_s16 ho0)) ?_
  refine jbind H (fun b6 Hb6 H => ?_)
  refine jEv.calV (st' := [(0, b6)]) (show jfI 172 97 (.invokevirtual 469) 3 [1, 173, 1, 6095] = true by decide +kernel) rfl (Or.inl rfl) rfl (Nat.le_of_ble_eq_true rfl) (by decide +kernel) (by decide) (isX11_L ho0) ((t_G_isSeen (T := T) (xs := xs) ho0 (isX8_a1 (isX11_s16 ho0)) Hb6).mono (jKle 2 hd)) rfl ?_
  refine jEv.if_eq (t := 115) (show jfI 172 100 (.ifCond .eq 15) 3 [] = true by decide +kernel) rfl H (fun c7 H => ?_) (fun c7 H => ?_)
  · refine jEv.blk [(.iinc 2 1, 3, [])] (by decide +kernel) (pc' := 118) (ls' := [(2, Int.ofNat o0), (2, Int.ofNat o1), (0, (wr (v2 + 1)))]) (st' := []) rfl ?_
    refine jEv.goto (t := 34) (show jfI 172 118 (.goto (-84)) 3 [] = true by decide +kernel) rfl ?_
    exact (by cases H; exact HY)
  · refine jEv.blk [(.aload_n 0, 1, []), (.iload_n 2, 1, []), (.aload_n 0, 1, [])] (by decide +kernel) (pc' := 106) (ls' := [(2, Int.ofNat o0), (2, Int.ofNat o1), (0, v2)]) (st' := [(2, Int.ofNat o0), (0, v2), (2, Int.ofNat o0)]) rfl ?_
    refine jEv.gfR (o' := (o0 + 79)) (show jfI 172 106 (.getfield 66) 3 [11, 16, 5, 0, 3017] = true by decide +kernel) (isX11_L ho0) (by decide) (isX11_r16 ho0) ?_
    refine jEv.gfR (o' := (o0 + 81)) (show jfI 172 109 (.getfield 468) 3 [8, 1, 5, 0, 2207] = true by decide +kernel) (isX8_L (isX11_s16 ho0)) (by decide) (isX8_r1 (isX11_s16 ho0)) ?_
    refine jbind H (fun b8 Hb8 H => ?_)
    refine jEv.calV (st' := []) (show jfI 172 112 (.invokevirtual 473) 3 [1, 174, 2, 6099] = true by decide +kernel) rfl (Or.inl rfl) rfl (Nat.le_of_ble_eq_true rfl) (by decide +kernel) (by decide) (isX11_L ho0) ((t_G_addArrival (T := T) (xs := xs) ho0 (isX8_a1 (isX11_s16 ho0)) Hb8).mono (jKle 2 hd)) rfl ?_
    refine jEv.blk [(.iinc 2 1, 3, [])] (by decide +kernel) (pc' := 118) (ls' := [(2, Int.ofNat o0), (2, Int.ofNat o1), (0, (wr (v2 + 1)))]) (st' := []) rfl ?_
    refine jEv.goto (t := 34) (show jfI 172 118 (.goto (-84)) 3 [] = true by decide +kernel) rfl ?_
    exact (by cases H; exact HY)
set_option maxRecDepth 20000 in
noncomputable def G_gatherArrived_B34  (h : jH) (o0 : Nat) (o1 : Nat) (v2 : Int) : Option ((Int × jH) ⊕ jH) := (if (h (o0 + 39) 2) < v2 then Option.map Sum.inr (some h) else (if 0 < v2 then Option.bind (Fl_arrive h (o0 + 39) o1 (wr (v2 - 1)) v2) (fun b4 => G_gatherArrived_p67 b4 o0 o1 v2) else G_gatherArrived_p67 h o0 o1 v2))
noncomputable def G_gatherArrived_L34  (h : jH) (o0 : Nat) (o1 : Nat) (v2 : Int) : Option jH := jloop (fun s : (Int × jH) => G_gatherArrived_B34 s.2 o0 o1 s.1) (v2, h)
set_option maxRecDepth 20000 in
theorem t_G_gatherArrived_B34 {T : jT} {xs : List Int} {d : Nat} {y : jV × jS} (hd : 5 ≤ d) {h : jH}  {o0 : Nat} {o1 : Nat} {v2 : Int} {out : ((Int × jH) ⊕ jH)} (ho0 : isX11 T o0) (ho1 : isX0 T o1) (H : G_gatherArrived_B34 h o0 o1 v2 = some out) (HY : yk_G_gatherArrived_L34 T xs d y o0 o1 out) : jEv xs d (172, 34, [(2, Int.ofNat o0), (2, Int.ofNat o1), (0, v2)], []) (T, h) y := by
  unfold G_gatherArrived_B34 at H
  refine jEv.blk [(.iload_n 2, 1, []), (.aload_n 0, 1, [])] (by decide +kernel) (pc' := 36) (ls' := [(2, Int.ofNat o0), (2, Int.ofNat o1), (0, v2)]) (st' := [(2, Int.ofNat o0), (0, v2)]) rfl ?_
  refine jEv.gfR (o' := (o0 + 35)) (show jfI 172 36 (.getfield 45) 3 [11, 10, 5, 0, 3011] = true by decide +kernel) (isX11_L ho0) (by decide) (isX11_r10 ho0) ?_
  refine jEv.gfR (o' := (o0 + 39)) (show jfI 172 39 (.getfield 145) 3 [9, 2, 5, 0, 2069] = true by decide +kernel) (isX9_L (isX11_s10 ho0)) (by decide) (isX9_r2 (isX11_s10 ho0)) ?_
  refine jEv.gfI (show jfI 172 42 (.getfield 149) 3 [1, 2, 0, 0, 1214] = true by decide +kernel) (isX1_L (isX9_s2 (isX11_s10 ho0))) (by decide) ?_
  refine jEv.ic_gt (t := 121) (show jfI 172 45 (.if_icmp .gt 76) 3 [] = true by decide +kernel) rfl H (fun c2 H => ?_) (fun c2 H => ?_)
  · refine jmapr H HY (fun out H (HY : ykV T y out) => ?_)
    exact jEv.retV (show jfI 172 121 (.return_) 1 [] = true by decide +kernel) (by decide +kernel) (by cases H; exact HY)
  · refine jEv.blk [(.iload_n 2, 1, [])] (by decide +kernel) (pc' := 49) (ls' := [(2, Int.ofNat o0), (2, Int.ofNat o1), (0, v2)]) (st' := [(0, v2)]) rfl ?_
    refine jEv.if_le (t := 67) (show jfI 172 49 (.ifCond .le 18) 3 [] = true by decide +kernel) rfl H (fun c3 H => ?_) (fun c3 H => ?_)
    · refine jEv.blk [(.aload_n 0, 1, [])] (by decide +kernel) (pc' := 53) (ls' := [(2, Int.ofNat o0), (2, Int.ofNat o1), (0, v2)]) (st' := [(2, Int.ofNat o0)]) rfl ?_
      refine jEv.gfR (o' := (o0 + 35)) (show jfI 172 53 (.getfield 45) 3 [11, 10, 5, 0, 3011] = true by decide +kernel) (isX11_L ho0) (by decide) (isX11_r10 ho0) ?_
      refine jEv.gfR (o' := (o0 + 39)) (show jfI 172 56 (.getfield 145) 3 [9, 2, 5, 0, 2069] = true by decide +kernel) (isX9_L (isX11_s10 ho0)) (by decide) (isX9_r2 (isX11_s10 ho0)) ?_
      refine jEv.blk [(.aload_n 1, 1, []), (.iload_n 2, 1, []), (.iconst 1, 1, []), (.isub, 1, []), (.iload_n 2, 1, [])] (by decide +kernel) (pc' := 64) (ls' := [(2, Int.ofNat o0), (2, Int.ofNat o1), (0, v2)]) (st' := [(0, v2), (0, (wr (v2 - 1))), (2, Int.ofNat o1), (2, Int.ofNat (o0 + 39))]) rfl ?_
      refine jbind H (fun b4 Hb4 H => ?_)
      refine jEv.calV (st' := []) (show jfI 172 64 (.invokevirtual 285) 3 [1, 24, 3, 6017] = true by decide +kernel) rfl (Or.inl rfl) rfl (Nat.le_of_ble_eq_true rfl) (by decide +kernel) (by decide) (isX1_L (isX9_s2 (isX11_s10 ho0))) ((t_Fl_arrive (T := T) (xs := xs) (isX9_s2 (isX11_s10 ho0)) ho1 Hb4).mono (jKle 3 hd)) rfl ?_
      exact t_G_gatherArrived_p67 (T := T) (xs := xs) (y := y) hd ho0 ho1 H HY
    · exact t_G_gatherArrived_p67 (T := T) (xs := xs) (y := y) hd ho0 ho1 H HY
theorem t_G_gatherArrived_L34 {T : jT} {xs : List Int} {d : Nat} {y : jV × jS} (hd : 5 ≤ d) {h : jH}  {o0 : Nat} {o1 : Nat} {v2 : Int} {out : jH} (ho0 : isX11 T o0) (ho1 : isX0 T o1) (H : G_gatherArrived_L34 h o0 o1 v2 = some out) (HY : ykV T y out) : jEv xs d (172, 34, [(2, Int.ofNat o0), (2, Int.ofNat o1), (0, v2)], []) (T, h) y :=
  jloop_sound (G := fun s : (Int × jH) => jEv xs d (172, 34, [(2, Int.ofNat o0), (2, Int.ofNat o1), (0, s.1)], []) (T, s.2) y) (K := yk_G_gatherArrived_L34 T xs d y o0 o1) (fun s out H HY => t_G_gatherArrived_B34 hd ho0 ho1 H HY) (fun s' hg => hg) (s := (v2, h)) H HY
set_option maxRecDepth 20000 in
noncomputable def G_gatherArrived  (h : jH) (o0 : Nat) : Option jH := Option.bind (Di_copyFrom h (o0 + 57) (o0 + 36)) (fun b1 => G_gatherArrived_L34 (jfill (jup b1 o0 18 0) (o0 + 84) 16016 0) o0 (o0 + 57) 0)
set_option maxRecDepth 20000 in
theorem t_G_gatherArrived {T : jT} {xs : List Int} {h : jH}  {o0 : Nat} {out : jH} (ho0 : isX11 T o0) (H : G_gatherArrived h o0 = some out) : jEm xs 6 172 [(2, Int.ofNat o0)] (T, h) ((3, 0), (T, out)) := by
  have hd : 5 ≤ 5 := Nat.le_refl _
  obtain ⟨y, ey⟩ : ∃ y : jV × jS, y = ((3, 0), (T, out)) := ⟨_, rfl⟩
  rw [← ey]
  have HY : ykV T y out := ey
  refine jEm.ent (n := 3) (by decide +kernel) (Nat.le_of_ble_eq_true rfl) ?_
  show jEv xs 5 (172, 0, [(2, Int.ofNat o0), (3, 0), (3, 0)], []) (T, h) y
  unfold G_gatherArrived at H
  refine jEv.blk [(.aload_n 0, 1, [])] (by decide +kernel) (pc' := 1) (ls' := [(2, Int.ofNat o0), (3, 0), (3, 0)]) (st' := [(2, Int.ofNat o0)]) rfl ?_
  refine jEv.gfR (o' := (o0 + 56)) (show jfI 172 1 (.getfield 49) 3 [11, 11, 5, 0, 3012] = true by decide +kernel) (isX11_L ho0) (by decide) (isX11_r11 ho0) ?_
  refine jEv.gfR (o' := (o0 + 57)) (show jfI 172 4 (.getfield 115) 3 [9, 1, 5, 0, 2067] = true by decide +kernel) (isX9_L (isX11_s11 ho0)) (by decide) (isX9_r1 (isX11_s11 ho0)) ?_
  refine jEv.blk [(.astore_n 1, 1, []), (.aload_n 1, 1, []), (.aload_n 0, 1, [])] (by decide +kernel) (pc' := 10) (ls' := [(2, Int.ofNat o0), (2, Int.ofNat (o0 + 57)), (3, 0)]) (st' := [(2, Int.ofNat o0), (2, Int.ofNat (o0 + 57))]) rfl ?_
  refine jEv.gfR (o' := (o0 + 35)) (show jfI 172 10 (.getfield 45) 3 [11, 10, 5, 0, 3011] = true by decide +kernel) (isX11_L ho0) (by decide) (isX11_r10 ho0) ?_
  refine jEv.gfR (o' := (o0 + 36)) (show jfI 172 13 (.getfield 115) 3 [9, 1, 5, 0, 2067] = true by decide +kernel) (isX9_L (isX11_s10 ho0)) (by decide) (isX9_r1 (isX11_s10 ho0)) ?_
  refine jbind H (fun b1 Hb1 H => ?_)
  refine jEv.calV (st' := []) (show jfI 172 16 (.invokevirtual 282) 3 [1, 15, 1, 6016] = true by decide +kernel) rfl (Or.inl rfl) rfl (Nat.le_of_ble_eq_true rfl) (by decide +kernel) (by decide) (isX0_L (isX9_s1 (isX11_s11 ho0))) ((t_Di_copyFrom (T := T) (xs := xs) (isX9_s1 (isX11_s11 ho0)) (isX9_s1 (isX11_s10 ho0)) Hb1).mono (jKle 3 hd)) rfl ?_
  refine jEv.blk [(.aload_n 0, 1, []), (.iconst 0, 1, [])] (by decide +kernel) (pc' := 21) (ls' := [(2, Int.ofNat o0), (2, Int.ofNat (o0 + 57)), (3, 0)]) (st' := [(0, 0), (2, Int.ofNat o0)]) rfl ?_
  refine jEv.pfI (show jfI 172 21 (.putfield 323) 3 [11, 18, 0, 0, 3019] = true by decide +kernel) (isX11_L ho0) (by decide) ?_
  refine jEv.blk [(.aload_n 0, 1, [])] (by decide +kernel) (pc' := 25) (ls' := [(2, Int.ofNat o0), (2, Int.ofNat (o0 + 57)), (3, 0)]) (st' := [(2, Int.ofNat o0)]) rfl ?_
  refine jEv.gfR (o' := (o0 + 84)) (show jfI 172 25 (.getfield 73) 3 [11, 19, 5, 0, 3020] = true by decide +kernel) (isX11_L ho0) (by decide) (isX11_r19 ho0) ?_
  refine jEv.blk [(.iconst 0, 1, [])] (by decide +kernel) (pc' := 29) (ls' := [(2, Int.ofNat o0), (2, Int.ofNat (o0 + 57)), (3, 0)]) (st' := [(0, 0), (2, Int.ofNat (o0 + 84))]) rfl ?_
  refine jEv.calS (st' := []) (show jfI 172 29 (.invokestatic 462) 3 [3, 359, 2, 6094] = true by decide +kernel) rfl (Or.inl rfl) rfl (Nat.le_of_ble_eq_true rfl) ((t_JArr_fill (xs := xs) (by decide) (isX11_a19 ho0)).mono (jKle 1 hd)) rfl ?_
  refine jEv.blk [(.iconst 0, 1, []), (.istore_n 2, 1, [])] (by decide +kernel) (pc' := 34) (ls' := [(2, Int.ofNat o0), (2, Int.ofNat (o0 + 57)), (0, 0)]) (st' := []) rfl ?_
  exact t_G_gatherArrived_L34 (T := T) (xs := xs) (y := y) hd ho0 (isX9_s1 (isX11_s11 ho0)) H HY
set_option maxRecDepth 20000 in
noncomputable def G_arrived (T : jT) (h : jH) (o0 : Nat) (v1 : Int) : Option (Int × jH) := Option.bind (G_isTold T h o0) (fun b1 => (if b1 = 0 then some ((-1), h) else (if v1 < (-1) then some ((-1), h) else Option.bind (G_gatherArrived h o0) (fun b4 => (if v1 = (-1) then some ((b4 o0 18), b4) else (if v1 < (b4 o0 18) then Option.bind (G_cell b4 (o0 + 83) 513 v1) (fun b7 => some (b7, b4)) else some ((-1), b4)))))))
set_option maxRecDepth 20000 in
theorem t_G_arrived {T : jT} {xs : List Int} {h : jH}  {o0 : Nat} {v1 : Int} {out : (Int × jH)} (ho0 : isX11 T o0) (H : G_arrived T h o0 v1 = some out) : jEm xs 7 171 [(2, Int.ofNat o0), (0, v1)] (T, h) ((0, out.1), (T, out.2)) := by
  have hd : 6 ≤ 6 := Nat.le_refl _
  obtain ⟨y, ey⟩ : ∃ y : jV × jS, y = ((0, out.1), (T, out.2)) := ⟨_, rfl⟩
  rw [← ey]
  have HY : ykI T y out := ey
  refine jEm.ent (n := 2) (by decide +kernel) (Nat.le_of_ble_eq_true rfl) ?_
  show jEv xs 6 (171, 0, [(2, Int.ofNat o0), (0, v1)], []) (T, h) y
  unfold G_arrived at H
  refine jEv.blk [(.aload_n 0, 1, [])] (by decide +kernel) (pc' := 1) (ls' := [(2, Int.ofNat o0), (0, v1)]) (st' := [(2, Int.ofNat o0)]) rfl ?_
  refine jbind H (fun b1 Hb1 H => ?_)
  refine jEv.calV (st' := [(0, b1)]) (show jfI 171 1 (.invokevirtual 228) 3 [1, 152, 0, 5004] = true by decide +kernel) rfl (Or.inl rfl) rfl (Nat.le_of_ble_eq_true rfl) (by decide +kernel) (by decide) (isX11_L ho0) ((t_G_isTold (T := T) (xs := xs) ho0 Hb1).mono (jKle 1 hd)) rfl ?_
  refine jEv.if_eq (t := 12) (show jfI 171 4 (.ifCond .eq 8) 3 [] = true by decide +kernel) rfl H (fun c2 H => ?_) (fun c2 H => ?_)
  · refine jEv.blk [(.iconst (-1), 1, [])] (by decide +kernel) (pc' := 13) (ls' := [(2, Int.ofNat o0), (0, v1)]) (st' := [(0, (-1))]) rfl ?_
    exact jEv.retI (show jfI 171 13 (.ireturn) 1 [] = true by decide +kernel) (by decide +kernel) (by cases H; exact HY)
  · refine jEv.blk [(.iload_n 1, 1, []), (.iconst (-1), 1, [])] (by decide +kernel) (pc' := 9) (ls' := [(2, Int.ofNat o0), (0, v1)]) (st' := [(0, (-1)), (0, v1)]) rfl ?_
    refine jEv.ic_ge (t := 14) (show jfI 171 9 (.if_icmp .ge 5) 3 [] = true by decide +kernel) rfl H (fun c3 H => ?_) (fun c3 H => ?_)
    · refine jEv.blk [(.iconst (-1), 1, [])] (by decide +kernel) (pc' := 13) (ls' := [(2, Int.ofNat o0), (0, v1)]) (st' := [(0, (-1))]) rfl ?_
      exact jEv.retI (show jfI 171 13 (.ireturn) 1 [] = true by decide +kernel) (by decide +kernel) (by cases H; exact HY)
    · refine jEv.blk [(.aload_n 0, 1, [])] (by decide +kernel) (pc' := 15) (ls' := [(2, Int.ofNat o0), (0, v1)]) (st' := [(2, Int.ofNat o0)]) rfl ?_
      refine jbind H (fun b4 Hb4 H => ?_)
      refine jEv.calV (st' := []) (show jfI 171 15 (.invokevirtual 320) 3 [1, 172, 0, 6090] = true by decide +kernel) rfl (Or.inl rfl) rfl (Nat.le_of_ble_eq_true rfl) (by decide +kernel) (by decide) (isX11_L ho0) ((t_G_gatherArrived (T := T) (xs := xs) ho0 Hb4).mono (jKle 6 hd)) rfl ?_
      refine jEv.blk [(.iload_n 1, 1, []), (.iconst (-1), 1, [])] (by decide +kernel) (pc' := 20) (ls' := [(2, Int.ofNat o0), (0, v1)]) (st' := [(0, (-1)), (0, v1)]) rfl ?_
      refine jEv.ic_ne (t := 28) (show jfI 171 20 (.if_icmp .ne 8) 3 [] = true by decide +kernel) rfl H (fun c5 H => ?_) (fun c5 H => ?_)
      · refine jEv.blk [(.aload_n 0, 1, [])] (by decide +kernel) (pc' := 24) (ls' := [(2, Int.ofNat o0), (0, v1)]) (st' := [(2, Int.ofNat o0)]) rfl ?_
        refine jEv.gfI (show jfI 171 24 (.getfield 323) 3 [11, 18, 0, 0, 3019] = true by decide +kernel) (isX11_L ho0) (by decide) ?_
        exact jEv.retI (show jfI 171 27 (.ireturn) 1 [] = true by decide +kernel) (by decide +kernel) (by cases H; exact HY)
      · refine jEv.blk [(.iload_n 1, 1, []), (.aload_n 0, 1, [])] (by decide +kernel) (pc' := 30) (ls' := [(2, Int.ofNat o0), (0, v1)]) (st' := [(2, Int.ofNat o0), (0, v1)]) rfl ?_
        refine jEv.gfI (show jfI 171 30 (.getfield 323) 3 [11, 18, 0, 0, 3019] = true by decide +kernel) (isX11_L ho0) (by decide) ?_
        refine jEv.ic_ge (t := 47) (show jfI 171 33 (.if_icmp .ge 14) 3 [] = true by decide +kernel) rfl H (fun c6 H => ?_) (fun c6 H => ?_)
        · refine jEv.blk [(.aload_n 0, 1, [])] (by decide +kernel) (pc' := 37) (ls' := [(2, Int.ofNat o0), (0, v1)]) (st' := [(2, Int.ofNat o0)]) rfl ?_
          refine jEv.gfR (o' := (o0 + 83)) (show jfI 171 37 (.getfield 70) 3 [11, 17, 5, 0, 3018] = true by decide +kernel) (isX11_L ho0) (by decide) (isX11_r17 ho0) ?_
          refine jEv.blk [(.iload_n 1, 1, [])] (by decide +kernel) (pc' := 41) (ls' := [(2, Int.ofNat o0), (0, v1)]) (st' := [(0, v1), (2, Int.ofNat (o0 + 83))]) rfl ?_
          refine jbind H (fun b7 Hb7 H => ?_)
          refine jEv.calS (st' := [(0, b7)]) (show jfI 171 41 (.invokestatic 241) 3 [3, 137, 2, 3070] = true by decide +kernel) rfl (Or.inl rfl) rfl (Nat.le_of_ble_eq_true rfl) ((t_G_cell (T := T) (xs := xs) (isX11_a17 ho0) Hb7).mono (jKle 1 hd)) rfl ?_
          refine jEv.goto (t := 48) (show jfI 171 44 (.goto 4) 3 [] = true by decide +kernel) rfl ?_
          exact jEv.retI (show jfI 171 48 (.ireturn) 1 [] = true by decide +kernel) (by decide +kernel) (by cases H; exact HY)
        · refine jEv.blk [(.iconst (-1), 1, [])] (by decide +kernel) (pc' := 48) (ls' := [(2, Int.ofNat o0), (0, v1)]) (st' := [(0, (-1))]) rfl ?_
          exact jEv.retI (show jfI 171 48 (.ireturn) 1 [] = true by decide +kernel) (by decide +kernel) (by cases H; exact HY)
def yk_G_mostLeft_L4 (T : jT) (xs : List Int) (d : Nat) (y : jV × jS) (h : jH)  (o0 : Nat) (v1 : Int) : ((Int × Int) ⊕ Int) → Prop
  | .inl (v2, v3) => jEv xs d (176, 4, [(2, Int.ofNat o0), (0, v1), (0, v2), (0, v3)], []) (T, h) y
  | .inr o => ykIp T h y o
set_option maxRecDepth 20000 in
noncomputable def G_mostLeft_B4  (h : jH) (o0 : Nat) (v1 : Int) (v2 : Int) (v3 : Int) : Option ((Int × Int) ⊕ Int) := (if 1000 < v3 then Option.map Sum.inr (some v2) else Option.bind (G_cell h (o0 + 84) 16016 (wr ((wr (v1 * 1001)) + v3))) (fun b2 => some (.inl ((max v2 b2), (wr (v3 + 1))))))
noncomputable def G_mostLeft_L4  (h : jH) (o0 : Nat) (v1 : Int) (v2 : Int) (v3 : Int) : Option Int := jloop (fun s : (Int × Int) => G_mostLeft_B4 h o0 v1 s.1 s.2) (v2, v3)
set_option maxRecDepth 20000 in
theorem t_G_mostLeft_B4 {T : jT} {xs : List Int} {d : Nat} {y : jV × jS} (hd : 1 ≤ d) {h : jH}  {o0 : Nat} {v1 : Int} {v2 : Int} {v3 : Int} {out : ((Int × Int) ⊕ Int)} (ho0 : isX11 T o0) (H : G_mostLeft_B4 h o0 v1 v2 v3 = some out) (HY : yk_G_mostLeft_L4 T xs d y h o0 v1 out) : jEv xs d (176, 4, [(2, Int.ofNat o0), (0, v1), (0, v2), (0, v3)], []) (T, h) y := by
  unfold G_mostLeft_B4 at H
  refine jEv.blk [(.iload_n 3, 1, []), (.sipush 1000, 3, [])] (by decide +kernel) (pc' := 8) (ls' := [(2, Int.ofNat o0), (0, v1), (0, v2), (0, v3)]) (st' := [(0, 1000), (0, v3)]) rfl ?_
  refine jEv.ic_gt (t := 36) (show jfI 176 8 (.if_icmp .gt 28) 3 [] = true by decide +kernel) rfl H (fun c1 H => ?_) (fun c1 H => ?_)
  · refine jmapr H HY (fun out H (HY : ykIp T h y out) => ?_)
    refine jEv.blk [(.iload_n 2, 1, [])] (by decide +kernel) (pc' := 37) (ls' := [(2, Int.ofNat o0), (0, v1), (0, v2), (0, v3)]) (st' := [(0, v2)]) rfl ?_
    exact jEv.retI (show jfI 176 37 (.ireturn) 1 [] = true by decide +kernel) (by decide +kernel) (by cases H; exact HY)
  · refine jEv.blk [(.iload_n 2, 1, []), (.aload_n 0, 1, [])] (by decide +kernel) (pc' := 13) (ls' := [(2, Int.ofNat o0), (0, v1), (0, v2), (0, v3)]) (st' := [(2, Int.ofNat o0), (0, v2)]) rfl ?_
    refine jEv.gfR (o' := (o0 + 84)) (show jfI 176 13 (.getfield 73) 3 [11, 19, 5, 0, 3020] = true by decide +kernel) (isX11_L ho0) (by decide) (isX11_r19 ho0) ?_
    refine jEv.blk [(.iload_n 1, 1, []), (.sipush 1001, 3, []), (.imul, 1, []), (.iload_n 3, 1, []), (.iadd, 1, [])] (by decide +kernel) (pc' := 23) (ls' := [(2, Int.ofNat o0), (0, v1), (0, v2), (0, v3)]) (st' := [(0, (wr ((wr (v1 * 1001)) + v3))), (2, Int.ofNat (o0 + 84)), (0, v2)]) rfl ?_
    refine jbind H (fun b2 Hb2 H => ?_)
    refine jEv.calS (st' := [(0, b2), (0, v2)]) (show jfI 176 23 (.invokestatic 241) 3 [3, 137, 2, 3070] = true by decide +kernel) rfl (Or.inl rfl) rfl (Nat.le_of_ble_eq_true rfl) ((t_G_cell (T := T) (xs := xs) (isX11_a19 ho0) Hb2).mono (jKle 1 hd)) rfl ?_
    refine jEv.calS (st' := [(0, (max v2 b2))]) (show jfI 176 26 (.invokestatic 477) 3 [3, 371, 2, 6111] = true by decide +kernel) rfl (Or.inl rfl) rfl (Nat.le_of_ble_eq_true rfl) ((t_JMath_max_1 (T := T) (xs := xs)).mono (jKle 1 hd)) rfl ?_
    refine jEv.blk [(.istore_n 2, 1, []), (.iinc 3 1, 3, [])] (by decide +kernel) (pc' := 33) (ls' := [(2, Int.ofNat o0), (0, v1), (0, (max v2 b2)), (0, (wr (v3 + 1)))]) (st' := []) rfl ?_
    refine jEv.goto (t := 4) (show jfI 176 33 (.goto (-29)) 3 [] = true by decide +kernel) rfl ?_
    exact (by cases H; exact HY)
theorem t_G_mostLeft_L4 {T : jT} {xs : List Int} {d : Nat} {y : jV × jS} (hd : 1 ≤ d) {h : jH}  {o0 : Nat} {v1 : Int} {v2 : Int} {v3 : Int} {out : Int} (ho0 : isX11 T o0) (H : G_mostLeft_L4 h o0 v1 v2 v3 = some out) (HY : ykIp T h y out) : jEv xs d (176, 4, [(2, Int.ofNat o0), (0, v1), (0, v2), (0, v3)], []) (T, h) y :=
  jloop_sound (G := fun s : (Int × Int) => jEv xs d (176, 4, [(2, Int.ofNat o0), (0, v1), (0, s.1), (0, s.2)], []) (T, h) y) (K := yk_G_mostLeft_L4 T xs d y h o0 v1) (fun s out H HY => t_G_mostLeft_B4 hd ho0 H HY) (fun s' hg => hg) (s := (v2, v3)) H HY
set_option maxRecDepth 20000 in
noncomputable def G_mostLeft  (h : jH) (o0 : Nat) (v1 : Int) : Option Int := G_mostLeft_L4 h o0 v1 0 0
set_option maxRecDepth 20000 in
theorem t_G_mostLeft {T : jT} {xs : List Int} {h : jH}  {o0 : Nat} {v1 : Int} {out : Int} (ho0 : isX11 T o0) (H : G_mostLeft h o0 v1 = some out) : jEm xs 2 176 [(2, Int.ofNat o0), (0, v1)] (T, h) ((0, out), (T, h)) := by
  have hd : 1 ≤ 1 := Nat.le_refl _
  obtain ⟨y, ey⟩ : ∃ y : jV × jS, y = ((0, out), (T, h)) := ⟨_, rfl⟩
  rw [← ey]
  have HY : ykIp T h y out := ey
  refine jEm.ent (n := 4) (by decide +kernel) (Nat.le_of_ble_eq_true rfl) ?_
  show jEv xs 1 (176, 0, [(2, Int.ofNat o0), (0, v1), (3, 0), (3, 0)], []) (T, h) y
  unfold G_mostLeft at H
  refine jEv.blk [(.iconst 0, 1, []), (.istore_n 2, 1, []), (.iconst 0, 1, []), (.istore_n 3, 1, [])] (by decide +kernel) (pc' := 4) (ls' := [(2, Int.ofNat o0), (0, v1), (0, 0), (0, 0)]) (st' := []) rfl ?_
  exact t_G_mostLeft_L4 (T := T) (xs := xs) (y := y) hd ho0 H HY
def yk_G_tells_L20 (T : jT) (xs : List Int) (d : Nat) (y : jV × jS) (h : jH)  (o0 : Nat) (v1 : Int) : ((Int × Int × Int) ⊕ (Int × jH)) → Prop
  | .inl (v2, v3, v4) => jEv xs d (175, 20, [(2, Int.ofNat o0), (0, v1), (0, v2), (0, v3), (0, v4), (3, 0)], []) (T, h) y
  | .inr o => ykI T y o
set_option maxRecDepth 20000 in
noncomputable def G_tells_p53 (T : jT) (h : jH) (o0 : Nat) (v1 : Int) (v4 : Int) (v5 : Int) : Option ((Int × Int × Int) ⊕ (Int × jH)) := some (.inl (v4, v5, (wr (v4 + 1))))
set_option maxRecDepth 20000 in
theorem t_G_tells_p53 {T : jT} {xs : List Int} {d : Nat} {y : jV × jS} (hd : 6 ≤ d) {h : jH}  {o0 : Nat} {v1 : Int} {v4 : Int} {v5 : Int} {out : ((Int × Int × Int) ⊕ (Int × jH))} (ho0 : isX11 T o0) (H : G_tells_p53 T h o0 v1 v4 v5 = some out) (HY : yk_G_tells_L20 T xs d y h o0 v1 out) : jEv xs d (175, 53, [(2, Int.ofNat o0), (0, v1), (3, 0), (3, 0), (0, v4), (0, v5)], []) (T, h) y := by
  unfold G_tells_p53 at H
  refine jEv.blk [(.iload 4, 2, []), (.istore_n 2, 1, []), (.iload 5, 2, []), (.istore_n 3, 1, [])] (by decide +kernel) (pc' := 59) (ls' := [(2, Int.ofNat o0), (0, v1), (0, v4), (0, v5), (0, v4), (0, v5)]) (st' := []) rfl ?_
  refine jEv.blk [(.iinc 4 1, 3, [])] (by decide +kernel) (pc' := 62) (ls' := [(2, Int.ofNat o0), (0, v1), (0, v4), (0, v5), (0, (wr (v4 + 1))), (0, v5)]) (st' := []) rfl ?_
  refine jEv.goto (t := 20) (show jfI 175 62 (.goto (-42)) 3 [] = true by decide +kernel) rfl ?_
  exact jEv.weak (a := [(2, Int.ofNat o0), (0, v1), (0, v4), (0, v5), (0, (wr (v4 + 1))), (3, 0)]) (jles.c1 (jles.c1 (jles.c1 (jles.c1 (jles.c1 (jles.c0 jles.nl)))))) ((by cases H; exact HY))
set_option maxRecDepth 20000 in
noncomputable def G_tells_p65 (T : jT) (h : jH) (v1 : Int) (v2 : Int) (v3 : Int) : Option (Int × jH) := (if v1 = 0 then some (v2, h) else (if v1 = 1 then some (v3, h) else some ((-1), h)))
set_option maxRecDepth 20000 in
theorem t_G_tells_p65 {T : jT} {xs : List Int} {d : Nat} {y : jV × jS} (hd : 6 ≤ d) {h : jH}  {v1 : Int} {v2 : Int} {v3 : Int} {out : (Int × jH)}  (H : G_tells_p65 T h v1 v2 v3 = some out) (HY : ykI T y out) : jEv xs d (175, 65, [(3, 0), (0, v1), (0, v2), (0, v3), (3, 0), (3, 0)], []) (T, h) y := by
  unfold G_tells_p65 at H
  refine jEv.blk [(.iload_n 1, 1, [])] (by decide +kernel) (pc' := 66) (ls' := [(3, 0), (0, v1), (0, v2), (0, v3), (3, 0), (3, 0)]) (st' := [(0, v1)]) rfl ?_
  refine jEv.if_ne (t := 73) (show jfI 175 66 (.ifCond .ne 7) 3 [] = true by decide +kernel) rfl H (fun c9 H => ?_) (fun c9 H => ?_)
  · refine jEv.blk [(.iload_n 2, 1, [])] (by decide +kernel) (pc' := 70) (ls' := [(3, 0), (0, v1), (0, v2), (0, v3), (3, 0), (3, 0)]) (st' := [(0, v2)]) rfl ?_
    refine jEv.goto (t := 83) (show jfI 175 70 (.goto 13) 3 [] = true by decide +kernel) rfl ?_
    exact jEv.retI (show jfI 175 83 (.ireturn) 1 [] = true by decide +kernel) (by decide +kernel) (by cases H; exact HY)
  · refine jEv.blk [(.iload_n 1, 1, []), (.iconst 1, 1, [])] (by decide +kernel) (pc' := 75) (ls' := [(3, 0), (0, v1), (0, v2), (0, v3), (3, 0), (3, 0)]) (st' := [(0, 1), (0, v1)]) rfl ?_
    refine jEv.ic_ne (t := 82) (show jfI 175 75 (.if_icmp .ne 7) 3 [] = true by decide +kernel) rfl H (fun c10 H => ?_) (fun c10 H => ?_)
    · refine jEv.blk [(.iload_n 3, 1, [])] (by decide +kernel) (pc' := 79) (ls' := [(3, 0), (0, v1), (0, v2), (0, v3), (3, 0), (3, 0)]) (st' := [(0, v3)]) rfl ?_
      refine jEv.goto (t := 83) (show jfI 175 79 (.goto 4) 3 [] = true by decide +kernel) rfl ?_
      exact jEv.retI (show jfI 175 83 (.ireturn) 1 [] = true by decide +kernel) (by decide +kernel) (by cases H; exact HY)
    · refine jEv.blk [(.iconst (-1), 1, [])] (by decide +kernel) (pc' := 83) (ls' := [(3, 0), (0, v1), (0, v2), (0, v3), (3, 0), (3, 0)]) (st' := [(0, (-1))]) rfl ?_
      exact jEv.retI (show jfI 175 83 (.ireturn) 1 [] = true by decide +kernel) (by decide +kernel) (by cases H; exact HY)
set_option maxRecDepth 20000 in
noncomputable def G_tells_B20 (T : jT) (h : jH) (o0 : Nat) (v1 : Int) (v2 : Int) (v3 : Int) (v4 : Int) : Option ((Int × Int × Int) ⊕ (Int × jH)) := (if v4 < 16 then (if 0 < (h o0 18) then Option.bind (G_mostLeft h o0 v4) (fun b6 => (if v2 = (-1) then G_tells_p53 T h o0 v1 v4 b6 else (if b6 < v3 then G_tells_p53 T h o0 v1 v4 b6 else some (.inl (v2, v3, (wr (v4 + 1))))))) else Option.map Sum.inr (G_tells_p65 T h v1 v2 v3)) else Option.map Sum.inr (G_tells_p65 T h v1 v2 v3))
noncomputable def G_tells_L20 (T : jT) (h : jH) (o0 : Nat) (v1 : Int) (v2 : Int) (v3 : Int) (v4 : Int) : Option (Int × jH) := jloop (fun s : (Int × Int × Int) => G_tells_B20 T h o0 v1 s.1 s.2.1 s.2.2) (v2, v3, v4)
set_option maxRecDepth 20000 in
theorem t_G_tells_B20 {T : jT} {xs : List Int} {d : Nat} {y : jV × jS} (hd : 6 ≤ d) {h : jH}  {o0 : Nat} {v1 : Int} {v2 : Int} {v3 : Int} {v4 : Int} {out : ((Int × Int × Int) ⊕ (Int × jH))} (ho0 : isX11 T o0) (H : G_tells_B20 T h o0 v1 v2 v3 v4 = some out) (HY : yk_G_tells_L20 T xs d y h o0 v1 out) : jEv xs d (175, 20, [(2, Int.ofNat o0), (0, v1), (0, v2), (0, v3), (0, v4), (3, 0)], []) (T, h) y := by
  unfold G_tells_B20 at H
  refine jEv.blk [(.iload 4, 2, []), (.bipush 16, 2, [])] (by decide +kernel) (pc' := 24) (ls' := [(2, Int.ofNat o0), (0, v1), (0, v2), (0, v3), (0, v4), (3, 0)]) (st' := [(0, 16), (0, v4)]) rfl ?_
  refine jEv.ic_ge (t := 65) (show jfI 175 24 (.if_icmp .ge 41) 3 [] = true by decide +kernel) rfl H (fun c4 H => ?_) (fun c4 H => ?_)
  · refine jEv.blk [(.aload_n 0, 1, [])] (by decide +kernel) (pc' := 28) (ls' := [(2, Int.ofNat o0), (0, v1), (0, v2), (0, v3), (0, v4), (3, 0)]) (st' := [(2, Int.ofNat o0)]) rfl ?_
    refine jEv.gfI (show jfI 175 28 (.getfield 323) 3 [11, 18, 0, 0, 3019] = true by decide +kernel) (isX11_L ho0) (by decide) ?_
    refine jEv.if_le (t := 65) (show jfI 175 31 (.ifCond .le 34) 3 [] = true by decide +kernel) rfl H (fun c5 H => ?_) (fun c5 H => ?_)
    · refine jEv.blk [(.aload_n 0, 1, []), (.iload 4, 2, [])] (by decide +kernel) (pc' := 37) (ls' := [(2, Int.ofNat o0), (0, v1), (0, v2), (0, v3), (0, v4), (3, 0)]) (st' := [(0, v4), (2, Int.ofNat o0)]) rfl ?_
      refine jbind H (fun b6 Hb6 H => ?_)
      refine jEv.calV (st' := [(0, b6)]) (show jfI 175 37 (.invokevirtual 326) 3 [1, 176, 1, 6107] = true by decide +kernel) rfl (Or.inl rfl) rfl (Nat.le_of_ble_eq_true rfl) (by decide +kernel) (by decide) (isX11_L ho0) ((t_G_mostLeft (T := T) (xs := xs) ho0 Hb6).mono (jKle 2 hd)) rfl ?_
      refine jEv.blk [(.istore 5, 2, []), (.iload_n 2, 1, []), (.iconst (-1), 1, [])] (by decide +kernel) (pc' := 44) (ls' := [(2, Int.ofNat o0), (0, v1), (0, v2), (0, v3), (0, v4), (0, b6)]) (st' := [(0, (-1)), (0, v2)]) rfl ?_
      refine jEv.ic_eq (t := 53) (show jfI 175 44 (.if_icmp .eq 9) 3 [] = true by decide +kernel) rfl H (fun c7 H => ?_) (fun c7 H => ?_)
      · exact jEv.weak (a := [(2, Int.ofNat o0), (0, v1), (3, 0), (3, 0), (0, v4), (0, b6)]) (jles.c1 (jles.c1 (jles.c0 (jles.c0 (jles.c1 (jles.c1 jles.nl)))))) (t_G_tells_p53 (T := T) (xs := xs) (y := y) hd ho0 H HY)
      · refine jEv.blk [(.iload 5, 2, []), (.iload_n 3, 1, [])] (by decide +kernel) (pc' := 50) (ls' := [(2, Int.ofNat o0), (0, v1), (0, v2), (0, v3), (0, v4), (0, b6)]) (st' := [(0, v3), (0, b6)]) rfl ?_
        refine jEv.ic_ge (t := 59) (show jfI 175 50 (.if_icmp .ge 9) 3 [] = true by decide +kernel) rfl H (fun c8 H => ?_) (fun c8 H => ?_)
        · exact jEv.weak (a := [(2, Int.ofNat o0), (0, v1), (3, 0), (3, 0), (0, v4), (0, b6)]) (jles.c1 (jles.c1 (jles.c0 (jles.c0 (jles.c1 (jles.c1 jles.nl)))))) (t_G_tells_p53 (T := T) (xs := xs) (y := y) hd ho0 H HY)
        · refine jEv.blk [(.iinc 4 1, 3, [])] (by decide +kernel) (pc' := 62) (ls' := [(2, Int.ofNat o0), (0, v1), (0, v2), (0, v3), (0, (wr (v4 + 1))), (0, b6)]) (st' := []) rfl ?_
          refine jEv.goto (t := 20) (show jfI 175 62 (.goto (-42)) 3 [] = true by decide +kernel) rfl ?_
          exact jEv.weak (a := [(2, Int.ofNat o0), (0, v1), (0, v2), (0, v3), (0, (wr (v4 + 1))), (3, 0)]) (jles.c1 (jles.c1 (jles.c1 (jles.c1 (jles.c1 (jles.c0 jles.nl)))))) ((by cases H; exact HY))
    · refine jmapr H HY (fun out H (HY : ykI T y out) => ?_)
      exact jEv.weak (a := [(3, 0), (0, v1), (0, v2), (0, v3), (3, 0), (3, 0)]) (jles.c0 (jles.c1 (jles.c1 (jles.c1 (jles.c0 (jles.c0 jles.nl)))))) (t_G_tells_p65 (T := T) (xs := xs) (y := y) hd H HY)
  · refine jmapr H HY (fun out H (HY : ykI T y out) => ?_)
    exact jEv.weak (a := [(3, 0), (0, v1), (0, v2), (0, v3), (3, 0), (3, 0)]) (jles.c0 (jles.c1 (jles.c1 (jles.c1 (jles.c0 (jles.c0 jles.nl)))))) (t_G_tells_p65 (T := T) (xs := xs) (y := y) hd H HY)
theorem t_G_tells_L20 {T : jT} {xs : List Int} {d : Nat} {y : jV × jS} (hd : 6 ≤ d) {h : jH}  {o0 : Nat} {v1 : Int} {v2 : Int} {v3 : Int} {v4 : Int} {out : (Int × jH)} (ho0 : isX11 T o0) (H : G_tells_L20 T h o0 v1 v2 v3 v4 = some out) (HY : ykI T y out) : jEv xs d (175, 20, [(2, Int.ofNat o0), (0, v1), (0, v2), (0, v3), (0, v4), (3, 0)], []) (T, h) y :=
  jloop_sound (G := fun s : (Int × Int × Int) => jEv xs d (175, 20, [(2, Int.ofNat o0), (0, v1), (0, s.1), (0, s.2.1), (0, s.2.2), (3, 0)], []) (T, h) y) (K := yk_G_tells_L20 T xs d y h o0 v1) (fun s out H HY => t_G_tells_B20 hd ho0 H HY) (fun s' hg => hg) (s := (v2, v3, v4)) H HY
set_option maxRecDepth 20000 in
noncomputable def G_tells (T : jT) (h : jH) (o0 : Nat) (v1 : Int) : Option (Int × jH) := Option.bind (G_isTold T h o0) (fun b1 => (if b1 = 0 then some ((-1), h) else Option.bind (G_gatherArrived h o0) (fun b3 => G_tells_L20 T b3 o0 v1 (-1) (-1) 0)))
set_option maxRecDepth 20000 in
theorem t_G_tells {T : jT} {xs : List Int} {h : jH}  {o0 : Nat} {v1 : Int} {out : (Int × jH)} (ho0 : isX11 T o0) (H : G_tells T h o0 v1 = some out) : jEm xs 7 175 [(2, Int.ofNat o0), (0, v1)] (T, h) ((0, out.1), (T, out.2)) := by
  have hd : 6 ≤ 6 := Nat.le_refl _
  obtain ⟨y, ey⟩ : ∃ y : jV × jS, y = ((0, out.1), (T, out.2)) := ⟨_, rfl⟩
  rw [← ey]
  have HY : ykI T y out := ey
  refine jEm.ent (n := 6) (by decide +kernel) (Nat.le_of_ble_eq_true rfl) ?_
  show jEv xs 6 (175, 0, [(2, Int.ofNat o0), (0, v1), (3, 0), (3, 0), (3, 0), (3, 0)], []) (T, h) y
  unfold G_tells at H
  refine jEv.blk [(.aload_n 0, 1, [])] (by decide +kernel) (pc' := 1) (ls' := [(2, Int.ofNat o0), (0, v1), (3, 0), (3, 0), (3, 0), (3, 0)]) (st' := [(2, Int.ofNat o0)]) rfl ?_
  refine jbind H (fun b1 Hb1 H => ?_)
  refine jEv.calV (st' := [(0, b1)]) (show jfI 175 1 (.invokevirtual 228) 3 [1, 152, 0, 5004] = true by decide +kernel) rfl (Or.inl rfl) rfl (Nat.le_of_ble_eq_true rfl) (by decide +kernel) (by decide) (isX11_L ho0) ((t_G_isTold (T := T) (xs := xs) ho0 Hb1).mono (jKle 1 hd)) rfl ?_
  refine jEv.if_ne (t := 9) (show jfI 175 4 (.ifCond .ne 5) 3 [] = true by decide +kernel) rfl H (fun c2 H => ?_) (fun c2 H => ?_)
  · refine jEv.blk [(.iconst (-1), 1, [])] (by decide +kernel) (pc' := 8) (ls' := [(2, Int.ofNat o0), (0, v1), (3, 0), (3, 0), (3, 0), (3, 0)]) (st' := [(0, (-1))]) rfl ?_
    exact jEv.retI (show jfI 175 8 (.ireturn) 1 [] = true by decide +kernel) (by decide +kernel) (by cases H; exact HY)
  · refine jEv.blk [(.aload_n 0, 1, [])] (by decide +kernel) (pc' := 10) (ls' := [(2, Int.ofNat o0), (0, v1), (3, 0), (3, 0), (3, 0), (3, 0)]) (st' := [(2, Int.ofNat o0)]) rfl ?_
    refine jbind H (fun b3 Hb3 H => ?_)
    refine jEv.calV (st' := []) (show jfI 175 10 (.invokevirtual 320) 3 [1, 172, 0, 6090] = true by decide +kernel) rfl (Or.inl rfl) rfl (Nat.le_of_ble_eq_true rfl) (by decide +kernel) (by decide) (isX11_L ho0) ((t_G_gatherArrived (T := T) (xs := xs) ho0 Hb3).mono (jKle 6 hd)) rfl ?_
    refine jEv.blk [(.iconst (-1), 1, []), (.istore_n 2, 1, []), (.iconst (-1), 1, []), (.istore_n 3, 1, []), (.iconst 0, 1, []), (.istore 4, 2, [])] (by decide +kernel) (pc' := 20) (ls' := [(2, Int.ofNat o0), (0, v1), (0, (-1)), (0, (-1)), (0, 0), (3, 0)]) (st' := []) rfl ?_
    exact t_G_tells_L20 (T := T) (xs := xs) (y := y) hd ho0 H HY
set_option maxRecDepth 20000 in
noncomputable def G_remember_p21 (T : jT) (h : jH) (o0 : Nat) : Option jH := some (jup (jup h o0 14 (Int.tmod (wr ((h o0 14) + 1)) 20)) o0 13 (min 20 (wr (((jup h o0 14 (Int.tmod (wr ((h o0 14) + 1)) 20)) o0 13) + 1))))
set_option maxRecDepth 20000 in
theorem t_G_remember_p21 {T : jT} {xs : List Int} {d : Nat} {y : jV × jS} (hd : 4 ≤ d) {h : jH}  {o0 : Nat} {out : jH} (ho0 : isX11 T o0) (H : G_remember_p21 T h o0 = some out) (HY : ykV T y out) : jEv xs d (178, 21, [(2, Int.ofNat o0), (3, 0)], []) (T, h) y := by
  unfold G_remember_p21 at H
  refine jEv.blk [(.aload_n 0, 1, []), (.aload_n 0, 1, [])] (by decide +kernel) (pc' := 23) (ls' := [(2, Int.ofNat o0), (3, 0)]) (st' := [(2, Int.ofNat o0), (2, Int.ofNat o0)]) rfl ?_
  refine jEv.gfI (show jfI 178 23 (.getfield 366) 3 [11, 14, 0, 0, 3015] = true by decide +kernel) (isX11_L ho0) (by decide) ?_
  refine jEv.blk [(.iconst 1, 1, []), (.iadd, 1, []), (.bipush 20, 2, [])] (by decide +kernel) (pc' := 30) (ls' := [(2, Int.ofNat o0), (3, 0)]) (st' := [(0, 20), (0, (wr ((h o0 14) + 1))), (2, Int.ofNat o0)]) rfl ?_
  refine jEv.irem (show jfI 178 30 (.irem) 1 [] = true by decide +kernel) (by decide) ?_
  refine jEv.pfI (show jfI 178 31 (.putfield 366) 3 [11, 14, 0, 0, 3015] = true by decide +kernel) (isX11_L ho0) (by decide) ?_
  refine jEv.blk [(.aload_n 0, 1, []), (.bipush 20, 2, []), (.aload_n 0, 1, [])] (by decide +kernel) (pc' := 38) (ls' := [(2, Int.ofNat o0), (3, 0)]) (st' := [(2, Int.ofNat o0), (0, 20), (2, Int.ofNat o0)]) rfl ?_
  refine jEv.gfI (show jfI 178 38 (.getfield 176) 3 [11, 13, 0, 0, 3014] = true by decide +kernel) (isX11_L ho0) (by decide) ?_
  refine jEv.blk [(.iconst 1, 1, []), (.iadd, 1, [])] (by decide +kernel) (pc' := 43) (ls' := [(2, Int.ofNat o0), (3, 0)]) (st' := [(0, (wr (((jup h o0 14 (Int.tmod (wr ((h o0 14) + 1)) 20)) o0 13) + 1))), (0, 20), (2, Int.ofNat o0)]) rfl ?_
  refine jEv.calS (st' := [(0, (min 20 (wr (((jup h o0 14 (Int.tmod (wr ((h o0 14) + 1)) 20)) o0 13) + 1)))), (2, Int.ofNat o0)]) (show jfI 178 43 (.invokestatic 448) 3 [3, 360, 2, 5058] = true by decide +kernel) rfl (Or.inl rfl) rfl (Nat.le_of_ble_eq_true rfl) ((t_JMath_min_0 (T := T) (xs := xs)).mono (jKle 1 hd)) rfl ?_
  refine jEv.pfI (show jfI 178 46 (.putfield 176) 3 [11, 13, 0, 0, 3014] = true by decide +kernel) (isX11_L ho0) (by decide) ?_
  exact jEv.retV (show jfI 178 49 (.return_) 1 [] = true by decide +kernel) (by decide +kernel) (by cases H; exact HY)
set_option maxRecDepth 20000 in
noncomputable def G_remember (T : jT) (h : jH) (o0 : Nat) : Option jH := (if (h o0 14) < 0 then G_remember_p21 T h o0 else (if (h o0 14) < ((20 : Nat) : Int) then (if (0 : Int) ≤ (h o0 14) ∧ ((h o0 14) : Int).toNat < 20 then Option.bind (jdyn (isX9 T) (Int.ofNat (T.2 (o0 + 77) ((h o0 14) : Int).toNat))) (fun q1 => Option.bind (St_copyFrom T h q1 (o0 + 35)) (fun b5 => G_remember_p21 T b5 o0)) else none) else G_remember_p21 T h o0))
set_option maxRecDepth 20000 in
theorem t_G_remember {T : jT} {xs : List Int} {h : jH}  {o0 : Nat} {out : jH} (ho0 : isX11 T o0) (H : G_remember T h o0 = some out) : jEm xs 5 178 [(2, Int.ofNat o0)] (T, h) ((3, 0), (T, out)) := by
  have hd : 4 ≤ 4 := Nat.le_refl _
  obtain ⟨y, ey⟩ : ∃ y : jV × jS, y = ((3, 0), (T, out)) := ⟨_, rfl⟩
  rw [← ey]
  have HY : ykV T y out := ey
  refine jEm.ent (n := 2) (by decide +kernel) (Nat.le_of_ble_eq_true rfl) ?_
  show jEv xs 4 (178, 0, [(2, Int.ofNat o0), (3, 0)], []) (T, h) y
  unfold G_remember at H
  refine jEv.blk [(.aload_n 0, 1, []), (.aload_n 0, 1, [])] (by decide +kernel) (pc' := 2) (ls' := [(2, Int.ofNat o0), (3, 0)]) (st' := [(2, Int.ofNat o0), (2, Int.ofNat o0)]) rfl ?_
  refine jEv.gfI (show jfI 178 2 (.getfield 366) 3 [11, 14, 0, 0, 3015] = true by decide +kernel) (isX11_L ho0) (by decide) ?_
  refine jite H (fun c2 H => ?_) (fun c2 H => ?_)
  · refine jEv.calV (st' := [(5, 0)]) (show jfI 178 5 (.invokevirtual 369) 3 [1, 372, 1, 6120] = true by decide +kernel) rfl (Or.inl rfl) rfl (Nat.le_of_ble_eq_true rfl) (by decide +kernel) (by decide) (isX11_L ho0) ((t_G_pastAt_n (T := T) (xs := xs) ho0 (Or.inl c2)).mono (jKle 1 hd)) rfl ?_
    refine jEv.blk [(.astore_n 1, 1, []), (.aload_n 1, 1, [])] (by decide +kernel) (pc' := 10) (ls' := [(2, Int.ofNat o0), (5, 0)]) (st' := [(5, 0)]) rfl ?_
    refine jEv.ifN (t := 21) (show jfI 178 10 (.ifnull 11) 3 [] = true by decide +kernel) rfl ?_
    exact jEv.weak (a := [(2, Int.ofNat o0), (3, 0)]) (jles.c1 (jles.c0 jles.nl)) (t_G_remember_p21 (T := T) (xs := xs) (y := y) hd ho0 H HY)
  · refine jite H (fun c3 H => ?_) (fun c3 H => ?_)
    · refine jchk H (fun c4 H => ?_)
      refine jbind H (fun q1 Hq1 H => ?_)
      have hq1 := (jdyn_of Hq1).1
      refine jEv.calV (st' := [(2, Int.ofNat q1)]) (show jfI 178 5 (.invokevirtual 369) 3 [1, 372, 1, 6120] = true by decide +kernel) rfl (Or.inl rfl) rfl (Nat.le_of_ble_eq_true rfl) (by decide +kernel) (by decide) (isX11_L ho0) ((t_G_pastAt_y (T := T) (xs := xs) ho0 c2 c3 (jdyn_of Hq1).2).mono (jKle 1 hd)) rfl ?_
      refine jEv.blk [(.astore_n 1, 1, []), (.aload_n 1, 1, [])] (by decide +kernel) (pc' := 10) (ls' := [(2, Int.ofNat o0), (2, Int.ofNat q1)]) (st' := [(2, Int.ofNat q1)]) rfl ?_
      refine jEv.ifR (show jfI 178 10 (.ifnull 11) 3 [] = true by decide +kernel) (isX9_L hq1) (by decide) ?_
      refine jEv.blk [(.aload_n 1, 1, []), (.aload_n 0, 1, [])] (by decide +kernel) (pc' := 15) (ls' := [(2, Int.ofNat o0), (2, Int.ofNat q1)]) (st' := [(2, Int.ofNat o0), (2, Int.ofNat q1)]) rfl ?_
      refine jEv.gfR (o' := (o0 + 35)) (show jfI 178 15 (.getfield 45) 3 [11, 10, 5, 0, 3011] = true by decide +kernel) (isX11_L ho0) (by decide) (isX11_r10 ho0) ?_
      refine jbind H (fun b5 Hb5 H => ?_)
      refine jEv.calV (st' := []) (show jfI 178 18 (.invokevirtual 266) 3 [1, 114, 1, 5047] = true by decide +kernel) rfl (Or.inl rfl) rfl (Nat.le_of_ble_eq_true rfl) (by decide +kernel) (by decide) (isX9_L hq1) ((t_St_copyFrom (T := T) (xs := xs) hq1 (isX11_s10 ho0) Hb5).mono (jKle 4 hd)) rfl ?_
      exact jEv.weak (a := [(2, Int.ofNat o0), (3, 0)]) (jles.c1 (jles.c0 jles.nl)) (t_G_remember_p21 (T := T) (xs := xs) (y := y) hd ho0 H HY)
    · refine jEv.calV (st' := [(5, 0)]) (show jfI 178 5 (.invokevirtual 369) 3 [1, 372, 1, 6120] = true by decide +kernel) rfl (Or.inl rfl) rfl (Nat.le_of_ble_eq_true rfl) (by decide +kernel) (by decide) (isX11_L ho0) ((t_G_pastAt_n (T := T) (xs := xs) ho0 (Or.inr c3)).mono (jKle 1 hd)) rfl ?_
      refine jEv.blk [(.astore_n 1, 1, []), (.aload_n 1, 1, [])] (by decide +kernel) (pc' := 10) (ls' := [(2, Int.ofNat o0), (5, 0)]) (st' := [(5, 0)]) rfl ?_
      refine jEv.ifN (t := 21) (show jfI 178 10 (.ifnull 11) 3 [] = true by decide +kernel) rfl ?_
      exact jEv.weak (a := [(2, Int.ofNat o0), (3, 0)]) (jles.c1 (jles.c0 jles.nl)) (t_G_remember_p21 (T := T) (xs := xs) (y := y) hd ho0 H HY)
set_option maxRecDepth 20000 in
noncomputable def G_append_p20 (T : jT) (h : jH) (o0 : Nat) : Option (Int × jH) := Option.bind (G_refuse h o0 2) (fun b8 => some (b8.1, b8.2))
set_option maxRecDepth 20000 in
theorem t_G_append_p20 {T : jT} {xs : List Int} {d : Nat} {y : jV × jS} (hd : 5 ≤ d) {h : jH}  {o0 : Nat} {out : (Int × jH)} (ho0 : isX11 T o0) (H : G_append_p20 T h o0 = some out) (HY : ykI T y out) : jEv xs d (177, 20, [(2, Int.ofNat o0), (3, 0), (3, 0), (3, 0)], []) (T, h) y := by
  unfold G_append_p20 at H
  refine jEv.blk [(.aload_n 0, 1, []), (.iconst 2, 1, [])] (by decide +kernel) (pc' := 22) (ls' := [(2, Int.ofNat o0), (3, 0), (3, 0), (3, 0)]) (st' := [(0, 2), (2, Int.ofNat o0)]) rfl ?_
  refine jbind H (fun b8 Hb8 H => ?_)
  refine jEv.calV (st' := [(0, b8.1)]) (show jfI 177 22 (.invokevirtual 80) 3 [1, 136, 1, 3066] = true by decide +kernel) rfl (Or.inl rfl) rfl (Nat.le_of_ble_eq_true rfl) (by decide +kernel) (by decide) (isX11_L ho0) ((t_G_refuse (T := T) (xs := xs) ho0 Hb8).mono (jKle 2 hd)) rfl ?_
  exact jEv.retI (show jfI 177 25 (.ireturn) 1 [] = true by decide +kernel) (by decide +kernel) (by cases H; exact HY)
set_option maxRecDepth 20000 in
noncomputable def G_append (T : jT) (h : jH) (o0 : Nat) (v1 : Int) (v2 : Int) (v3 : Int) : Option (Int × jH) := Option.bind (G_isTold T h o0) (fun b1 => (if b1 = 0 then G_append_p20 T h o0 else Option.bind (St_takesRecord h (o0 + 35) v1 v2 v3) (fun b3 => (if b3 = 0 then G_append_p20 T h o0 else Option.bind (G_remember T h o0) (fun b5 => Option.bind (Qu_add b5 (o0 + 42) v1 v2 v3 (b5 (o0 + 35) 9)) (fun b6 => Option.bind (Qu_behindLast b6 (o0 + 42)) (fun b7 => some ((wr (b7 - 1)), b6))))))))
set_option maxRecDepth 20000 in
theorem t_G_append {T : jT} {xs : List Int} {h : jH}  {o0 : Nat} {v1 : Int} {v2 : Int} {v3 : Int} {out : (Int × jH)} (ho0 : isX11 T o0) (H : G_append T h o0 v1 v2 v3 = some out) : jEm xs 6 177 [(2, Int.ofNat o0), (0, v1), (0, v2), (0, v3)] (T, h) ((0, out.1), (T, out.2)) := by
  have hd : 5 ≤ 5 := Nat.le_refl _
  obtain ⟨y, ey⟩ : ∃ y : jV × jS, y = ((0, out.1), (T, out.2)) := ⟨_, rfl⟩
  rw [← ey]
  have HY : ykI T y out := ey
  refine jEm.ent (n := 4) (by decide +kernel) (Nat.le_of_ble_eq_true rfl) ?_
  show jEv xs 5 (177, 0, [(2, Int.ofNat o0), (0, v1), (0, v2), (0, v3)], []) (T, h) y
  unfold G_append at H
  refine jEv.blk [(.aload_n 0, 1, [])] (by decide +kernel) (pc' := 1) (ls' := [(2, Int.ofNat o0), (0, v1), (0, v2), (0, v3)]) (st' := [(2, Int.ofNat o0)]) rfl ?_
  refine jbind H (fun b1 Hb1 H => ?_)
  refine jEv.calV (st' := [(0, b1)]) (show jfI 177 1 (.invokevirtual 228) 3 [1, 152, 0, 5004] = true by decide +kernel) rfl (Or.inl rfl) rfl (Nat.le_of_ble_eq_true rfl) (by decide +kernel) (by decide) (isX11_L ho0) ((t_G_isTold (T := T) (xs := xs) ho0 Hb1).mono (jKle 1 hd)) rfl ?_
  refine jEv.if_eq (t := 20) (show jfI 177 4 (.ifCond .eq 16) 3 [] = true by decide +kernel) rfl H (fun c2 H => ?_) (fun c2 H => ?_)
  · exact jEv.weak (a := [(2, Int.ofNat o0), (3, 0), (3, 0), (3, 0)]) (jles.c1 (jles.c0 (jles.c0 (jles.c0 jles.nl)))) (t_G_append_p20 (T := T) (xs := xs) (y := y) hd ho0 H HY)
  · refine jEv.blk [(.aload_n 0, 1, [])] (by decide +kernel) (pc' := 8) (ls' := [(2, Int.ofNat o0), (0, v1), (0, v2), (0, v3)]) (st' := [(2, Int.ofNat o0)]) rfl ?_
    refine jEv.gfR (o' := (o0 + 35)) (show jfI 177 8 (.getfield 45) 3 [11, 10, 5, 0, 3011] = true by decide +kernel) (isX11_L ho0) (by decide) (isX11_r10 ho0) ?_
    refine jEv.blk [(.iload_n 1, 1, []), (.iload_n 2, 1, []), (.iload_n 3, 1, [])] (by decide +kernel) (pc' := 14) (ls' := [(2, Int.ofNat o0), (0, v1), (0, v2), (0, v3)]) (st' := [(0, v3), (0, v2), (0, v1), (2, Int.ofNat (o0 + 35))]) rfl ?_
    refine jbind H (fun b3 Hb3 H => ?_)
    refine jEv.calV (st' := [(0, b3)]) (show jfI 177 14 (.invokevirtual 329) 3 [1, 112, 3, 4115] = true by decide +kernel) rfl (Or.inl rfl) rfl (Nat.le_of_ble_eq_true rfl) (by decide +kernel) (by decide) (isX9_L (isX11_s10 ho0)) ((t_St_takesRecord (T := T) (xs := xs) (isX11_s10 ho0) Hb3).mono (jKle 3 hd)) rfl ?_
    refine jEv.if_ne (t := 26) (show jfI 177 17 (.ifCond .ne 9) 3 [] = true by decide +kernel) rfl H (fun c4 H => ?_) (fun c4 H => ?_)
    · exact jEv.weak (a := [(2, Int.ofNat o0), (3, 0), (3, 0), (3, 0)]) (jles.c1 (jles.c0 (jles.c0 (jles.c0 jles.nl)))) (t_G_append_p20 (T := T) (xs := xs) (y := y) hd ho0 H HY)
    · refine jEv.blk [(.aload_n 0, 1, [])] (by decide +kernel) (pc' := 27) (ls' := [(2, Int.ofNat o0), (0, v1), (0, v2), (0, v3)]) (st' := [(2, Int.ofNat o0)]) rfl ?_
      refine jbind H (fun b5 Hb5 H => ?_)
      refine jEv.calV (st' := []) (show jfI 177 27 (.invokevirtual 333) 3 [1, 178, 0, 6116] = true by decide +kernel) rfl (Or.inl rfl) rfl (Nat.le_of_ble_eq_true rfl) (by decide +kernel) (by decide) (isX11_L ho0) ((t_G_remember (T := T) (xs := xs) ho0 Hb5).mono (jKle 5 hd)) rfl ?_
      refine jEv.blk [(.aload_n 0, 1, [])] (by decide +kernel) (pc' := 31) (ls' := [(2, Int.ofNat o0), (0, v1), (0, v2), (0, v3)]) (st' := [(2, Int.ofNat o0)]) rfl ?_
      refine jEv.gfR (o' := (o0 + 35)) (show jfI 177 31 (.getfield 45) 3 [11, 10, 5, 0, 3011] = true by decide +kernel) (isX11_L ho0) (by decide) (isX11_r10 ho0) ?_
      refine jEv.gfR (o' := (o0 + 42)) (show jfI 177 34 (.getfield 130) 3 [9, 3, 5, 0, 2073] = true by decide +kernel) (isX9_L (isX11_s10 ho0)) (by decide) (isX9_r3 (isX11_s10 ho0)) ?_
      refine jEv.blk [(.iload_n 1, 1, []), (.iload_n 2, 1, []), (.iload_n 3, 1, []), (.aload_n 0, 1, [])] (by decide +kernel) (pc' := 41) (ls' := [(2, Int.ofNat o0), (0, v1), (0, v2), (0, v3)]) (st' := [(2, Int.ofNat o0), (0, v3), (0, v2), (0, v1), (2, Int.ofNat (o0 + 42))]) rfl ?_
      refine jEv.gfR (o' := (o0 + 35)) (show jfI 177 41 (.getfield 45) 3 [11, 10, 5, 0, 3011] = true by decide +kernel) (isX11_L ho0) (by decide) (isX11_r10 ho0) ?_
      refine jEv.gfI (show jfI 177 44 (.getfield 127) 3 [9, 9, 0, 0, 2085] = true by decide +kernel) (isX9_L (isX11_s10 ho0)) (by decide) ?_
      refine jbind H (fun b6 Hb6 H => ?_)
      refine jEv.calV (st' := []) (show jfI 177 47 (.invokevirtual 336) 3 [1, 93, 4, 4132] = true by decide +kernel) rfl (Or.inl rfl) rfl (Nat.le_of_ble_eq_true rfl) (by decide +kernel) (by decide) (isX7_L (isX9_s3 (isX11_s10 ho0))) ((t_Qu_add (T := T) (xs := xs) (isX9_s3 (isX11_s10 ho0)) Hb6).mono (jKle 2 hd)) rfl ?_
      refine jEv.blk [(.aload_n 0, 1, [])] (by decide +kernel) (pc' := 51) (ls' := [(2, Int.ofNat o0), (0, v1), (0, v2), (0, v3)]) (st' := [(2, Int.ofNat o0)]) rfl ?_
      refine jEv.gfR (o' := (o0 + 35)) (show jfI 177 51 (.getfield 45) 3 [11, 10, 5, 0, 3011] = true by decide +kernel) (isX11_L ho0) (by decide) (isX11_r10 ho0) ?_
      refine jEv.gfR (o' := (o0 + 42)) (show jfI 177 54 (.getfield 130) 3 [9, 3, 5, 0, 2073] = true by decide +kernel) (isX9_L (isX11_s10 ho0)) (by decide) (isX9_r3 (isX11_s10 ho0)) ?_
      refine jbind H (fun b7 Hb7 H => ?_)
      refine jEv.calV (st' := [(0, b7)]) (show jfI 177 57 (.invokevirtual 134) 3 [1, 94, 0, 4146] = true by decide +kernel) rfl (Or.inl rfl) rfl (Nat.le_of_ble_eq_true rfl) (by decide +kernel) (by decide) (isX7_L (isX9_s3 (isX11_s10 ho0))) ((t_Qu_behindLast (T := T) (xs := xs) (isX9_s3 (isX11_s10 ho0)) Hb7).mono (jKle 1 hd)) rfl ?_
      refine jEv.blk [(.iconst 1, 1, []), (.isub, 1, [])] (by decide +kernel) (pc' := 62) (ls' := [(2, Int.ofNat o0), (0, v1), (0, v2), (0, v3)]) (st' := [(0, (wr (b7 - 1)))]) rfl ?_
      exact jEv.retI (show jfI 177 62 (.ireturn) 1 [] = true by decide +kernel) (by decide +kernel) (by cases H; exact HY)
set_option maxRecDepth 20000 in
noncomputable def G_waits_p63 (T : jT) (h : jH) (o0 : Nat) : Option (Int × jH) := Option.bind (G_deny h o0 2) (fun b11 => (if b11.1 = 0 ∨ b11.1 = 1 then some (b11.1, b11.2) else none))
set_option maxRecDepth 20000 in
theorem t_G_waits_p63 {T : jT} {xs : List Int} {d : Nat} {y : jV × jS} (hd : 5 ≤ d) {h : jH}  {o0 : Nat} {out : (Int × jH)} (ho0 : isX11 T o0) (H : G_waits_p63 T h o0 = some out) (HY : ykI T y out) : jEv xs d (179, 63, [(2, Int.ofNat o0), (3, 0), (3, 0), (3, 0)], []) (T, h) y := by
  unfold G_waits_p63 at H
  refine jEv.blk [(.aload_n 0, 1, []), (.iconst 2, 1, [])] (by decide +kernel) (pc' := 65) (ls' := [(2, Int.ofNat o0), (3, 0), (3, 0), (3, 0)]) (st' := [(0, 2), (2, Int.ofNat o0)]) rfl ?_
  refine jbind H (fun b11 Hb11 H => ?_)
  refine jEv.calV (st' := [(0, b11.1)]) (show jfI 179 65 (.invokevirtual 88) 3 [1, 141, 1, 3084] = true by decide +kernel) rfl (Or.inl rfl) rfl (Nat.le_of_ble_eq_true rfl) (by decide +kernel) (by decide) (isX11_L ho0) ((t_G_deny (T := T) (xs := xs) ho0 Hb11).mono (jKle 3 hd)) rfl ?_
  refine jchk H (fun c12 H => ?_)
  exact jEv.retZ (show jfI 179 68 (.ireturn) 1 [] = true by decide +kernel) (by decide +kernel) c12 (by cases H; exact HY)
set_option maxRecDepth 20000 in
noncomputable def G_waits_p33 (T : jT) (h : jH) (o0 : Nat) (v1 : Int) (v2 : Int) (vs0 : Int) : Option (Int × jH) := (if vs0 = 0 then G_waits_p63 T h o0 else (if v1 < 0 then G_waits_p63 T h o0 else (if v1 < 8 then Option.bind (Wa_awaitedBy h (o0 + 47) v1) (fun b7 => (if b7 = (-1) then Option.bind (G_remember T h o0) (fun b9 => Option.bind (Wa_add b9 (o0 + 47) v1 v2) (fun b10 => some (1, b10))) else G_waits_p63 T h o0)) else G_waits_p63 T h o0)))
set_option maxRecDepth 20000 in
theorem t_G_waits_p33 {T : jT} {xs : List Int} {d : Nat} {y : jV × jS} (hd : 5 ≤ d) {h : jH}  {o0 : Nat} {v1 : Int} {v2 : Int} {vs0 : Int} {out : (Int × jH)} (ho0 : isX11 T o0) (H : G_waits_p33 T h o0 v1 v2 vs0 = some out) (HY : ykI T y out) : jEv xs d (179, 33, [(2, Int.ofNat o0), (0, v1), (0, v2), (3, 0)], [(0, vs0)]) (T, h) y := by
  unfold G_waits_p33 at H
  refine jEv.blk [(.istore_n 3, 1, []), (.iload_n 3, 1, [])] (by decide +kernel) (pc' := 35) (ls' := [(2, Int.ofNat o0), (0, v1), (0, v2), (0, vs0)]) (st' := [(0, vs0)]) rfl ?_
  refine jEv.if_eq (t := 63) (show jfI 179 35 (.ifCond .eq 28) 3 [] = true by decide +kernel) rfl H (fun c4 H => ?_) (fun c4 H => ?_)
  · exact jEv.weak (a := [(2, Int.ofNat o0), (3, 0), (3, 0), (3, 0)]) (jles.c1 (jles.c0 (jles.c0 (jles.c0 jles.nl)))) (t_G_waits_p63 (T := T) (xs := xs) (y := y) hd ho0 H HY)
  · refine jEv.blk [(.iload_n 1, 1, [])] (by decide +kernel) (pc' := 39) (ls' := [(2, Int.ofNat o0), (0, v1), (0, v2), (0, vs0)]) (st' := [(0, v1)]) rfl ?_
    refine jEv.if_lt (t := 63) (show jfI 179 39 (.ifCond .lt 24) 3 [] = true by decide +kernel) rfl H (fun c5 H => ?_) (fun c5 H => ?_)
    · exact jEv.weak (a := [(2, Int.ofNat o0), (3, 0), (3, 0), (3, 0)]) (jles.c1 (jles.c0 (jles.c0 (jles.c0 jles.nl)))) (t_G_waits_p63 (T := T) (xs := xs) (y := y) hd ho0 H HY)
    · refine jEv.blk [(.iload_n 1, 1, []), (.bipush 8, 2, [])] (by decide +kernel) (pc' := 45) (ls' := [(2, Int.ofNat o0), (0, v1), (0, v2), (0, vs0)]) (st' := [(0, 8), (0, v1)]) rfl ?_
      refine jEv.ic_ge (t := 63) (show jfI 179 45 (.if_icmp .ge 18) 3 [] = true by decide +kernel) rfl H (fun c6 H => ?_) (fun c6 H => ?_)
      · refine jEv.blk [(.aload_n 0, 1, [])] (by decide +kernel) (pc' := 49) (ls' := [(2, Int.ofNat o0), (0, v1), (0, v2), (0, vs0)]) (st' := [(2, Int.ofNat o0)]) rfl ?_
        refine jEv.gfR (o' := (o0 + 35)) (show jfI 179 49 (.getfield 45) 3 [11, 10, 5, 0, 3011] = true by decide +kernel) (isX11_L ho0) (by decide) (isX11_r10 ho0) ?_
        refine jEv.gfR (o' := (o0 + 47)) (show jfI 179 52 (.getfield 160) 3 [9, 4, 5, 0, 2075] = true by decide +kernel) (isX9_L (isX11_s10 ho0)) (by decide) (isX9_r4 (isX11_s10 ho0)) ?_
        refine jEv.blk [(.iload_n 1, 1, [])] (by decide +kernel) (pc' := 56) (ls' := [(2, Int.ofNat o0), (0, v1), (0, v2), (0, vs0)]) (st' := [(0, v1), (2, Int.ofNat (o0 + 47))]) rfl ?_
        refine jbind H (fun b7 Hb7 H => ?_)
        refine jEv.calV (st' := [(0, b7)]) (show jfI 179 56 (.invokevirtual 260) 3 [1, 128, 1, 5029] = true by decide +kernel) rfl (Or.inl rfl) rfl (Nat.le_of_ble_eq_true rfl) (by decide +kernel) (by decide) (isX10_L (isX9_s4 (isX11_s10 ho0))) ((t_Wa_awaitedBy (T := T) (xs := xs) (isX9_s4 (isX11_s10 ho0)) Hb7).mono (jKle 2 hd)) rfl ?_
        refine jEv.blk [(.iconst (-1), 1, [])] (by decide +kernel) (pc' := 60) (ls' := [(2, Int.ofNat o0), (0, v1), (0, v2), (0, vs0)]) (st' := [(0, (-1)), (0, b7)]) rfl ?_
        refine jEv.ic_eq (t := 69) (show jfI 179 60 (.if_icmp .eq 9) 3 [] = true by decide +kernel) rfl H (fun c8 H => ?_) (fun c8 H => ?_)
        · refine jEv.blk [(.aload_n 0, 1, [])] (by decide +kernel) (pc' := 70) (ls' := [(2, Int.ofNat o0), (0, v1), (0, v2), (0, vs0)]) (st' := [(2, Int.ofNat o0)]) rfl ?_
          refine jbind H (fun b9 Hb9 H => ?_)
          refine jEv.calV (st' := []) (show jfI 179 70 (.invokevirtual 333) 3 [1, 178, 0, 6116] = true by decide +kernel) rfl (Or.inl rfl) rfl (Nat.le_of_ble_eq_true rfl) (by decide +kernel) (by decide) (isX11_L ho0) ((t_G_remember (T := T) (xs := xs) ho0 Hb9).mono (jKle 5 hd)) rfl ?_
          refine jEv.blk [(.aload_n 0, 1, [])] (by decide +kernel) (pc' := 74) (ls' := [(2, Int.ofNat o0), (0, v1), (0, v2), (0, vs0)]) (st' := [(2, Int.ofNat o0)]) rfl ?_
          refine jEv.gfR (o' := (o0 + 35)) (show jfI 179 74 (.getfield 45) 3 [11, 10, 5, 0, 3011] = true by decide +kernel) (isX11_L ho0) (by decide) (isX11_r10 ho0) ?_
          refine jEv.gfR (o' := (o0 + 47)) (show jfI 179 77 (.getfield 160) 3 [9, 4, 5, 0, 2075] = true by decide +kernel) (isX9_L (isX11_s10 ho0)) (by decide) (isX9_r4 (isX11_s10 ho0)) ?_
          refine jEv.blk [(.iload_n 1, 1, []), (.iload_n 2, 1, [])] (by decide +kernel) (pc' := 82) (ls' := [(2, Int.ofNat o0), (0, v1), (0, v2), (0, vs0)]) (st' := [(0, v2), (0, v1), (2, Int.ofNat (o0 + 47))]) rfl ?_
          refine jbind H (fun b10 Hb10 H => ?_)
          refine jEv.calV (st' := []) (show jfI 179 82 (.invokevirtual 340) 3 [1, 133, 2, 6128] = true by decide +kernel) rfl (Or.inl rfl) rfl (Nat.le_of_ble_eq_true rfl) (by decide +kernel) (by decide) (isX10_L (isX9_s4 (isX11_s10 ho0))) ((t_Wa_add (T := T) (xs := xs) (isX9_s4 (isX11_s10 ho0)) Hb10).mono (jKle 2 hd)) rfl ?_
          refine jEv.blk [(.iconst 1, 1, [])] (by decide +kernel) (pc' := 86) (ls' := [(2, Int.ofNat o0), (0, v1), (0, v2), (0, vs0)]) (st' := [(0, 1)]) rfl ?_
          exact jEv.retZ (show jfI 179 86 (.ireturn) 1 [] = true by decide +kernel) (by decide +kernel) (by decide) (by cases H; exact HY)
        · exact jEv.weak (a := [(2, Int.ofNat o0), (3, 0), (3, 0), (3, 0)]) (jles.c1 (jles.c0 (jles.c0 (jles.c0 jles.nl)))) (t_G_waits_p63 (T := T) (xs := xs) (y := y) hd ho0 H HY)
      · exact jEv.weak (a := [(2, Int.ofNat o0), (3, 0), (3, 0), (3, 0)]) (jles.c1 (jles.c0 (jles.c0 (jles.c0 jles.nl)))) (t_G_waits_p63 (T := T) (xs := xs) (y := y) hd ho0 H HY)
set_option maxRecDepth 20000 in
noncomputable def G_waits_p32 (T : jT) (h : jH) (o0 : Nat) (v1 : Int) (v2 : Int) : Option (Int × jH) := G_waits_p33 T h o0 v1 v2 0
set_option maxRecDepth 20000 in
theorem t_G_waits_p32 {T : jT} {xs : List Int} {d : Nat} {y : jV × jS} (hd : 5 ≤ d) {h : jH}  {o0 : Nat} {v1 : Int} {v2 : Int} {out : (Int × jH)} (ho0 : isX11 T o0) (H : G_waits_p32 T h o0 v1 v2 = some out) (HY : ykI T y out) : jEv xs d (179, 32, [(2, Int.ofNat o0), (0, v1), (0, v2), (3, 0)], []) (T, h) y := by
  unfold G_waits_p32 at H
  refine jEv.blk [(.iconst 0, 1, [])] (by decide +kernel) (pc' := 33) (ls' := [(2, Int.ofNat o0), (0, v1), (0, v2), (3, 0)]) (st' := [(0, 0)]) rfl ?_
  exact t_G_waits_p33 (T := T) (xs := xs) (y := y) hd ho0 H HY
set_option maxRecDepth 20000 in
noncomputable def G_waits (T : jT) (h : jH) (o0 : Nat) (v1 : Int) (v2 : Int) : Option (Int × jH) := (if v2 < (h (o0 + 42) 4) then G_waits_p32 T h o0 v1 v2 else Option.bind (Qu_behindLast h (o0 + 42)) (fun b2 => (if v2 < b2 then G_waits_p33 T h o0 v1 v2 1 else G_waits_p32 T h o0 v1 v2)))
set_option maxRecDepth 20000 in
theorem t_G_waits {T : jT} {xs : List Int} {h : jH}  {o0 : Nat} {v1 : Int} {v2 : Int} {out : (Int × jH)} (ho0 : isX11 T o0) (H : G_waits T h o0 v1 v2 = some out) : jEm xs 6 179 [(2, Int.ofNat o0), (0, v1), (0, v2)] (T, h) ((0, out.1), (T, out.2)) := by
  have hd : 5 ≤ 5 := Nat.le_refl _
  obtain ⟨y, ey⟩ : ∃ y : jV × jS, y = ((0, out.1), (T, out.2)) := ⟨_, rfl⟩
  rw [← ey]
  have HY : ykI T y out := ey
  refine jEm.ent (n := 4) (by decide +kernel) (Nat.le_of_ble_eq_true rfl) ?_
  show jEv xs 5 (179, 0, [(2, Int.ofNat o0), (0, v1), (0, v2), (3, 0)], []) (T, h) y
  unfold G_waits at H
  refine jEv.blk [(.iload_n 2, 1, []), (.aload_n 0, 1, [])] (by decide +kernel) (pc' := 2) (ls' := [(2, Int.ofNat o0), (0, v1), (0, v2), (3, 0)]) (st' := [(2, Int.ofNat o0), (0, v2)]) rfl ?_
  refine jEv.gfR (o' := (o0 + 35)) (show jfI 179 2 (.getfield 45) 3 [11, 10, 5, 0, 3011] = true by decide +kernel) (isX11_L ho0) (by decide) (isX11_r10 ho0) ?_
  refine jEv.gfR (o' := (o0 + 42)) (show jfI 179 5 (.getfield 130) 3 [9, 3, 5, 0, 2073] = true by decide +kernel) (isX9_L (isX11_s10 ho0)) (by decide) (isX9_r3 (isX11_s10 ho0)) ?_
  refine jEv.gfI (show jfI 179 8 (.getfield 139) 3 [7, 4, 0, 0, 2008] = true by decide +kernel) (isX7_L (isX9_s3 (isX11_s10 ho0))) (by decide) ?_
  refine jEv.ic_lt (t := 32) (show jfI 179 11 (.if_icmp .lt 21) 3 [] = true by decide +kernel) rfl H (fun c1 H => ?_) (fun c1 H => ?_)
  · exact t_G_waits_p32 (T := T) (xs := xs) (y := y) hd ho0 H HY
  · refine jEv.blk [(.iload_n 2, 1, []), (.aload_n 0, 1, [])] (by decide +kernel) (pc' := 16) (ls' := [(2, Int.ofNat o0), (0, v1), (0, v2), (3, 0)]) (st' := [(2, Int.ofNat o0), (0, v2)]) rfl ?_
    refine jEv.gfR (o' := (o0 + 35)) (show jfI 179 16 (.getfield 45) 3 [11, 10, 5, 0, 3011] = true by decide +kernel) (isX11_L ho0) (by decide) (isX11_r10 ho0) ?_
    refine jEv.gfR (o' := (o0 + 42)) (show jfI 179 19 (.getfield 130) 3 [9, 3, 5, 0, 2073] = true by decide +kernel) (isX9_L (isX11_s10 ho0)) (by decide) (isX9_r3 (isX11_s10 ho0)) ?_
    refine jbind H (fun b2 Hb2 H => ?_)
    refine jEv.calV (st' := [(0, b2), (0, v2)]) (show jfI 179 22 (.invokevirtual 134) 3 [1, 94, 0, 4146] = true by decide +kernel) rfl (Or.inl rfl) rfl (Nat.le_of_ble_eq_true rfl) (by decide +kernel) (by decide) (isX7_L (isX9_s3 (isX11_s10 ho0))) ((t_Qu_behindLast (T := T) (xs := xs) (isX9_s3 (isX11_s10 ho0)) Hb2).mono (jKle 1 hd)) rfl ?_
    refine jEv.ic_ge (t := 32) (show jfI 179 25 (.if_icmp .ge 7) 3 [] = true by decide +kernel) rfl H (fun c3 H => ?_) (fun c3 H => ?_)
    · refine jEv.blk [(.iconst 1, 1, [])] (by decide +kernel) (pc' := 29) (ls' := [(2, Int.ofNat o0), (0, v1), (0, v2), (3, 0)]) (st' := [(0, 1)]) rfl ?_
      refine jEv.goto (t := 33) (show jfI 179 29 (.goto 4) 3 [] = true by decide +kernel) rfl ?_
      exact t_G_waits_p33 (T := T) (xs := xs) (y := y) hd ho0 H HY
    · exact t_G_waits_p32 (T := T) (xs := xs) (y := y) hd ho0 H HY
