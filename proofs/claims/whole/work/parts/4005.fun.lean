/-! methods as functions -/
set_option maxRecDepth 20000 in
noncomputable def St_movePlace  (h : jH) (o0 : Nat) (v1 : Int) (v2 : Int) (v3 : Int) (v4 : Int) : Option jH := some (jup (jup (jup (jup h o0 10 v1) o0 11 v2) o0 12 v3) o0 13 v4)
set_option maxRecDepth 20000 in
theorem t_St_movePlace {T : jT} {xs : List Int} {h : jH}  {o0 : Nat} {v1 : Int} {v2 : Int} {v3 : Int} {v4 : Int} {out : jH} (ho0 : isX9 T o0) (H : St_movePlace h o0 v1 v2 v3 v4 = some out) : jEm xs 1 111 [(2, Int.ofNat o0), (0, v1), (0, v2), (0, v3), (0, v4)] (T, h) ((3, 0), (T, out)) := by
  have hd : 0 ≤ 0 := Nat.le_refl _
  obtain ⟨y, ey⟩ : ∃ y : jV × jS, y = ((3, 0), (T, out)) := ⟨_, rfl⟩
  rw [← ey]
  have HY : ykV T y out := ey
  refine jEm.ent (n := 5) (by decide +kernel) (Nat.le_of_ble_eq_true rfl) ?_
  show jEv xs 0 (111, 0, [(2, Int.ofNat o0), (0, v1), (0, v2), (0, v3), (0, v4)], []) (T, h) y
  unfold St_movePlace at H
  refine jEv.blk [(.aload_n 0, 1, []), (.iload_n 1, 1, [])] (by decide +kernel) (pc' := 2) (ls' := [(2, Int.ofNat o0), (0, v1), (0, v2), (0, v3), (0, v4)]) (st' := [(0, v1), (2, Int.ofNat o0)]) rfl ?_
  refine jEv.pfI (show jfI 111 2 (.putfield 104) 3 [9, 10, 0, 0, 2087] = true by decide +kernel) (isX9_L ho0) (by decide) ?_
  refine jEv.blk [(.aload_n 0, 1, []), (.iload_n 2, 1, [])] (by decide +kernel) (pc' := 7) (ls' := [(2, Int.ofNat o0), (0, v1), (0, v2), (0, v3), (0, v4)]) (st' := [(0, v2), (2, Int.ofNat o0)]) rfl ?_
  refine jEv.pfI (show jfI 111 7 (.putfield 107) 3 [9, 11, 0, 0, 2090] = true by decide +kernel) (isX9_L ho0) (by decide) ?_
  refine jEv.blk [(.aload_n 0, 1, []), (.iload_n 3, 1, [])] (by decide +kernel) (pc' := 12) (ls' := [(2, Int.ofNat o0), (0, v1), (0, v2), (0, v3), (0, v4)]) (st' := [(0, v3), (2, Int.ofNat o0)]) rfl ?_
  refine jEv.pfI (show jfI 111 12 (.putfield 110) 3 [9, 12, 0, 0, 2093] = true by decide +kernel) (isX9_L ho0) (by decide) ?_
  refine jEv.blk [(.aload_n 0, 1, []), (.iload 4, 2, [])] (by decide +kernel) (pc' := 18) (ls' := [(2, Int.ofNat o0), (0, v1), (0, v2), (0, v3), (0, v4)]) (st' := [(0, v4), (2, Int.ofNat o0)]) rfl ?_
  refine jEv.pfI (show jfI 111 18 (.putfield 80) 3 [9, 13, 0, 0, 2096] = true by decide +kernel) (isX9_L ho0) (by decide) ?_
  exact jEv.retV (show jfI 111 21 (.return_) 1 [] = true by decide +kernel) (by decide +kernel) (by cases H; exact HY)
def yk_Pe_lay_L7 (T : jT) (xs : List Int) (d : Nat) (y : jV × jS)  (o0 : Nat) (o1 : Nat) (v2 : Int) : ((Int × jH) ⊕ jH) → Prop
  | .inl (v3, h) => jEv xs d (82, 7, [(2, Int.ofNat o0), (2, Int.ofNat o1), (0, v2), (0, v3), (3, 0)], []) (T, h) y
  | .inr o => ykV T y o
set_option maxRecDepth 20000 in
noncomputable def Pe_lay_p55  (h : jH) (o0 : Nat) (o1 : Nat) (v2 : Int) (v3 : Int) : Option ((Int × jH) ⊕ jH) := Option.bind (Pe_writeRecord h o0 o1 v3) (fun b8 => Option.bind (G_put b8 (o1 + 20) 4 (b8 o0 0) (wr ((b8 (o1 + 7) 4) + v3))) (fun b9 => some (.inl ((wr (v3 + 1)), b9))))
set_option maxRecDepth 20000 in
theorem t_Pe_lay_p55 {T : jT} {xs : List Int} {d : Nat} {y : jV × jS} (hd : 3 ≤ d) {h : jH}  {o0 : Nat} {o1 : Nat} {v2 : Int} {v3 : Int} {out : ((Int × jH) ⊕ jH)} (ho0 : isX5 T o0) (ho1 : isX9 T o1) (H : Pe_lay_p55 h o0 o1 v2 v3 = some out) (HY : yk_Pe_lay_L7 T xs d y o0 o1 v2 out) : jEv xs d (82, 55, [(2, Int.ofNat o0), (2, Int.ofNat o1), (0, v2), (0, v3), (3, 0)], []) (T, h) y := by
  unfold Pe_lay_p55 at H
  refine jEv.blk [(.aload_n 0, 1, []), (.aload_n 1, 1, []), (.iload_n 3, 1, [])] (by decide +kernel) (pc' := 58) (ls' := [(2, Int.ofNat o0), (2, Int.ofNat o1), (0, v2), (0, v3), (3, 0)]) (st' := [(0, v3), (2, Int.ofNat o1), (2, Int.ofNat o0)]) rfl ?_
  refine jbind H (fun b8 Hb8 H => ?_)
  refine jEv.calV (st' := []) (show jfI 82 58 (.invokevirtual 77) 3 [1, 84, 2, 5208] = true by decide +kernel) rfl (Or.inl rfl) rfl (Nat.le_of_ble_eq_true rfl) (by decide +kernel) (by decide) (isX5_L ho0) ((t_Pe_writeRecord (T := T) (xs := xs) ho0 ho1 Hb8).mono (jKle 3 hd)) rfl ?_
  refine jEv.blk [(.aload_n 1, 1, [])] (by decide +kernel) (pc' := 62) (ls' := [(2, Int.ofNat o0), (2, Int.ofNat o1), (0, v2), (0, v3), (3, 0)]) (st' := [(2, Int.ofNat o1)]) rfl ?_
  refine jEv.gfR (o' := (o1 + 20)) (show jfI 82 62 (.getfield 80) 3 [9, 8, 5, 0, 2083] = true by decide +kernel) (isX9_L ho1) (by decide) (isX9_r8 ho1) ?_
  refine jEv.blk [(.aload_n 0, 1, [])] (by decide +kernel) (pc' := 66) (ls' := [(2, Int.ofNat o0), (2, Int.ofNat o1), (0, v2), (0, v3), (3, 0)]) (st' := [(2, Int.ofNat o0), (2, Int.ofNat (o1 + 20))]) rfl ?_
  refine jEv.gfI (show jfI 82 66 (.getfield 15) 3 [5, 0, 0, 0, 2138] = true by decide +kernel) (isX5_L ho0) (by decide) ?_
  refine jEv.blk [(.aload_n 1, 1, [])] (by decide +kernel) (pc' := 70) (ls' := [(2, Int.ofNat o0), (2, Int.ofNat o1), (0, v2), (0, v3), (3, 0)]) (st' := [(2, Int.ofNat o1), (0, (b8 o0 0)), (2, Int.ofNat (o1 + 20))]) rfl ?_
  refine jEv.gfR (o' := (o1 + 7)) (show jfI 82 70 (.getfield 57) 3 [9, 3, 5, 0, 2072] = true by decide +kernel) (isX9_L ho1) (by decide) (isX9_r3 ho1) ?_
  refine jEv.gfI (show jfI 82 73 (.getfield 70) 3 [7, 4, 0, 0, 2007] = true by decide +kernel) (isX7_L (isX9_s3 ho1)) (by decide) ?_
  refine jEv.blk [(.iload_n 3, 1, []), (.iadd, 1, [])] (by decide +kernel) (pc' := 78) (ls' := [(2, Int.ofNat o0), (2, Int.ofNat o1), (0, v2), (0, v3), (3, 0)]) (st' := [(0, (wr ((b8 (o1 + 7) 4) + v3))), (0, (b8 o0 0)), (2, Int.ofNat (o1 + 20))]) rfl ?_
  refine jbind H (fun b9 Hb9 H => ?_)
  refine jEv.calS (st' := []) (show jfI 82 78 (.invokestatic 84) 3 [4, 138, 3, 5225] = true by decide +kernel) rfl (Or.inr rfl) rfl (Nat.le_of_ble_eq_true rfl) ((t_G_put (T := T) (xs := xs) (isX9_a8 ho1) Hb9).mono (jKle 1 hd)) rfl ?_
  refine jEv.blk [(.iinc 3 1, 3, [])] (by decide +kernel) (pc' := 84) (ls' := [(2, Int.ofNat o0), (2, Int.ofNat o1), (0, v2), (0, (wr (v3 + 1))), (3, 0)]) (st' := []) rfl ?_
  refine jEv.goto (t := 7) (show jfI 82 84 (.goto (-77)) 3 [] = true by decide +kernel) rfl ?_
  exact (by cases H; exact HY)
set_option maxRecDepth 20000 in
noncomputable def Pe_lay_B7  (h : jH) (o0 : Nat) (o1 : Nat) (v2 : Int) (v3 : Int) : Option ((Int × jH) ⊕ jH) := (if v3 < v2 then Option.bind (Qu_payloadAt h (o1 + 7) v3) (fun b3 => Option.bind (Pe_goesTo h o0 o1 b3) (fun b4 => (if (b4.2 o0 0) = (h o0 0) then Pe_lay_p55 b4.2 o0 o1 v2 v3 else Option.bind (Pe_writeHead b4.2 o0 o1 (wr ((b4.2 (o1 + 7) 4) + v3))) (fun b6 => Pe_lay_p55 b6 o0 o1 v2 v3)))) else Option.map Sum.inr (Option.bind (St_movePlace (jup h (o1 + 7) 5 v2) o1 ((jup h (o1 + 7) 5 v2) o0 0) ((jup h (o1 + 7) 5 v2) o0 1) ((jup h (o1 + 7) 5 v2) o0 2) ((jup h (o1 + 7) 5 v2) o0 3)) (fun b7 => some b7)))
noncomputable def Pe_lay_L7  (h : jH) (o0 : Nat) (o1 : Nat) (v2 : Int) (v3 : Int) : Option jH := jloop (fun s : (Int × jH) => Pe_lay_B7 s.2 o0 o1 v2 s.1) (v3, h)
set_option maxRecDepth 20000 in
theorem t_Pe_lay_B7 {T : jT} {xs : List Int} {d : Nat} {y : jV × jS} (hd : 3 ≤ d) {h : jH}  {o0 : Nat} {o1 : Nat} {v2 : Int} {v3 : Int} {out : ((Int × jH) ⊕ jH)} (ho0 : isX5 T o0) (ho1 : isX9 T o1) (H : Pe_lay_B7 h o0 o1 v2 v3 = some out) (HY : yk_Pe_lay_L7 T xs d y o0 o1 v2 out) : jEv xs d (82, 7, [(2, Int.ofNat o0), (2, Int.ofNat o1), (0, v2), (0, v3), (3, 0)], []) (T, h) y := by
  unfold Pe_lay_B7 at H
  refine jEv.blk [(.iload_n 3, 1, []), (.iload_n 2, 1, [])] (by decide +kernel) (pc' := 9) (ls' := [(2, Int.ofNat o0), (2, Int.ofNat o1), (0, v2), (0, v3), (3, 0)]) (st' := [(0, v2), (0, v3)]) rfl ?_
  refine jEv.ic_ge (t := 87) (show jfI 82 9 (.if_icmp .ge 78) 3 [] = true by decide +kernel) rfl H (fun c2 H => ?_) (fun c2 H => ?_)
  · refine jEv.blk [(.aload_n 0, 1, [])] (by decide +kernel) (pc' := 13) (ls' := [(2, Int.ofNat o0), (2, Int.ofNat o1), (0, v2), (0, v3), (3, 0)]) (st' := [(2, Int.ofNat o0)]) rfl ?_
    refine jEv.gfI (show jfI 82 13 (.getfield 15) 3 [5, 0, 0, 0, 2138] = true by decide +kernel) (isX5_L ho0) (by decide) ?_
    refine jEv.blk [(.istore 4, 2, []), (.aload_n 0, 1, []), (.aload_n 1, 1, []), (.aload_n 1, 1, [])] (by decide +kernel) (pc' := 21) (ls' := [(2, Int.ofNat o0), (2, Int.ofNat o1), (0, v2), (0, v3), (0, (h o0 0))]) (st' := [(2, Int.ofNat o1), (2, Int.ofNat o1), (2, Int.ofNat o0)]) rfl ?_
    refine jEv.gfR (o' := (o1 + 7)) (show jfI 82 21 (.getfield 57) 3 [9, 3, 5, 0, 2072] = true by decide +kernel) (isX9_L ho1) (by decide) (isX9_r3 ho1) ?_
    refine jEv.blk [(.iload_n 3, 1, [])] (by decide +kernel) (pc' := 25) (ls' := [(2, Int.ofNat o0), (2, Int.ofNat o1), (0, v2), (0, v3), (0, (h o0 0))]) (st' := [(0, v3), (2, Int.ofNat (o1 + 7)), (2, Int.ofNat o1), (2, Int.ofNat o0)]) rfl ?_
    refine jbind H (fun b3 Hb3 H => ?_)
    refine jEv.calV (st' := [(0, b3), (2, Int.ofNat o1), (2, Int.ofNat o0)]) (show jfI 82 25 (.invokevirtual 66) 3 [1, 99, 1, 5184] = true by decide +kernel) rfl (Or.inl rfl) rfl (Nat.le_of_ble_eq_true rfl) (by decide +kernel) (by decide) (isX7_L (isX9_s3 ho1)) ((t_Qu_payloadAt (T := T) (xs := xs) (isX9_s3 ho1) Hb3).mono (jKle 2 hd)) rfl ?_
    refine jbind H (fun b4 Hb4 H => ?_)
    refine jEv.calV (st' := [(0, b4.1)]) (show jfI 82 28 (.invokevirtual 43) 3 [1, 80, 2, 5185] = true by decide +kernel) rfl (Or.inl rfl) rfl (Nat.le_of_ble_eq_true rfl) (by decide +kernel) (by decide) (isX5_L ho0) ((t_Pe_goesTo (T := T) (xs := xs) ho0 ho1 Hb4).mono (jKle 3 hd)) rfl ?_
    refine jEv.blk [(.pop, 1, []), (.aload_n 0, 1, [])] (by decide +kernel) (pc' := 33) (ls' := [(2, Int.ofNat o0), (2, Int.ofNat o1), (0, v2), (0, v3), (0, (h o0 0))]) (st' := [(2, Int.ofNat o0)]) rfl ?_
    refine jEv.gfI (show jfI 82 33 (.getfield 15) 3 [5, 0, 0, 0, 2138] = true by decide +kernel) (isX5_L ho0) (by decide) ?_
    refine jEv.blk [(.iload 4, 2, [])] (by decide +kernel) (pc' := 38) (ls' := [(2, Int.ofNat o0), (2, Int.ofNat o1), (0, v2), (0, v3), (0, (h o0 0))]) (st' := [(0, (h o0 0)), (0, (b4.2 o0 0))]) rfl ?_
    refine jEv.ic_eq (t := 55) (show jfI 82 38 (.if_icmp .eq 17) 3 [] = true by decide +kernel) rfl H (fun c5 H => ?_) (fun c5 H => ?_)
    · exact jEv.weak (a := [(2, Int.ofNat o0), (2, Int.ofNat o1), (0, v2), (0, v3), (3, 0)]) (jles.c1 (jles.c1 (jles.c1 (jles.c1 (jles.c0 jles.nl))))) (t_Pe_lay_p55 (T := T) (xs := xs) (y := y) hd ho0 ho1 H HY)
    · refine jEv.blk [(.aload_n 0, 1, []), (.aload_n 1, 1, []), (.aload_n 1, 1, [])] (by decide +kernel) (pc' := 44) (ls' := [(2, Int.ofNat o0), (2, Int.ofNat o1), (0, v2), (0, v3), (0, (h o0 0))]) (st' := [(2, Int.ofNat o1), (2, Int.ofNat o1), (2, Int.ofNat o0)]) rfl ?_
      refine jEv.gfR (o' := (o1 + 7)) (show jfI 82 44 (.getfield 57) 3 [9, 3, 5, 0, 2072] = true by decide +kernel) (isX9_L ho1) (by decide) (isX9_r3 ho1) ?_
      refine jEv.gfI (show jfI 82 47 (.getfield 70) 3 [7, 4, 0, 0, 2007] = true by decide +kernel) (isX7_L (isX9_s3 ho1)) (by decide) ?_
      refine jEv.blk [(.iload_n 3, 1, []), (.iadd, 1, [])] (by decide +kernel) (pc' := 52) (ls' := [(2, Int.ofNat o0), (2, Int.ofNat o1), (0, v2), (0, v3), (0, (h o0 0))]) (st' := [(0, (wr ((b4.2 (o1 + 7) 4) + v3))), (2, Int.ofNat o1), (2, Int.ofNat o0)]) rfl ?_
      refine jbind H (fun b6 Hb6 H => ?_)
      refine jEv.calV (st' := []) (show jfI 82 52 (.invokevirtual 73) 3 [1, 83, 2, 5199] = true by decide +kernel) rfl (Or.inl rfl) rfl (Nat.le_of_ble_eq_true rfl) (by decide +kernel) (by decide) (isX5_L ho0) ((t_Pe_writeHead (T := T) (xs := xs) ho0 ho1 Hb6).mono (jKle 2 hd)) rfl ?_
      exact jEv.weak (a := [(2, Int.ofNat o0), (2, Int.ofNat o1), (0, v2), (0, v3), (3, 0)]) (jles.c1 (jles.c1 (jles.c1 (jles.c1 (jles.c0 jles.nl))))) (t_Pe_lay_p55 (T := T) (xs := xs) (y := y) hd ho0 ho1 H HY)
  · refine jmapr H HY (fun out H (HY : ykV T y out) => ?_)
    refine jEv.blk [(.aload_n 1, 1, [])] (by decide +kernel) (pc' := 88) (ls' := [(2, Int.ofNat o0), (2, Int.ofNat o1), (0, v2), (0, v3), (3, 0)]) (st' := [(2, Int.ofNat o1)]) rfl ?_
    refine jEv.gfR (o' := (o1 + 7)) (show jfI 82 88 (.getfield 57) 3 [9, 3, 5, 0, 2072] = true by decide +kernel) (isX9_L ho1) (by decide) (isX9_r3 ho1) ?_
    refine jEv.blk [(.iload_n 2, 1, [])] (by decide +kernel) (pc' := 92) (ls' := [(2, Int.ofNat o0), (2, Int.ofNat o1), (0, v2), (0, v3), (3, 0)]) (st' := [(0, v2), (2, Int.ofNat (o1 + 7))]) rfl ?_
    refine jEv.pfI (show jfI 82 92 (.putfield 61) 3 [7, 5, 0, 0, 2011] = true by decide +kernel) (isX7_L (isX9_s3 ho1)) (by decide) ?_
    refine jEv.blk [(.aload_n 1, 1, []), (.aload_n 0, 1, [])] (by decide +kernel) (pc' := 97) (ls' := [(2, Int.ofNat o0), (2, Int.ofNat o1), (0, v2), (0, v3), (3, 0)]) (st' := [(2, Int.ofNat o0), (2, Int.ofNat o1)]) rfl ?_
    refine jEv.gfI (show jfI 82 97 (.getfield 15) 3 [5, 0, 0, 0, 2138] = true by decide +kernel) (isX5_L ho0) (by decide) ?_
    refine jEv.blk [(.aload_n 0, 1, [])] (by decide +kernel) (pc' := 101) (ls' := [(2, Int.ofNat o0), (2, Int.ofNat o1), (0, v2), (0, v3), (3, 0)]) (st' := [(2, Int.ofNat o0), (0, ((jup h (o1 + 7) 5 v2) o0 0)), (2, Int.ofNat o1)]) rfl ?_
    refine jEv.gfI (show jfI 82 101 (.getfield 23) 3 [5, 1, 0, 0, 2139] = true by decide +kernel) (isX5_L ho0) (by decide) ?_
    refine jEv.blk [(.aload_n 0, 1, [])] (by decide +kernel) (pc' := 105) (ls' := [(2, Int.ofNat o0), (2, Int.ofNat o1), (0, v2), (0, v3), (3, 0)]) (st' := [(2, Int.ofNat o0), (0, ((jup h (o1 + 7) 5 v2) o0 1)), (0, ((jup h (o1 + 7) 5 v2) o0 0)), (2, Int.ofNat o1)]) rfl ?_
    refine jEv.gfI (show jfI 82 105 (.getfield 29) 3 [5, 2, 0, 0, 2140] = true by decide +kernel) (isX5_L ho0) (by decide) ?_
    refine jEv.blk [(.aload_n 0, 1, [])] (by decide +kernel) (pc' := 109) (ls' := [(2, Int.ofNat o0), (2, Int.ofNat o1), (0, v2), (0, v3), (3, 0)]) (st' := [(2, Int.ofNat o0), (0, ((jup h (o1 + 7) 5 v2) o0 2)), (0, ((jup h (o1 + 7) 5 v2) o0 1)), (0, ((jup h (o1 + 7) 5 v2) o0 0)), (2, Int.ofNat o1)]) rfl ?_
    refine jEv.gfI (show jfI 82 109 (.getfield 35) 3 [5, 3, 0, 0, 2141] = true by decide +kernel) (isX5_L ho0) (by decide) ?_
    refine jbind H (fun b7 Hb7 H => ?_)
    refine jEv.calV (st' := []) (show jfI 82 112 (.invokevirtual 88) 3 [1, 111, 4, 5226] = true by decide +kernel) rfl (Or.inl rfl) rfl (Nat.le_of_ble_eq_true rfl) (by decide +kernel) (by decide) (isX9_L ho1) ((t_St_movePlace (T := T) (xs := xs) ho1 Hb7).mono (jKle 1 hd)) rfl ?_
    exact jEv.retV (show jfI 82 115 (.return_) 1 [] = true by decide +kernel) (by decide +kernel) (by cases H; exact HY)
theorem t_Pe_lay_L7 {T : jT} {xs : List Int} {d : Nat} {y : jV × jS} (hd : 3 ≤ d) {h : jH}  {o0 : Nat} {o1 : Nat} {v2 : Int} {v3 : Int} {out : jH} (ho0 : isX5 T o0) (ho1 : isX9 T o1) (H : Pe_lay_L7 h o0 o1 v2 v3 = some out) (HY : ykV T y out) : jEv xs d (82, 7, [(2, Int.ofNat o0), (2, Int.ofNat o1), (0, v2), (0, v3), (3, 0)], []) (T, h) y :=
  jloop_sound (G := fun s : (Int × jH) => jEv xs d (82, 7, [(2, Int.ofNat o0), (2, Int.ofNat o1), (0, v2), (0, s.1), (3, 0)], []) (T, s.2) y) (K := yk_Pe_lay_L7 T xs d y o0 o1 v2) (fun s out H HY => t_Pe_lay_B7 hd ho0 ho1 H HY) (fun s' hg => hg) (s := (v3, h)) H HY
set_option maxRecDepth 20000 in
noncomputable def Pe_lay  (h : jH) (o0 : Nat) (o1 : Nat) (v2 : Int) : Option jH := Option.bind (Pe_start h o0 o1) (fun b1 => Pe_lay_L7 b1 o0 o1 v2 0)
set_option maxRecDepth 20000 in
theorem t_Pe_lay {T : jT} {xs : List Int} {h : jH}  {o0 : Nat} {o1 : Nat} {v2 : Int} {out : jH} (ho0 : isX5 T o0) (ho1 : isX9 T o1) (H : Pe_lay h o0 o1 v2 = some out) : jEm xs 4 82 [(2, Int.ofNat o0), (2, Int.ofNat o1), (0, v2)] (T, h) ((3, 0), (T, out)) := by
  have hd : 3 ≤ 3 := Nat.le_refl _
  obtain ⟨y, ey⟩ : ∃ y : jV × jS, y = ((3, 0), (T, out)) := ⟨_, rfl⟩
  rw [← ey]
  have HY : ykV T y out := ey
  refine jEm.ent (n := 5) (by decide +kernel) (Nat.le_of_ble_eq_true rfl) ?_
  show jEv xs 3 (82, 0, [(2, Int.ofNat o0), (2, Int.ofNat o1), (0, v2), (3, 0), (3, 0)], []) (T, h) y
  unfold Pe_lay at H
  refine jEv.blk [(.aload_n 0, 1, []), (.aload_n 1, 1, [])] (by decide +kernel) (pc' := 2) (ls' := [(2, Int.ofNat o0), (2, Int.ofNat o1), (0, v2), (3, 0), (3, 0)]) (st' := [(2, Int.ofNat o1), (2, Int.ofNat o0)]) rfl ?_
  refine jbind H (fun b1 Hb1 H => ?_)
  refine jEv.calV (st' := []) (show jfI 82 2 (.invokevirtual 39) 3 [1, 79, 1, 5180] = true by decide +kernel) rfl (Or.inl rfl) rfl (Nat.le_of_ble_eq_true rfl) (by decide +kernel) (by decide) (isX5_L ho0) ((t_Pe_start (T := T) (xs := xs) ho0 ho1 Hb1).mono (jKle 1 hd)) rfl ?_
  refine jEv.blk [(.iconst 0, 1, []), (.istore_n 3, 1, [])] (by decide +kernel) (pc' := 7) (ls' := [(2, Int.ofNat o0), (2, Int.ofNat o1), (0, v2), (0, 0), (3, 0)]) (st' := []) rfl ?_
  exact t_Pe_lay_L7 (T := T) (xs := xs) (y := y) hd ho0 ho1 H HY
def yk_Pe_roomFor_L7 (T : jT) (xs : List Int) (d : Nat) (y : jV × jS)  (o0 : Nat) (o1 : Nat) (v2 : Int) : ((Int × jH) ⊕ (Int × jH)) → Prop
  | .inl (v3, h) => jEv xs d (86, 7, [(2, Int.ofNat o0), (2, Int.ofNat o1), (0, v2), (0, v3)], []) (T, h) y
  | .inr o => ykI T y o
set_option maxRecDepth 20000 in
noncomputable def Pe_roomFor_B7  (h : jH) (o0 : Nat) (o1 : Nat) (v2 : Int) (v3 : Int) : Option ((Int × jH) ⊕ (Int × jH)) := (if v3 < 512 then Option.bind (Pe_goesTo h o0 o1 v2) (fun b3 => (if b3.1 = 0 then Option.map Sum.inr (some (v3, b3.2)) else Option.bind (Di_behindRecord b3.2 (o1 + 1) (b3.2 o0 1) v2) (fun b5 => some (.inl ((wr (v3 + 1)), (jup b3.2 o0 1 b5)))))) else Option.map Sum.inr (some (v3, h)))
noncomputable def Pe_roomFor_L7  (h : jH) (o0 : Nat) (o1 : Nat) (v2 : Int) (v3 : Int) : Option (Int × jH) := jloop (fun s : (Int × jH) => Pe_roomFor_B7 s.2 o0 o1 v2 s.1) (v3, h)
set_option maxRecDepth 20000 in
theorem t_Pe_roomFor_B7 {T : jT} {xs : List Int} {d : Nat} {y : jV × jS} (hd : 3 ≤ d) {h : jH}  {o0 : Nat} {o1 : Nat} {v2 : Int} {v3 : Int} {out : ((Int × jH) ⊕ (Int × jH))} (ho0 : isX5 T o0) (ho1 : isX9 T o1) (H : Pe_roomFor_B7 h o0 o1 v2 v3 = some out) (HY : yk_Pe_roomFor_L7 T xs d y o0 o1 v2 out) : jEv xs d (86, 7, [(2, Int.ofNat o0), (2, Int.ofNat o1), (0, v2), (0, v3)], []) (T, h) y := by
  unfold Pe_roomFor_B7 at H
  refine jEv.blk [(.iload_n 3, 1, []), (.sipush 512, 3, [])] (by decide +kernel) (pc' := 11) (ls' := [(2, Int.ofNat o0), (2, Int.ofNat o1), (0, v2), (0, v3)]) (st' := [(0, 512), (0, v3)]) rfl ?_
  refine jEv.ic_ge (t := 45) (show jfI 86 11 (.if_icmp .ge 34) 3 [] = true by decide +kernel) rfl H (fun c2 H => ?_) (fun c2 H => ?_)
  · refine jEv.blk [(.aload_n 0, 1, []), (.aload_n 1, 1, []), (.iload_n 2, 1, [])] (by decide +kernel) (pc' := 17) (ls' := [(2, Int.ofNat o0), (2, Int.ofNat o1), (0, v2), (0, v3)]) (st' := [(0, v2), (2, Int.ofNat o1), (2, Int.ofNat o0)]) rfl ?_
    refine jbind H (fun b3 Hb3 H => ?_)
    refine jEv.calV (st' := [(0, b3.1)]) (show jfI 86 17 (.invokevirtual 43) 3 [1, 80, 2, 5185] = true by decide +kernel) rfl (Or.inl rfl) rfl (Nat.le_of_ble_eq_true rfl) (by decide +kernel) (by decide) (isX5_L ho0) ((t_Pe_goesTo (T := T) (xs := xs) ho0 ho1 Hb3).mono (jKle 3 hd)) rfl ?_
    refine jEv.if_eq (t := 45) (show jfI 86 20 (.ifCond .eq 25) 3 [] = true by decide +kernel) rfl H (fun c4 H => ?_) (fun c4 H => ?_)
    · refine jmapr H HY (fun out H (HY : ykI T y out) => ?_)
      refine jEv.blk [(.iload_n 3, 1, [])] (by decide +kernel) (pc' := 46) (ls' := [(2, Int.ofNat o0), (2, Int.ofNat o1), (0, v2), (0, v3)]) (st' := [(0, v3)]) rfl ?_
      exact jEv.retI (show jfI 86 46 (.ireturn) 1 [] = true by decide +kernel) (by decide +kernel) (by cases H; exact HY)
    · refine jEv.blk [(.aload_n 0, 1, []), (.aload_n 1, 1, [])] (by decide +kernel) (pc' := 25) (ls' := [(2, Int.ofNat o0), (2, Int.ofNat o1), (0, v2), (0, v3)]) (st' := [(2, Int.ofNat o1), (2, Int.ofNat o0)]) rfl ?_
      refine jEv.gfR (o' := (o1 + 1)) (show jfI 86 25 (.getfield 47) 3 [9, 1, 5, 0, 2066] = true by decide +kernel) (isX9_L ho1) (by decide) (isX9_r1 ho1) ?_
      refine jEv.blk [(.aload_n 0, 1, [])] (by decide +kernel) (pc' := 29) (ls' := [(2, Int.ofNat o0), (2, Int.ofNat o1), (0, v2), (0, v3)]) (st' := [(2, Int.ofNat o0), (2, Int.ofNat (o1 + 1)), (2, Int.ofNat o0)]) rfl ?_
      refine jEv.gfI (show jfI 86 29 (.getfield 23) 3 [5, 1, 0, 0, 2139] = true by decide +kernel) (isX5_L ho0) (by decide) ?_
      refine jEv.blk [(.iload_n 2, 1, [])] (by decide +kernel) (pc' := 33) (ls' := [(2, Int.ofNat o0), (2, Int.ofNat o1), (0, v2), (0, v3)]) (st' := [(0, v2), (0, (b3.2 o0 1)), (2, Int.ofNat (o1 + 1)), (2, Int.ofNat o0)]) rfl ?_
      refine jbind H (fun b5 Hb5 H => ?_)
      refine jEv.calV (st' := [(0, b5), (2, Int.ofNat o0)]) (show jfI 86 33 (.invokevirtual 51) 3 [1, 5, 2, 5189] = true by decide +kernel) rfl (Or.inl rfl) rfl (Nat.le_of_ble_eq_true rfl) (by decide +kernel) (by decide) (isX0_L (isX9_s1 ho1)) ((t_Di_behindRecord (T := T) (xs := xs) (isX9_s1 ho1) Hb5).mono (jKle 2 hd)) rfl ?_
      refine jEv.pfI (show jfI 86 36 (.putfield 23) 3 [5, 1, 0, 0, 2139] = true by decide +kernel) (isX5_L ho0) (by decide) ?_
      refine jEv.blk [(.iinc 3 1, 3, [])] (by decide +kernel) (pc' := 42) (ls' := [(2, Int.ofNat o0), (2, Int.ofNat o1), (0, v2), (0, (wr (v3 + 1)))]) (st' := []) rfl ?_
      refine jEv.goto (t := 7) (show jfI 86 42 (.goto (-35)) 3 [] = true by decide +kernel) rfl ?_
      exact (by cases H; exact HY)
  · refine jmapr H HY (fun out H (HY : ykI T y out) => ?_)
    refine jEv.blk [(.iload_n 3, 1, [])] (by decide +kernel) (pc' := 46) (ls' := [(2, Int.ofNat o0), (2, Int.ofNat o1), (0, v2), (0, v3)]) (st' := [(0, v3)]) rfl ?_
    exact jEv.retI (show jfI 86 46 (.ireturn) 1 [] = true by decide +kernel) (by decide +kernel) (by cases H; exact HY)
theorem t_Pe_roomFor_L7 {T : jT} {xs : List Int} {d : Nat} {y : jV × jS} (hd : 3 ≤ d) {h : jH}  {o0 : Nat} {o1 : Nat} {v2 : Int} {v3 : Int} {out : (Int × jH)} (ho0 : isX5 T o0) (ho1 : isX9 T o1) (H : Pe_roomFor_L7 h o0 o1 v2 v3 = some out) (HY : ykI T y out) : jEv xs d (86, 7, [(2, Int.ofNat o0), (2, Int.ofNat o1), (0, v2), (0, v3)], []) (T, h) y :=
  jloop_sound (G := fun s : (Int × jH) => jEv xs d (86, 7, [(2, Int.ofNat o0), (2, Int.ofNat o1), (0, v2), (0, s.1)], []) (T, s.2) y) (K := yk_Pe_roomFor_L7 T xs d y o0 o1 v2) (fun s out H HY => t_Pe_roomFor_B7 hd ho0 ho1 H HY) (fun s' hg => hg) (s := (v3, h)) H HY
set_option maxRecDepth 20000 in
noncomputable def Pe_roomFor  (h : jH) (o0 : Nat) (o1 : Nat) (v2 : Int) : Option (Int × jH) := Option.bind (Pe_start h o0 o1) (fun b1 => Pe_roomFor_L7 b1 o0 o1 v2 0)
set_option maxRecDepth 20000 in
theorem t_Pe_roomFor {T : jT} {xs : List Int} {h : jH}  {o0 : Nat} {o1 : Nat} {v2 : Int} {out : (Int × jH)} (ho0 : isX5 T o0) (ho1 : isX9 T o1) (H : Pe_roomFor h o0 o1 v2 = some out) : jEm xs 4 86 [(2, Int.ofNat o0), (2, Int.ofNat o1), (0, v2)] (T, h) ((0, out.1), (T, out.2)) := by
  have hd : 3 ≤ 3 := Nat.le_refl _
  obtain ⟨y, ey⟩ : ∃ y : jV × jS, y = ((0, out.1), (T, out.2)) := ⟨_, rfl⟩
  rw [← ey]
  have HY : ykI T y out := ey
  refine jEm.ent (n := 4) (by decide +kernel) (Nat.le_of_ble_eq_true rfl) ?_
  show jEv xs 3 (86, 0, [(2, Int.ofNat o0), (2, Int.ofNat o1), (0, v2), (3, 0)], []) (T, h) y
  unfold Pe_roomFor at H
  refine jEv.blk [(.aload_n 0, 1, []), (.aload_n 1, 1, [])] (by decide +kernel) (pc' := 2) (ls' := [(2, Int.ofNat o0), (2, Int.ofNat o1), (0, v2), (3, 0)]) (st' := [(2, Int.ofNat o1), (2, Int.ofNat o0)]) rfl ?_
  refine jbind H (fun b1 Hb1 H => ?_)
  refine jEv.calV (st' := []) (show jfI 86 2 (.invokevirtual 39) 3 [1, 79, 1, 5180] = true by decide +kernel) rfl (Or.inl rfl) rfl (Nat.le_of_ble_eq_true rfl) (by decide +kernel) (by decide) (isX5_L ho0) ((t_Pe_start (T := T) (xs := xs) ho0 ho1 Hb1).mono (jKle 1 hd)) rfl ?_
  refine jEv.blk [(.iconst 0, 1, []), (.istore_n 3, 1, [])] (by decide +kernel) (pc' := 7) (ls' := [(2, Int.ofNat o0), (2, Int.ofNat o1), (0, v2), (0, 0)]) (st' := []) rfl ?_
  exact t_Pe_roomFor_L7 (T := T) (xs := xs) (y := y) hd ho0 ho1 H HY
set_option maxRecDepth 20000 in
noncomputable def Qu_clear  (h : jH) (o0 : Nat) (v1 : Int) : Option jH := some (jup (jup (jup h o0 4 v1) o0 5 0) o0 6 0)
set_option maxRecDepth 20000 in
theorem t_Qu_clear {T : jT} {xs : List Int} {h : jH}  {o0 : Nat} {v1 : Int} {out : jH} (ho0 : isX7 T o0) (H : Qu_clear h o0 v1 = some out) : jEm xs 1 91 [(2, Int.ofNat o0), (0, v1)] (T, h) ((3, 0), (T, out)) := by
  have hd : 0 ≤ 0 := Nat.le_refl _
  obtain ⟨y, ey⟩ : ∃ y : jV × jS, y = ((3, 0), (T, out)) := ⟨_, rfl⟩
  rw [← ey]
  have HY : ykV T y out := ey
  refine jEm.ent (n := 2) (by decide +kernel) (Nat.le_of_ble_eq_true rfl) ?_
  show jEv xs 0 (91, 0, [(2, Int.ofNat o0), (0, v1)], []) (T, h) y
  unfold Qu_clear at H
  refine jEv.blk [(.aload_n 0, 1, []), (.iload_n 1, 1, [])] (by decide +kernel) (pc' := 2) (ls' := [(2, Int.ofNat o0), (0, v1)]) (st' := [(0, v1), (2, Int.ofNat o0)]) rfl ?_
  refine jEv.pfI (show jfI 91 2 (.putfield 24) 3 [7, 4, 0, 0, 2006] = true by decide +kernel) (isX7_L ho0) (by decide) ?_
  refine jEv.blk [(.aload_n 0, 1, []), (.iconst 0, 1, [])] (by decide +kernel) (pc' := 7) (ls' := [(2, Int.ofNat o0), (0, v1)]) (st' := [(0, 0), (2, Int.ofNat o0)]) rfl ?_
  refine jEv.pfI (show jfI 91 7 (.putfield 28) 3 [7, 5, 0, 0, 2010] = true by decide +kernel) (isX7_L ho0) (by decide) ?_
  refine jEv.blk [(.aload_n 0, 1, []), (.iconst 0, 1, [])] (by decide +kernel) (pc' := 12) (ls' := [(2, Int.ofNat o0), (0, v1)]) (st' := [(0, 0), (2, Int.ofNat o0)]) rfl ?_
  refine jEv.pfI (show jfI 91 12 (.putfield 31) 3 [7, 6, 0, 0, 2014] = true by decide +kernel) (isX7_L ho0) (by decide) ?_
  exact jEv.retV (show jfI 91 15 (.return_) 1 [] = true by decide +kernel) (by decide +kernel) (by cases H; exact HY)
set_option maxRecDepth 20000 in
noncomputable def Qu_waitingCount  (h : jH) (o0 : Nat) : Option Int := some (wr ((h o0 6) - (h o0 5)))
set_option maxRecDepth 20000 in
theorem t_Qu_waitingCount {T : jT} {xs : List Int} {h : jH}  {o0 : Nat} {out : Int} (ho0 : isX7 T o0) (H : Qu_waitingCount h o0 = some out) : jEm xs 1 92 [(2, Int.ofNat o0)] (T, h) ((0, out), (T, h)) := by
  have hd : 0 ≤ 0 := Nat.le_refl _
  obtain ⟨y, ey⟩ : ∃ y : jV × jS, y = ((0, out), (T, h)) := ⟨_, rfl⟩
  rw [← ey]
  have HY : ykIp T h y out := ey
  refine jEm.ent (n := 1) (by decide +kernel) (Nat.le_of_ble_eq_true rfl) ?_
  show jEv xs 0 (92, 0, [(2, Int.ofNat o0)], []) (T, h) y
  unfold Qu_waitingCount at H
  refine jEv.blk [(.aload_n 0, 1, [])] (by decide +kernel) (pc' := 1) (ls' := [(2, Int.ofNat o0)]) (st' := [(2, Int.ofNat o0)]) rfl ?_
  refine jEv.gfI (show jfI 92 1 (.getfield 31) 3 [7, 6, 0, 0, 2014] = true by decide +kernel) (isX7_L ho0) (by decide) ?_
  refine jEv.blk [(.aload_n 0, 1, [])] (by decide +kernel) (pc' := 5) (ls' := [(2, Int.ofNat o0)]) (st' := [(2, Int.ofNat o0), (0, (h o0 6))]) rfl ?_
  refine jEv.gfI (show jfI 92 5 (.getfield 28) 3 [7, 5, 0, 0, 2010] = true by decide +kernel) (isX7_L ho0) (by decide) ?_
  refine jEv.blk [(.isub, 1, [])] (by decide +kernel) (pc' := 9) (ls' := [(2, Int.ofNat o0)]) (st' := [(0, (wr ((h o0 6) - (h o0 5))))]) rfl ?_
  exact jEv.retI (show jfI 92 9 (.ireturn) 1 [] = true by decide +kernel) (by decide +kernel) (by cases H; exact HY)
set_option maxRecDepth 20000 in
noncomputable def Qu_add  (h : jH) (o0 : Nat) (v1 : Int) (v2 : Int) (v3 : Int) (v4 : Int) : Option jH := Option.bind (G_put h (o0 + 1) 32 (h o0 6) v1) (fun b1 => Option.bind (G_put b1 (o0 + 2) 32 (b1 o0 6) v2) (fun b2 => Option.bind (G_put b2 (o0 + 3) 32 (b2 o0 6) v3) (fun b3 => Option.bind (G_put b3 (o0 + 4) 32 (b3 o0 6) v4) (fun b4 => some (jup b4 o0 6 (wr ((b4 o0 6) + 1)))))))
set_option maxRecDepth 20000 in
theorem t_Qu_add {T : jT} {xs : List Int} {h : jH}  {o0 : Nat} {v1 : Int} {v2 : Int} {v3 : Int} {v4 : Int} {out : jH} (ho0 : isX7 T o0) (H : Qu_add h o0 v1 v2 v3 v4 = some out) : jEm xs 2 93 [(2, Int.ofNat o0), (0, v1), (0, v2), (0, v3), (0, v4)] (T, h) ((3, 0), (T, out)) := by
  have hd : 1 ≤ 1 := Nat.le_refl _
  obtain ⟨y, ey⟩ : ∃ y : jV × jS, y = ((3, 0), (T, out)) := ⟨_, rfl⟩
  rw [← ey]
  have HY : ykV T y out := ey
  refine jEm.ent (n := 5) (by decide +kernel) (Nat.le_of_ble_eq_true rfl) ?_
  show jEv xs 1 (93, 0, [(2, Int.ofNat o0), (0, v1), (0, v2), (0, v3), (0, v4)], []) (T, h) y
  unfold Qu_add at H
  refine jEv.blk [(.aload_n 0, 1, [])] (by decide +kernel) (pc' := 1) (ls' := [(2, Int.ofNat o0), (0, v1), (0, v2), (0, v3), (0, v4)]) (st' := [(2, Int.ofNat o0)]) rfl ?_
  refine jEv.gfR (o' := (o0 + 1)) (show jfI 93 1 (.getfield 9) 3 [7, 0, 5, 0, 1235] = true by decide +kernel) (isX7_L ho0) (by decide) (isX7_r0 ho0) ?_
  refine jEv.blk [(.aload_n 0, 1, [])] (by decide +kernel) (pc' := 5) (ls' := [(2, Int.ofNat o0), (0, v1), (0, v2), (0, v3), (0, v4)]) (st' := [(2, Int.ofNat o0), (2, Int.ofNat (o0 + 1))]) rfl ?_
  refine jEv.gfI (show jfI 93 5 (.getfield 31) 3 [7, 6, 0, 0, 2014] = true by decide +kernel) (isX7_L ho0) (by decide) ?_
  refine jEv.blk [(.iload_n 1, 1, [])] (by decide +kernel) (pc' := 9) (ls' := [(2, Int.ofNat o0), (0, v1), (0, v2), (0, v3), (0, v4)]) (st' := [(0, v1), (0, (h o0 6)), (2, Int.ofNat (o0 + 1))]) rfl ?_
  refine jbind H (fun b1 Hb1 H => ?_)
  refine jEv.calS (st' := []) (show jfI 93 9 (.invokestatic 38) 3 [4, 138, 3, 4136] = true by decide +kernel) rfl (Or.inr rfl) rfl (Nat.le_of_ble_eq_true rfl) ((t_G_put (T := T) (xs := xs) (isX7_a0 ho0) Hb1).mono (jKle 1 hd)) rfl ?_
  refine jEv.blk [(.aload_n 0, 1, [])] (by decide +kernel) (pc' := 13) (ls' := [(2, Int.ofNat o0), (0, v1), (0, v2), (0, v3), (0, v4)]) (st' := [(2, Int.ofNat o0)]) rfl ?_
  refine jEv.gfR (o' := (o0 + 2)) (show jfI 93 13 (.getfield 15) 3 [7, 1, 5, 0, 1239] = true by decide +kernel) (isX7_L ho0) (by decide) (isX7_r1 ho0) ?_
  refine jEv.blk [(.aload_n 0, 1, [])] (by decide +kernel) (pc' := 17) (ls' := [(2, Int.ofNat o0), (0, v1), (0, v2), (0, v3), (0, v4)]) (st' := [(2, Int.ofNat o0), (2, Int.ofNat (o0 + 2))]) rfl ?_
  refine jEv.gfI (show jfI 93 17 (.getfield 31) 3 [7, 6, 0, 0, 2014] = true by decide +kernel) (isX7_L ho0) (by decide) ?_
  refine jEv.blk [(.iload_n 2, 1, [])] (by decide +kernel) (pc' := 21) (ls' := [(2, Int.ofNat o0), (0, v1), (0, v2), (0, v3), (0, v4)]) (st' := [(0, v2), (0, (b1 o0 6)), (2, Int.ofNat (o0 + 2))]) rfl ?_
  refine jbind H (fun b2 Hb2 H => ?_)
  refine jEv.calS (st' := []) (show jfI 93 21 (.invokestatic 38) 3 [4, 138, 3, 4136] = true by decide +kernel) rfl (Or.inr rfl) rfl (Nat.le_of_ble_eq_true rfl) ((t_G_put (T := T) (xs := xs) (isX7_a1 ho0) Hb2).mono (jKle 1 hd)) rfl ?_
  refine jEv.blk [(.aload_n 0, 1, [])] (by decide +kernel) (pc' := 25) (ls' := [(2, Int.ofNat o0), (0, v1), (0, v2), (0, v3), (0, v4)]) (st' := [(2, Int.ofNat o0)]) rfl ?_
  refine jEv.gfR (o' := (o0 + 3)) (show jfI 93 25 (.getfield 18) 3 [7, 2, 5, 0, 2003] = true by decide +kernel) (isX7_L ho0) (by decide) (isX7_r2 ho0) ?_
  refine jEv.blk [(.aload_n 0, 1, [])] (by decide +kernel) (pc' := 29) (ls' := [(2, Int.ofNat o0), (0, v1), (0, v2), (0, v3), (0, v4)]) (st' := [(2, Int.ofNat o0), (2, Int.ofNat (o0 + 3))]) rfl ?_
  refine jEv.gfI (show jfI 93 29 (.getfield 31) 3 [7, 6, 0, 0, 2014] = true by decide +kernel) (isX7_L ho0) (by decide) ?_
  refine jEv.blk [(.iload_n 3, 1, [])] (by decide +kernel) (pc' := 33) (ls' := [(2, Int.ofNat o0), (0, v1), (0, v2), (0, v3), (0, v4)]) (st' := [(0, v3), (0, (b2 o0 6)), (2, Int.ofNat (o0 + 3))]) rfl ?_
  refine jbind H (fun b3 Hb3 H => ?_)
  refine jEv.calS (st' := []) (show jfI 93 33 (.invokestatic 38) 3 [4, 138, 3, 4136] = true by decide +kernel) rfl (Or.inr rfl) rfl (Nat.le_of_ble_eq_true rfl) ((t_G_put (T := T) (xs := xs) (isX7_a2 ho0) Hb3).mono (jKle 1 hd)) rfl ?_
  refine jEv.blk [(.aload_n 0, 1, [])] (by decide +kernel) (pc' := 37) (ls' := [(2, Int.ofNat o0), (0, v1), (0, v2), (0, v3), (0, v4)]) (st' := [(2, Int.ofNat o0)]) rfl ?_
  refine jEv.gfR (o' := (o0 + 4)) (show jfI 93 37 (.getfield 21) 3 [7, 3, 5, 0, 2005] = true by decide +kernel) (isX7_L ho0) (by decide) (isX7_r3 ho0) ?_
  refine jEv.blk [(.aload_n 0, 1, [])] (by decide +kernel) (pc' := 41) (ls' := [(2, Int.ofNat o0), (0, v1), (0, v2), (0, v3), (0, v4)]) (st' := [(2, Int.ofNat o0), (2, Int.ofNat (o0 + 4))]) rfl ?_
  refine jEv.gfI (show jfI 93 41 (.getfield 31) 3 [7, 6, 0, 0, 2014] = true by decide +kernel) (isX7_L ho0) (by decide) ?_
  refine jEv.blk [(.iload 4, 2, [])] (by decide +kernel) (pc' := 46) (ls' := [(2, Int.ofNat o0), (0, v1), (0, v2), (0, v3), (0, v4)]) (st' := [(0, v4), (0, (b3 o0 6)), (2, Int.ofNat (o0 + 4))]) rfl ?_
  refine jbind H (fun b4 Hb4 H => ?_)
  refine jEv.calS (st' := []) (show jfI 93 46 (.invokestatic 38) 3 [4, 138, 3, 4136] = true by decide +kernel) rfl (Or.inr rfl) rfl (Nat.le_of_ble_eq_true rfl) ((t_G_put (T := T) (xs := xs) (isX7_a3 ho0) Hb4).mono (jKle 1 hd)) rfl ?_
  refine jEv.blk [(.aload_n 0, 1, []), (.dup, 1, [])] (by decide +kernel) (pc' := 51) (ls' := [(2, Int.ofNat o0), (0, v1), (0, v2), (0, v3), (0, v4)]) (st' := [(2, Int.ofNat o0), (2, Int.ofNat o0)]) rfl ?_
  refine jEv.gfI (show jfI 93 51 (.getfield 31) 3 [7, 6, 0, 0, 2014] = true by decide +kernel) (isX7_L ho0) (by decide) ?_
  refine jEv.blk [(.iconst 1, 1, []), (.iadd, 1, [])] (by decide +kernel) (pc' := 56) (ls' := [(2, Int.ofNat o0), (0, v1), (0, v2), (0, v3), (0, v4)]) (st' := [(0, (wr ((b4 o0 6) + 1))), (2, Int.ofNat o0)]) rfl ?_
  refine jEv.pfI (show jfI 93 56 (.putfield 31) 3 [7, 6, 0, 0, 2014] = true by decide +kernel) (isX7_L ho0) (by decide) ?_
  exact jEv.retV (show jfI 93 59 (.return_) 1 [] = true by decide +kernel) (by decide +kernel) (by cases H; exact HY)
set_option maxRecDepth 20000 in
noncomputable def Qu_behindLast  (h : jH) (o0 : Nat) : Option Int := some (wr ((h o0 4) + (h o0 6)))
set_option maxRecDepth 20000 in
theorem t_Qu_behindLast {T : jT} {xs : List Int} {h : jH}  {o0 : Nat} {out : Int} (ho0 : isX7 T o0) (H : Qu_behindLast h o0 = some out) : jEm xs 1 94 [(2, Int.ofNat o0)] (T, h) ((0, out), (T, h)) := by
  have hd : 0 ≤ 0 := Nat.le_refl _
  obtain ⟨y, ey⟩ : ∃ y : jV × jS, y = ((0, out), (T, h)) := ⟨_, rfl⟩
  rw [← ey]
  have HY : ykIp T h y out := ey
  refine jEm.ent (n := 1) (by decide +kernel) (Nat.le_of_ble_eq_true rfl) ?_
  show jEv xs 0 (94, 0, [(2, Int.ofNat o0)], []) (T, h) y
  unfold Qu_behindLast at H
  refine jEv.blk [(.aload_n 0, 1, [])] (by decide +kernel) (pc' := 1) (ls' := [(2, Int.ofNat o0)]) (st' := [(2, Int.ofNat o0)]) rfl ?_
  refine jEv.gfI (show jfI 94 1 (.getfield 24) 3 [7, 4, 0, 0, 2006] = true by decide +kernel) (isX7_L ho0) (by decide) ?_
  refine jEv.blk [(.aload_n 0, 1, [])] (by decide +kernel) (pc' := 5) (ls' := [(2, Int.ofNat o0)]) (st' := [(2, Int.ofNat o0), (0, (h o0 4))]) rfl ?_
  refine jEv.gfI (show jfI 94 5 (.getfield 31) 3 [7, 6, 0, 0, 2014] = true by decide +kernel) (isX7_L ho0) (by decide) ?_
  refine jEv.blk [(.iadd, 1, [])] (by decide +kernel) (pc' := 9) (ls' := [(2, Int.ofNat o0)]) (st' := [(0, (wr ((h o0 4) + (h o0 6))))]) rfl ?_
  exact jEv.retI (show jfI 94 9 (.ireturn) 1 [] = true by decide +kernel) (by decide +kernel) (by cases H; exact HY)
def yk_Qu_latestOf_L4 (T : jT) (xs : List Int) (d : Nat) (y : jV × jS) (h : jH)  (o0 : Nat) (v1 : Int) : ((Int × Int) ⊕ Int) → Prop
  | .inl (v2, v3) => jEv xs d (95, 4, [(2, Int.ofNat o0), (0, v1), (0, v2), (0, v3)], []) (T, h) y
  | .inr o => ykIp T h y o
set_option maxRecDepth 20000 in
noncomputable def Qu_latestOf_B4  (h : jH) (o0 : Nat) (v1 : Int) (v2 : Int) (v3 : Int) : Option ((Int × Int) ⊕ Int) := (if v3 < (h o0 6) then Option.bind (G_cell h (o0 + 1) 32 v3) (fun b2 => (if b2 = v1 then Option.bind (G_cell h (o0 + 2) 32 v3) (fun b4 => some (.inl (b4, (wr (v3 + 1))))) else some (.inl (v2, (wr (v3 + 1)))))) else Option.map Sum.inr (some v2))
noncomputable def Qu_latestOf_L4  (h : jH) (o0 : Nat) (v1 : Int) (v2 : Int) (v3 : Int) : Option Int := jloop (fun s : (Int × Int) => Qu_latestOf_B4 h o0 v1 s.1 s.2) (v2, v3)
set_option maxRecDepth 20000 in
theorem t_Qu_latestOf_B4 {T : jT} {xs : List Int} {d : Nat} {y : jV × jS} (hd : 1 ≤ d) {h : jH}  {o0 : Nat} {v1 : Int} {v2 : Int} {v3 : Int} {out : ((Int × Int) ⊕ Int)} (ho0 : isX7 T o0) (H : Qu_latestOf_B4 h o0 v1 v2 v3 = some out) (HY : yk_Qu_latestOf_L4 T xs d y h o0 v1 out) : jEv xs d (95, 4, [(2, Int.ofNat o0), (0, v1), (0, v2), (0, v3)], []) (T, h) y := by
  unfold Qu_latestOf_B4 at H
  refine jEv.blk [(.iload_n 3, 1, []), (.aload_n 0, 1, [])] (by decide +kernel) (pc' := 6) (ls' := [(2, Int.ofNat o0), (0, v1), (0, v2), (0, v3)]) (st' := [(2, Int.ofNat o0), (0, v3)]) rfl ?_
  refine jEv.gfI (show jfI 95 6 (.getfield 31) 3 [7, 6, 0, 0, 2014] = true by decide +kernel) (isX7_L ho0) (by decide) ?_
  refine jEv.ic_ge (t := 39) (show jfI 95 9 (.if_icmp .ge 30) 3 [] = true by decide +kernel) rfl H (fun c1 H => ?_) (fun c1 H => ?_)
  · refine jEv.blk [(.aload_n 0, 1, [])] (by decide +kernel) (pc' := 13) (ls' := [(2, Int.ofNat o0), (0, v1), (0, v2), (0, v3)]) (st' := [(2, Int.ofNat o0)]) rfl ?_
    refine jEv.gfR (o' := (o0 + 1)) (show jfI 95 13 (.getfield 9) 3 [7, 0, 5, 0, 1235] = true by decide +kernel) (isX7_L ho0) (by decide) (isX7_r0 ho0) ?_
    refine jEv.blk [(.iload_n 3, 1, [])] (by decide +kernel) (pc' := 17) (ls' := [(2, Int.ofNat o0), (0, v1), (0, v2), (0, v3)]) (st' := [(0, v3), (2, Int.ofNat (o0 + 1))]) rfl ?_
    refine jbind H (fun b2 Hb2 H => ?_)
    refine jEv.calS (st' := [(0, b2)]) (show jfI 95 17 (.invokestatic 42) 3 [4, 137, 2, 5020] = true by decide +kernel) rfl (Or.inr rfl) rfl (Nat.le_of_ble_eq_true rfl) ((t_G_cell (T := T) (xs := xs) (isX7_a0 ho0) Hb2).mono (jKle 1 hd)) rfl ?_
    refine jEv.blk [(.iload_n 1, 1, [])] (by decide +kernel) (pc' := 21) (ls' := [(2, Int.ofNat o0), (0, v1), (0, v2), (0, v3)]) (st' := [(0, v1), (0, b2)]) rfl ?_
    refine jEv.ic_ne (t := 33) (show jfI 95 21 (.if_icmp .ne 12) 3 [] = true by decide +kernel) rfl H (fun c3 H => ?_) (fun c3 H => ?_)
    · refine jEv.blk [(.aload_n 0, 1, [])] (by decide +kernel) (pc' := 25) (ls' := [(2, Int.ofNat o0), (0, v1), (0, v2), (0, v3)]) (st' := [(2, Int.ofNat o0)]) rfl ?_
      refine jEv.gfR (o' := (o0 + 2)) (show jfI 95 25 (.getfield 15) 3 [7, 1, 5, 0, 1239] = true by decide +kernel) (isX7_L ho0) (by decide) (isX7_r1 ho0) ?_
      refine jEv.blk [(.iload_n 3, 1, [])] (by decide +kernel) (pc' := 29) (ls' := [(2, Int.ofNat o0), (0, v1), (0, v2), (0, v3)]) (st' := [(0, v3), (2, Int.ofNat (o0 + 2))]) rfl ?_
      refine jbind H (fun b4 Hb4 H => ?_)
      refine jEv.calS (st' := [(0, b4)]) (show jfI 95 29 (.invokestatic 42) 3 [4, 137, 2, 5020] = true by decide +kernel) rfl (Or.inr rfl) rfl (Nat.le_of_ble_eq_true rfl) ((t_G_cell (T := T) (xs := xs) (isX7_a1 ho0) Hb4).mono (jKle 1 hd)) rfl ?_
      refine jEv.blk [(.istore_n 2, 1, [])] (by decide +kernel) (pc' := 33) (ls' := [(2, Int.ofNat o0), (0, v1), (0, b4), (0, v3)]) (st' := []) rfl ?_
      refine jEv.blk [(.iinc 3 1, 3, [])] (by decide +kernel) (pc' := 36) (ls' := [(2, Int.ofNat o0), (0, v1), (0, b4), (0, (wr (v3 + 1)))]) (st' := []) rfl ?_
      refine jEv.goto (t := 4) (show jfI 95 36 (.goto (-32)) 3 [] = true by decide +kernel) rfl ?_
      exact (by cases H; exact HY)
    · refine jEv.blk [(.iinc 3 1, 3, [])] (by decide +kernel) (pc' := 36) (ls' := [(2, Int.ofNat o0), (0, v1), (0, v2), (0, (wr (v3 + 1)))]) (st' := []) rfl ?_
      refine jEv.goto (t := 4) (show jfI 95 36 (.goto (-32)) 3 [] = true by decide +kernel) rfl ?_
      exact (by cases H; exact HY)
  · refine jmapr H HY (fun out H (HY : ykIp T h y out) => ?_)
    refine jEv.blk [(.iload_n 2, 1, [])] (by decide +kernel) (pc' := 40) (ls' := [(2, Int.ofNat o0), (0, v1), (0, v2), (0, v3)]) (st' := [(0, v2)]) rfl ?_
    exact jEv.retI (show jfI 95 40 (.ireturn) 1 [] = true by decide +kernel) (by decide +kernel) (by cases H; exact HY)
theorem t_Qu_latestOf_L4 {T : jT} {xs : List Int} {d : Nat} {y : jV × jS} (hd : 1 ≤ d) {h : jH}  {o0 : Nat} {v1 : Int} {v2 : Int} {v3 : Int} {out : Int} (ho0 : isX7 T o0) (H : Qu_latestOf_L4 h o0 v1 v2 v3 = some out) (HY : ykIp T h y out) : jEv xs d (95, 4, [(2, Int.ofNat o0), (0, v1), (0, v2), (0, v3)], []) (T, h) y :=
  jloop_sound (G := fun s : (Int × Int) => jEv xs d (95, 4, [(2, Int.ofNat o0), (0, v1), (0, s.1), (0, s.2)], []) (T, h) y) (K := yk_Qu_latestOf_L4 T xs d y h o0 v1) (fun s out H HY => t_Qu_latestOf_B4 hd ho0 H HY) (fun s' hg => hg) (s := (v2, v3)) H HY
set_option maxRecDepth 20000 in
noncomputable def Qu_latestOf  (h : jH) (o0 : Nat) (v1 : Int) : Option Int := Qu_latestOf_L4 h o0 v1 (-1) 0
set_option maxRecDepth 20000 in
theorem t_Qu_latestOf {T : jT} {xs : List Int} {h : jH}  {o0 : Nat} {v1 : Int} {out : Int} (ho0 : isX7 T o0) (H : Qu_latestOf h o0 v1 = some out) : jEm xs 2 95 [(2, Int.ofNat o0), (0, v1)] (T, h) ((0, out), (T, h)) := by
  have hd : 1 ≤ 1 := Nat.le_refl _
  obtain ⟨y, ey⟩ : ∃ y : jV × jS, y = ((0, out), (T, h)) := ⟨_, rfl⟩
  rw [← ey]
  have HY : ykIp T h y out := ey
  refine jEm.ent (n := 4) (by decide +kernel) (Nat.le_of_ble_eq_true rfl) ?_
  show jEv xs 1 (95, 0, [(2, Int.ofNat o0), (0, v1), (3, 0), (3, 0)], []) (T, h) y
  unfold Qu_latestOf at H
  refine jEv.blk [(.iconst (-1), 1, []), (.istore_n 2, 1, []), (.iconst 0, 1, []), (.istore_n 3, 1, [])] (by decide +kernel) (pc' := 4) (ls' := [(2, Int.ofNat o0), (0, v1), (0, (-1)), (0, 0)]) (st' := []) rfl ?_
  exact t_Qu_latestOf_L4 (T := T) (xs := xs) (y := y) hd ho0 H HY
set_option maxRecDepth 20000 in
noncomputable def Qu_copyFrom  (h : jH) (o0 : Nat) (o1 : Nat) : Option jH := Option.bind (G_copy (jup (jup (jup h o0 4 (h o1 4)) o0 5 ((jup h o0 4 (h o1 4)) o1 5)) o0 6 ((jup (jup h o0 4 (h o1 4)) o0 5 ((jup h o0 4 (h o1 4)) o1 5)) o1 6)) (o1 + 1) 32 (o0 + 1) 32) (fun b1 => Option.bind (G_copy b1 (o1 + 2) 32 (o0 + 2) 32) (fun b2 => Option.bind (G_copy b2 (o1 + 3) 32 (o0 + 3) 32) (fun b3 => Option.bind (G_copy b3 (o1 + 4) 32 (o0 + 4) 32) (fun b4 => some b4))))
set_option maxRecDepth 20000 in
theorem t_Qu_copyFrom {T : jT} {xs : List Int} {h : jH}  {o0 : Nat} {o1 : Nat} {out : jH} (ho0 : isX7 T o0) (ho1 : isX7 T o1) (H : Qu_copyFrom h o0 o1 = some out) : jEm xs 3 96 [(2, Int.ofNat o0), (2, Int.ofNat o1)] (T, h) ((3, 0), (T, out)) := by
  have hd : 2 ≤ 2 := Nat.le_refl _
  obtain ⟨y, ey⟩ : ∃ y : jV × jS, y = ((3, 0), (T, out)) := ⟨_, rfl⟩
  rw [← ey]
  have HY : ykV T y out := ey
  refine jEm.ent (n := 2) (by decide +kernel) (Nat.le_of_ble_eq_true rfl) ?_
  show jEv xs 2 (96, 0, [(2, Int.ofNat o0), (2, Int.ofNat o1)], []) (T, h) y
  unfold Qu_copyFrom at H
  refine jEv.blk [(.aload_n 0, 1, []), (.aload_n 1, 1, [])] (by decide +kernel) (pc' := 2) (ls' := [(2, Int.ofNat o0), (2, Int.ofNat o1)]) (st' := [(2, Int.ofNat o1), (2, Int.ofNat o0)]) rfl ?_
  refine jEv.gfI (show jfI 96 2 (.getfield 24) 3 [7, 4, 0, 0, 2006] = true by decide +kernel) (isX7_L ho1) (by decide) ?_
  refine jEv.pfI (show jfI 96 5 (.putfield 24) 3 [7, 4, 0, 0, 2006] = true by decide +kernel) (isX7_L ho0) (by decide) ?_
  refine jEv.blk [(.aload_n 0, 1, []), (.aload_n 1, 1, [])] (by decide +kernel) (pc' := 10) (ls' := [(2, Int.ofNat o0), (2, Int.ofNat o1)]) (st' := [(2, Int.ofNat o1), (2, Int.ofNat o0)]) rfl ?_
  refine jEv.gfI (show jfI 96 10 (.getfield 28) 3 [7, 5, 0, 0, 2010] = true by decide +kernel) (isX7_L ho1) (by decide) ?_
  refine jEv.pfI (show jfI 96 13 (.putfield 28) 3 [7, 5, 0, 0, 2010] = true by decide +kernel) (isX7_L ho0) (by decide) ?_
  refine jEv.blk [(.aload_n 0, 1, []), (.aload_n 1, 1, [])] (by decide +kernel) (pc' := 18) (ls' := [(2, Int.ofNat o0), (2, Int.ofNat o1)]) (st' := [(2, Int.ofNat o1), (2, Int.ofNat o0)]) rfl ?_
  refine jEv.gfI (show jfI 96 18 (.getfield 31) 3 [7, 6, 0, 0, 2014] = true by decide +kernel) (isX7_L ho1) (by decide) ?_
  refine jEv.pfI (show jfI 96 21 (.putfield 31) 3 [7, 6, 0, 0, 2014] = true by decide +kernel) (isX7_L ho0) (by decide) ?_
  refine jEv.blk [(.aload_n 1, 1, [])] (by decide +kernel) (pc' := 25) (ls' := [(2, Int.ofNat o0), (2, Int.ofNat o1)]) (st' := [(2, Int.ofNat o1)]) rfl ?_
  refine jEv.gfR (o' := (o1 + 1)) (show jfI 96 25 (.getfield 9) 3 [7, 0, 5, 0, 1235] = true by decide +kernel) (isX7_L ho1) (by decide) (isX7_r0 ho1) ?_
  refine jEv.blk [(.aload_n 0, 1, [])] (by decide +kernel) (pc' := 29) (ls' := [(2, Int.ofNat o0), (2, Int.ofNat o1)]) (st' := [(2, Int.ofNat o0), (2, Int.ofNat (o1 + 1))]) rfl ?_
  refine jEv.gfR (o' := (o0 + 1)) (show jfI 96 29 (.getfield 9) 3 [7, 0, 5, 0, 1235] = true by decide +kernel) (isX7_L ho0) (by decide) (isX7_r0 ho0) ?_
  refine jbind H (fun b1 Hb1 H => ?_)
  refine jEv.calS (st' := []) (show jfI 96 32 (.invokestatic 34) 3 [4, 159, 2, 5071] = true by decide +kernel) rfl (Or.inr rfl) rfl (Nat.le_of_ble_eq_true rfl) ((t_G_copy (T := T) (xs := xs) (isX7_a0 ho1) (isX7_a0 ho0) Hb1).mono (jKle 2 hd)) rfl ?_
  refine jEv.blk [(.aload_n 1, 1, [])] (by decide +kernel) (pc' := 36) (ls' := [(2, Int.ofNat o0), (2, Int.ofNat o1)]) (st' := [(2, Int.ofNat o1)]) rfl ?_
  refine jEv.gfR (o' := (o1 + 2)) (show jfI 96 36 (.getfield 15) 3 [7, 1, 5, 0, 1239] = true by decide +kernel) (isX7_L ho1) (by decide) (isX7_r1 ho1) ?_
  refine jEv.blk [(.aload_n 0, 1, [])] (by decide +kernel) (pc' := 40) (ls' := [(2, Int.ofNat o0), (2, Int.ofNat o1)]) (st' := [(2, Int.ofNat o0), (2, Int.ofNat (o1 + 2))]) rfl ?_
  refine jEv.gfR (o' := (o0 + 2)) (show jfI 96 40 (.getfield 15) 3 [7, 1, 5, 0, 1239] = true by decide +kernel) (isX7_L ho0) (by decide) (isX7_r1 ho0) ?_
  refine jbind H (fun b2 Hb2 H => ?_)
  refine jEv.calS (st' := []) (show jfI 96 43 (.invokestatic 34) 3 [4, 159, 2, 5071] = true by decide +kernel) rfl (Or.inr rfl) rfl (Nat.le_of_ble_eq_true rfl) ((t_G_copy (T := T) (xs := xs) (isX7_a1 ho1) (isX7_a1 ho0) Hb2).mono (jKle 2 hd)) rfl ?_
  refine jEv.blk [(.aload_n 1, 1, [])] (by decide +kernel) (pc' := 47) (ls' := [(2, Int.ofNat o0), (2, Int.ofNat o1)]) (st' := [(2, Int.ofNat o1)]) rfl ?_
  refine jEv.gfR (o' := (o1 + 3)) (show jfI 96 47 (.getfield 18) 3 [7, 2, 5, 0, 2003] = true by decide +kernel) (isX7_L ho1) (by decide) (isX7_r2 ho1) ?_
  refine jEv.blk [(.aload_n 0, 1, [])] (by decide +kernel) (pc' := 51) (ls' := [(2, Int.ofNat o0), (2, Int.ofNat o1)]) (st' := [(2, Int.ofNat o0), (2, Int.ofNat (o1 + 3))]) rfl ?_
  refine jEv.gfR (o' := (o0 + 3)) (show jfI 96 51 (.getfield 18) 3 [7, 2, 5, 0, 2003] = true by decide +kernel) (isX7_L ho0) (by decide) (isX7_r2 ho0) ?_
  refine jbind H (fun b3 Hb3 H => ?_)
  refine jEv.calS (st' := []) (show jfI 96 54 (.invokestatic 34) 3 [4, 159, 2, 5071] = true by decide +kernel) rfl (Or.inr rfl) rfl (Nat.le_of_ble_eq_true rfl) ((t_G_copy (T := T) (xs := xs) (isX7_a2 ho1) (isX7_a2 ho0) Hb3).mono (jKle 2 hd)) rfl ?_
  refine jEv.blk [(.aload_n 1, 1, [])] (by decide +kernel) (pc' := 58) (ls' := [(2, Int.ofNat o0), (2, Int.ofNat o1)]) (st' := [(2, Int.ofNat o1)]) rfl ?_
  refine jEv.gfR (o' := (o1 + 4)) (show jfI 96 58 (.getfield 21) 3 [7, 3, 5, 0, 2005] = true by decide +kernel) (isX7_L ho1) (by decide) (isX7_r3 ho1) ?_
  refine jEv.blk [(.aload_n 0, 1, [])] (by decide +kernel) (pc' := 62) (ls' := [(2, Int.ofNat o0), (2, Int.ofNat o1)]) (st' := [(2, Int.ofNat o0), (2, Int.ofNat (o1 + 4))]) rfl ?_
  refine jEv.gfR (o' := (o0 + 4)) (show jfI 96 62 (.getfield 21) 3 [7, 3, 5, 0, 2005] = true by decide +kernel) (isX7_L ho0) (by decide) (isX7_r3 ho0) ?_
  refine jbind H (fun b4 Hb4 H => ?_)
  refine jEv.calS (st' := []) (show jfI 96 65 (.invokestatic 34) 3 [4, 159, 2, 5071] = true by decide +kernel) rfl (Or.inr rfl) rfl (Nat.le_of_ble_eq_true rfl) ((t_G_copy (T := T) (xs := xs) (isX7_a3 ho1) (isX7_a3 ho0) Hb4).mono (jKle 2 hd)) rfl ?_
  exact jEv.retV (show jfI 96 68 (.return_) 1 [] = true by decide +kernel) (by decide +kernel) (by cases H; exact HY)
def yk_Qu_drop_L5 (T : jT) (xs : List Int) (d : Nat) (y : jV × jS)  (o0 : Nat) : ((Int × jH) ⊕ jH) → Prop
  | .inl (v1, h) => jEv xs d (97, 5, [(2, Int.ofNat o0), (0, v1)], []) (T, h) y
  | .inr o => ykV T y o
set_option maxRecDepth 20000 in
noncomputable def Qu_drop_B5  (h : jH) (o0 : Nat) (v1 : Int) : Option ((Int × jH) ⊕ jH) := (if v1 < (h o0 6) then Option.bind (G_cell h (o0 + 1) 32 v1) (fun b2 => Option.bind (G_put h (o0 + 1) 32 (wr (v1 - (h o0 5))) b2) (fun b3 => Option.bind (G_cell b3 (o0 + 2) 32 v1) (fun b4 => Option.bind (G_put b3 (o0 + 2) 32 (wr (v1 - (b3 o0 5))) b4) (fun b5 => Option.bind (G_cell b5 (o0 + 3) 32 v1) (fun b6 => Option.bind (G_put b5 (o0 + 3) 32 (wr (v1 - (b5 o0 5))) b6) (fun b7 => Option.bind (G_cell b7 (o0 + 4) 32 v1) (fun b8 => Option.bind (G_put b7 (o0 + 4) 32 (wr (v1 - (b7 o0 5))) b8) (fun b9 => some (.inl ((wr (v1 + 1)), b9)))))))))) else Option.map Sum.inr (some (jup (jup (jup h o0 4 (wr ((h o0 4) + (h o0 5)))) o0 6 (wr (((jup h o0 4 (wr ((h o0 4) + (h o0 5)))) o0 6) - ((jup h o0 4 (wr ((h o0 4) + (h o0 5)))) o0 5)))) o0 5 0)))
noncomputable def Qu_drop_L5  (h : jH) (o0 : Nat) (v1 : Int) : Option jH := jloop (fun s : (Int × jH) => Qu_drop_B5 s.2 o0 s.1) (v1, h)
set_option maxRecDepth 20000 in
theorem t_Qu_drop_B5 {T : jT} {xs : List Int} {d : Nat} {y : jV × jS} (hd : 1 ≤ d) {h : jH}  {o0 : Nat} {v1 : Int} {out : ((Int × jH) ⊕ jH)} (ho0 : isX7 T o0) (H : Qu_drop_B5 h o0 v1 = some out) (HY : yk_Qu_drop_L5 T xs d y o0 out) : jEv xs d (97, 5, [(2, Int.ofNat o0), (0, v1)], []) (T, h) y := by
  unfold Qu_drop_B5 at H
  refine jEv.blk [(.iload_n 1, 1, []), (.aload_n 0, 1, [])] (by decide +kernel) (pc' := 7) (ls' := [(2, Int.ofNat o0), (0, v1)]) (st' := [(2, Int.ofNat o0), (0, v1)]) rfl ?_
  refine jEv.gfI (show jfI 97 7 (.getfield 31) 3 [7, 6, 0, 0, 2014] = true by decide +kernel) (isX7_L ho0) (by decide) ?_
  refine jEv.ic_ge (t := 103) (show jfI 97 10 (.if_icmp .ge 93) 3 [] = true by decide +kernel) rfl H (fun c1 H => ?_) (fun c1 H => ?_)
  · refine jEv.blk [(.aload_n 0, 1, [])] (by decide +kernel) (pc' := 14) (ls' := [(2, Int.ofNat o0), (0, v1)]) (st' := [(2, Int.ofNat o0)]) rfl ?_
    refine jEv.gfR (o' := (o0 + 1)) (show jfI 97 14 (.getfield 9) 3 [7, 0, 5, 0, 1235] = true by decide +kernel) (isX7_L ho0) (by decide) (isX7_r0 ho0) ?_
    refine jEv.blk [(.iload_n 1, 1, []), (.aload_n 0, 1, [])] (by decide +kernel) (pc' := 19) (ls' := [(2, Int.ofNat o0), (0, v1)]) (st' := [(2, Int.ofNat o0), (0, v1), (2, Int.ofNat (o0 + 1))]) rfl ?_
    refine jEv.gfI (show jfI 97 19 (.getfield 28) 3 [7, 5, 0, 0, 2010] = true by decide +kernel) (isX7_L ho0) (by decide) ?_
    refine jEv.blk [(.isub, 1, []), (.aload_n 0, 1, [])] (by decide +kernel) (pc' := 24) (ls' := [(2, Int.ofNat o0), (0, v1)]) (st' := [(2, Int.ofNat o0), (0, (wr (v1 - (h o0 5)))), (2, Int.ofNat (o0 + 1))]) rfl ?_
    refine jEv.gfR (o' := (o0 + 1)) (show jfI 97 24 (.getfield 9) 3 [7, 0, 5, 0, 1235] = true by decide +kernel) (isX7_L ho0) (by decide) (isX7_r0 ho0) ?_
    refine jEv.blk [(.iload_n 1, 1, [])] (by decide +kernel) (pc' := 28) (ls' := [(2, Int.ofNat o0), (0, v1)]) (st' := [(0, v1), (2, Int.ofNat (o0 + 1)), (0, (wr (v1 - (h o0 5)))), (2, Int.ofNat (o0 + 1))]) rfl ?_
    refine jbind H (fun b2 Hb2 H => ?_)
    refine jEv.calS (st' := [(0, b2), (0, (wr (v1 - (h o0 5)))), (2, Int.ofNat (o0 + 1))]) (show jfI 97 28 (.invokestatic 42) 3 [4, 137, 2, 5020] = true by decide +kernel) rfl (Or.inr rfl) rfl (Nat.le_of_ble_eq_true rfl) ((t_G_cell (T := T) (xs := xs) (isX7_a0 ho0) Hb2).mono (jKle 1 hd)) rfl ?_
    refine jbind H (fun b3 Hb3 H => ?_)
    refine jEv.calS (st' := []) (show jfI 97 31 (.invokestatic 38) 3 [4, 138, 3, 4136] = true by decide +kernel) rfl (Or.inr rfl) rfl (Nat.le_of_ble_eq_true rfl) ((t_G_put (T := T) (xs := xs) (isX7_a0 ho0) Hb3).mono (jKle 1 hd)) rfl ?_
    refine jEv.blk [(.aload_n 0, 1, [])] (by decide +kernel) (pc' := 35) (ls' := [(2, Int.ofNat o0), (0, v1)]) (st' := [(2, Int.ofNat o0)]) rfl ?_
    refine jEv.gfR (o' := (o0 + 2)) (show jfI 97 35 (.getfield 15) 3 [7, 1, 5, 0, 1239] = true by decide +kernel) (isX7_L ho0) (by decide) (isX7_r1 ho0) ?_
    refine jEv.blk [(.iload_n 1, 1, []), (.aload_n 0, 1, [])] (by decide +kernel) (pc' := 40) (ls' := [(2, Int.ofNat o0), (0, v1)]) (st' := [(2, Int.ofNat o0), (0, v1), (2, Int.ofNat (o0 + 2))]) rfl ?_
    refine jEv.gfI (show jfI 97 40 (.getfield 28) 3 [7, 5, 0, 0, 2010] = true by decide +kernel) (isX7_L ho0) (by decide) ?_
    refine jEv.blk [(.isub, 1, []), (.aload_n 0, 1, [])] (by decide +kernel) (pc' := 45) (ls' := [(2, Int.ofNat o0), (0, v1)]) (st' := [(2, Int.ofNat o0), (0, (wr (v1 - (b3 o0 5)))), (2, Int.ofNat (o0 + 2))]) rfl ?_
    refine jEv.gfR (o' := (o0 + 2)) (show jfI 97 45 (.getfield 15) 3 [7, 1, 5, 0, 1239] = true by decide +kernel) (isX7_L ho0) (by decide) (isX7_r1 ho0) ?_
    refine jEv.blk [(.iload_n 1, 1, [])] (by decide +kernel) (pc' := 49) (ls' := [(2, Int.ofNat o0), (0, v1)]) (st' := [(0, v1), (2, Int.ofNat (o0 + 2)), (0, (wr (v1 - (b3 o0 5)))), (2, Int.ofNat (o0 + 2))]) rfl ?_
    refine jbind H (fun b4 Hb4 H => ?_)
    refine jEv.calS (st' := [(0, b4), (0, (wr (v1 - (b3 o0 5)))), (2, Int.ofNat (o0 + 2))]) (show jfI 97 49 (.invokestatic 42) 3 [4, 137, 2, 5020] = true by decide +kernel) rfl (Or.inr rfl) rfl (Nat.le_of_ble_eq_true rfl) ((t_G_cell (T := T) (xs := xs) (isX7_a1 ho0) Hb4).mono (jKle 1 hd)) rfl ?_
    refine jbind H (fun b5 Hb5 H => ?_)
    refine jEv.calS (st' := []) (show jfI 97 52 (.invokestatic 38) 3 [4, 138, 3, 4136] = true by decide +kernel) rfl (Or.inr rfl) rfl (Nat.le_of_ble_eq_true rfl) ((t_G_put (T := T) (xs := xs) (isX7_a1 ho0) Hb5).mono (jKle 1 hd)) rfl ?_
    refine jEv.blk [(.aload_n 0, 1, [])] (by decide +kernel) (pc' := 56) (ls' := [(2, Int.ofNat o0), (0, v1)]) (st' := [(2, Int.ofNat o0)]) rfl ?_
    refine jEv.gfR (o' := (o0 + 3)) (show jfI 97 56 (.getfield 18) 3 [7, 2, 5, 0, 2003] = true by decide +kernel) (isX7_L ho0) (by decide) (isX7_r2 ho0) ?_
    refine jEv.blk [(.iload_n 1, 1, []), (.aload_n 0, 1, [])] (by decide +kernel) (pc' := 61) (ls' := [(2, Int.ofNat o0), (0, v1)]) (st' := [(2, Int.ofNat o0), (0, v1), (2, Int.ofNat (o0 + 3))]) rfl ?_
    refine jEv.gfI (show jfI 97 61 (.getfield 28) 3 [7, 5, 0, 0, 2010] = true by decide +kernel) (isX7_L ho0) (by decide) ?_
    refine jEv.blk [(.isub, 1, []), (.aload_n 0, 1, [])] (by decide +kernel) (pc' := 66) (ls' := [(2, Int.ofNat o0), (0, v1)]) (st' := [(2, Int.ofNat o0), (0, (wr (v1 - (b5 o0 5)))), (2, Int.ofNat (o0 + 3))]) rfl ?_
    refine jEv.gfR (o' := (o0 + 3)) (show jfI 97 66 (.getfield 18) 3 [7, 2, 5, 0, 2003] = true by decide +kernel) (isX7_L ho0) (by decide) (isX7_r2 ho0) ?_
    refine jEv.blk [(.iload_n 1, 1, [])] (by decide +kernel) (pc' := 70) (ls' := [(2, Int.ofNat o0), (0, v1)]) (st' := [(0, v1), (2, Int.ofNat (o0 + 3)), (0, (wr (v1 - (b5 o0 5)))), (2, Int.ofNat (o0 + 3))]) rfl ?_
    refine jbind H (fun b6 Hb6 H => ?_)
    refine jEv.calS (st' := [(0, b6), (0, (wr (v1 - (b5 o0 5)))), (2, Int.ofNat (o0 + 3))]) (show jfI 97 70 (.invokestatic 42) 3 [4, 137, 2, 5020] = true by decide +kernel) rfl (Or.inr rfl) rfl (Nat.le_of_ble_eq_true rfl) ((t_G_cell (T := T) (xs := xs) (isX7_a2 ho0) Hb6).mono (jKle 1 hd)) rfl ?_
    refine jbind H (fun b7 Hb7 H => ?_)
    refine jEv.calS (st' := []) (show jfI 97 73 (.invokestatic 38) 3 [4, 138, 3, 4136] = true by decide +kernel) rfl (Or.inr rfl) rfl (Nat.le_of_ble_eq_true rfl) ((t_G_put (T := T) (xs := xs) (isX7_a2 ho0) Hb7).mono (jKle 1 hd)) rfl ?_
    refine jEv.blk [(.aload_n 0, 1, [])] (by decide +kernel) (pc' := 77) (ls' := [(2, Int.ofNat o0), (0, v1)]) (st' := [(2, Int.ofNat o0)]) rfl ?_
    refine jEv.gfR (o' := (o0 + 4)) (show jfI 97 77 (.getfield 21) 3 [7, 3, 5, 0, 2005] = true by decide +kernel) (isX7_L ho0) (by decide) (isX7_r3 ho0) ?_
    refine jEv.blk [(.iload_n 1, 1, []), (.aload_n 0, 1, [])] (by decide +kernel) (pc' := 82) (ls' := [(2, Int.ofNat o0), (0, v1)]) (st' := [(2, Int.ofNat o0), (0, v1), (2, Int.ofNat (o0 + 4))]) rfl ?_
    refine jEv.gfI (show jfI 97 82 (.getfield 28) 3 [7, 5, 0, 0, 2010] = true by decide +kernel) (isX7_L ho0) (by decide) ?_
    refine jEv.blk [(.isub, 1, []), (.aload_n 0, 1, [])] (by decide +kernel) (pc' := 87) (ls' := [(2, Int.ofNat o0), (0, v1)]) (st' := [(2, Int.ofNat o0), (0, (wr (v1 - (b7 o0 5)))), (2, Int.ofNat (o0 + 4))]) rfl ?_
    refine jEv.gfR (o' := (o0 + 4)) (show jfI 97 87 (.getfield 21) 3 [7, 3, 5, 0, 2005] = true by decide +kernel) (isX7_L ho0) (by decide) (isX7_r3 ho0) ?_
    refine jEv.blk [(.iload_n 1, 1, [])] (by decide +kernel) (pc' := 91) (ls' := [(2, Int.ofNat o0), (0, v1)]) (st' := [(0, v1), (2, Int.ofNat (o0 + 4)), (0, (wr (v1 - (b7 o0 5)))), (2, Int.ofNat (o0 + 4))]) rfl ?_
    refine jbind H (fun b8 Hb8 H => ?_)
    refine jEv.calS (st' := [(0, b8), (0, (wr (v1 - (b7 o0 5)))), (2, Int.ofNat (o0 + 4))]) (show jfI 97 91 (.invokestatic 42) 3 [4, 137, 2, 5020] = true by decide +kernel) rfl (Or.inr rfl) rfl (Nat.le_of_ble_eq_true rfl) ((t_G_cell (T := T) (xs := xs) (isX7_a3 ho0) Hb8).mono (jKle 1 hd)) rfl ?_
    refine jbind H (fun b9 Hb9 H => ?_)
    refine jEv.calS (st' := []) (show jfI 97 94 (.invokestatic 38) 3 [4, 138, 3, 4136] = true by decide +kernel) rfl (Or.inr rfl) rfl (Nat.le_of_ble_eq_true rfl) ((t_G_put (T := T) (xs := xs) (isX7_a3 ho0) Hb9).mono (jKle 1 hd)) rfl ?_
    refine jEv.blk [(.iinc 1 1, 3, [])] (by decide +kernel) (pc' := 100) (ls' := [(2, Int.ofNat o0), (0, (wr (v1 + 1)))]) (st' := []) rfl ?_
    refine jEv.goto (t := 5) (show jfI 97 100 (.goto (-95)) 3 [] = true by decide +kernel) rfl ?_
    exact (by cases H; exact HY)
  · refine jmapr H HY (fun out H (HY : ykV T y out) => ?_)
    refine jEv.blk [(.aload_n 0, 1, []), (.dup, 1, [])] (by decide +kernel) (pc' := 105) (ls' := [(2, Int.ofNat o0), (0, v1)]) (st' := [(2, Int.ofNat o0), (2, Int.ofNat o0)]) rfl ?_
    refine jEv.gfI (show jfI 97 105 (.getfield 24) 3 [7, 4, 0, 0, 2006] = true by decide +kernel) (isX7_L ho0) (by decide) ?_
    refine jEv.blk [(.aload_n 0, 1, [])] (by decide +kernel) (pc' := 109) (ls' := [(2, Int.ofNat o0), (0, v1)]) (st' := [(2, Int.ofNat o0), (0, (h o0 4)), (2, Int.ofNat o0)]) rfl ?_
    refine jEv.gfI (show jfI 97 109 (.getfield 28) 3 [7, 5, 0, 0, 2010] = true by decide +kernel) (isX7_L ho0) (by decide) ?_
    refine jEv.blk [(.iadd, 1, [])] (by decide +kernel) (pc' := 113) (ls' := [(2, Int.ofNat o0), (0, v1)]) (st' := [(0, (wr ((h o0 4) + (h o0 5)))), (2, Int.ofNat o0)]) rfl ?_
    refine jEv.pfI (show jfI 97 113 (.putfield 24) 3 [7, 4, 0, 0, 2006] = true by decide +kernel) (isX7_L ho0) (by decide) ?_
    refine jEv.blk [(.aload_n 0, 1, []), (.dup, 1, [])] (by decide +kernel) (pc' := 118) (ls' := [(2, Int.ofNat o0), (0, v1)]) (st' := [(2, Int.ofNat o0), (2, Int.ofNat o0)]) rfl ?_
    refine jEv.gfI (show jfI 97 118 (.getfield 31) 3 [7, 6, 0, 0, 2014] = true by decide +kernel) (isX7_L ho0) (by decide) ?_
    refine jEv.blk [(.aload_n 0, 1, [])] (by decide +kernel) (pc' := 122) (ls' := [(2, Int.ofNat o0), (0, v1)]) (st' := [(2, Int.ofNat o0), (0, ((jup h o0 4 (wr ((h o0 4) + (h o0 5)))) o0 6)), (2, Int.ofNat o0)]) rfl ?_
    refine jEv.gfI (show jfI 97 122 (.getfield 28) 3 [7, 5, 0, 0, 2010] = true by decide +kernel) (isX7_L ho0) (by decide) ?_
    refine jEv.blk [(.isub, 1, [])] (by decide +kernel) (pc' := 126) (ls' := [(2, Int.ofNat o0), (0, v1)]) (st' := [(0, (wr (((jup h o0 4 (wr ((h o0 4) + (h o0 5)))) o0 6) - ((jup h o0 4 (wr ((h o0 4) + (h o0 5)))) o0 5)))), (2, Int.ofNat o0)]) rfl ?_
    refine jEv.pfI (show jfI 97 126 (.putfield 31) 3 [7, 6, 0, 0, 2014] = true by decide +kernel) (isX7_L ho0) (by decide) ?_
    refine jEv.blk [(.aload_n 0, 1, []), (.iconst 0, 1, [])] (by decide +kernel) (pc' := 131) (ls' := [(2, Int.ofNat o0), (0, v1)]) (st' := [(0, 0), (2, Int.ofNat o0)]) rfl ?_
    refine jEv.pfI (show jfI 97 131 (.putfield 28) 3 [7, 5, 0, 0, 2010] = true by decide +kernel) (isX7_L ho0) (by decide) ?_
    exact jEv.retV (show jfI 97 134 (.return_) 1 [] = true by decide +kernel) (by decide +kernel) (by cases H; exact HY)
theorem t_Qu_drop_L5 {T : jT} {xs : List Int} {d : Nat} {y : jV × jS} (hd : 1 ≤ d) {h : jH}  {o0 : Nat} {v1 : Int} {out : jH} (ho0 : isX7 T o0) (H : Qu_drop_L5 h o0 v1 = some out) (HY : ykV T y out) : jEv xs d (97, 5, [(2, Int.ofNat o0), (0, v1)], []) (T, h) y :=
  jloop_sound (G := fun s : (Int × jH) => jEv xs d (97, 5, [(2, Int.ofNat o0), (0, s.1)], []) (T, s.2) y) (K := yk_Qu_drop_L5 T xs d y o0) (fun s out H HY => t_Qu_drop_B5 hd ho0 H HY) (fun s' hg => hg) (s := (v1, h)) H HY
set_option maxRecDepth 20000 in
noncomputable def Qu_drop  (h : jH) (o0 : Nat) : Option jH := Qu_drop_L5 h o0 (h o0 5)
set_option maxRecDepth 20000 in
theorem t_Qu_drop {T : jT} {xs : List Int} {h : jH}  {o0 : Nat} {out : jH} (ho0 : isX7 T o0) (H : Qu_drop h o0 = some out) : jEm xs 2 97 [(2, Int.ofNat o0)] (T, h) ((3, 0), (T, out)) := by
  have hd : 1 ≤ 1 := Nat.le_refl _
  obtain ⟨y, ey⟩ : ∃ y : jV × jS, y = ((3, 0), (T, out)) := ⟨_, rfl⟩
  rw [← ey]
  have HY : ykV T y out := ey
  refine jEm.ent (n := 2) (by decide +kernel) (Nat.le_of_ble_eq_true rfl) ?_
  show jEv xs 1 (97, 0, [(2, Int.ofNat o0), (3, 0)], []) (T, h) y
  unfold Qu_drop at H
  refine jEv.blk [(.aload_n 0, 1, [])] (by decide +kernel) (pc' := 1) (ls' := [(2, Int.ofNat o0), (3, 0)]) (st' := [(2, Int.ofNat o0)]) rfl ?_
  refine jEv.gfI (show jfI 97 1 (.getfield 28) 3 [7, 5, 0, 0, 2010] = true by decide +kernel) (isX7_L ho0) (by decide) ?_
  refine jEv.blk [(.istore_n 1, 1, [])] (by decide +kernel) (pc' := 5) (ls' := [(2, Int.ofNat o0), (0, (h o0 5))]) (st' := []) rfl ?_
  exact t_Qu_drop_L5 (T := T) (xs := xs) (y := y) hd ho0 H HY
def yk_Qu_payloadOf_L4 (T : jT) (xs : List Int) (d : Nat) (y : jV × jS) (h : jH)  (o0 : Nat) (v1 : Int) : ((Int × Int) ⊕ Int) → Prop
  | .inl (v2, v3) => jEv xs d (98, 4, [(2, Int.ofNat o0), (0, v1), (0, v2), (0, v3)], []) (T, h) y
  | .inr o => ykIp T h y o
set_option maxRecDepth 20000 in
noncomputable def Qu_payloadOf_B4  (h : jH) (o0 : Nat) (v1 : Int) (v2 : Int) (v3 : Int) : Option ((Int × Int) ⊕ Int) := (if v3 < v1 then Option.bind (Qu_payloadAt h o0 (wr ((h o0 5) + v3))) (fun b2 => some (.inl ((wr (v2 + b2)), (wr (v3 + 1))))) else Option.map Sum.inr (some v2))
noncomputable def Qu_payloadOf_L4  (h : jH) (o0 : Nat) (v1 : Int) (v2 : Int) (v3 : Int) : Option Int := jloop (fun s : (Int × Int) => Qu_payloadOf_B4 h o0 v1 s.1 s.2) (v2, v3)
set_option maxRecDepth 20000 in
theorem t_Qu_payloadOf_B4 {T : jT} {xs : List Int} {d : Nat} {y : jV × jS} (hd : 2 ≤ d) {h : jH}  {o0 : Nat} {v1 : Int} {v2 : Int} {v3 : Int} {out : ((Int × Int) ⊕ Int)} (ho0 : isX7 T o0) (H : Qu_payloadOf_B4 h o0 v1 v2 v3 = some out) (HY : yk_Qu_payloadOf_L4 T xs d y h o0 v1 out) : jEv xs d (98, 4, [(2, Int.ofNat o0), (0, v1), (0, v2), (0, v3)], []) (T, h) y := by
  unfold Qu_payloadOf_B4 at H
  refine jEv.blk [(.iload_n 3, 1, []), (.iload_n 1, 1, [])] (by decide +kernel) (pc' := 6) (ls' := [(2, Int.ofNat o0), (0, v1), (0, v2), (0, v3)]) (st' := [(0, v1), (0, v3)]) rfl ?_
  refine jEv.ic_ge (t := 28) (show jfI 98 6 (.if_icmp .ge 22) 3 [] = true by decide +kernel) rfl H (fun c1 H => ?_) (fun c1 H => ?_)
  · refine jEv.blk [(.iload_n 2, 1, []), (.aload_n 0, 1, []), (.aload_n 0, 1, [])] (by decide +kernel) (pc' := 12) (ls' := [(2, Int.ofNat o0), (0, v1), (0, v2), (0, v3)]) (st' := [(2, Int.ofNat o0), (2, Int.ofNat o0), (0, v2)]) rfl ?_
    refine jEv.gfI (show jfI 98 12 (.getfield 28) 3 [7, 5, 0, 0, 2010] = true by decide +kernel) (isX7_L ho0) (by decide) ?_
    refine jEv.blk [(.iload_n 3, 1, []), (.iadd, 1, [])] (by decide +kernel) (pc' := 17) (ls' := [(2, Int.ofNat o0), (0, v1), (0, v2), (0, v3)]) (st' := [(0, (wr ((h o0 5) + v3))), (2, Int.ofNat o0), (0, v2)]) rfl ?_
    refine jbind H (fun b2 Hb2 H => ?_)
    refine jEv.calV (st' := [(0, b2), (0, v2)]) (show jfI 98 17 (.invokevirtual 46) 3 [1, 99, 1, 5123] = true by decide +kernel) rfl (Or.inl rfl) rfl (Nat.le_of_ble_eq_true rfl) (by decide +kernel) (by decide) (isX7_L ho0) ((t_Qu_payloadAt (T := T) (xs := xs) ho0 Hb2).mono (jKle 2 hd)) rfl ?_
    refine jEv.blk [(.iadd, 1, []), (.istore_n 2, 1, []), (.iinc 3 1, 3, [])] (by decide +kernel) (pc' := 25) (ls' := [(2, Int.ofNat o0), (0, v1), (0, (wr (v2 + b2))), (0, (wr (v3 + 1)))]) (st' := []) rfl ?_
    refine jEv.goto (t := 4) (show jfI 98 25 (.goto (-21)) 3 [] = true by decide +kernel) rfl ?_
    exact (by cases H; exact HY)
  · refine jmapr H HY (fun out H (HY : ykIp T h y out) => ?_)
    refine jEv.blk [(.iload_n 2, 1, [])] (by decide +kernel) (pc' := 29) (ls' := [(2, Int.ofNat o0), (0, v1), (0, v2), (0, v3)]) (st' := [(0, v2)]) rfl ?_
    exact jEv.retI (show jfI 98 29 (.ireturn) 1 [] = true by decide +kernel) (by decide +kernel) (by cases H; exact HY)
theorem t_Qu_payloadOf_L4 {T : jT} {xs : List Int} {d : Nat} {y : jV × jS} (hd : 2 ≤ d) {h : jH}  {o0 : Nat} {v1 : Int} {v2 : Int} {v3 : Int} {out : Int} (ho0 : isX7 T o0) (H : Qu_payloadOf_L4 h o0 v1 v2 v3 = some out) (HY : ykIp T h y out) : jEv xs d (98, 4, [(2, Int.ofNat o0), (0, v1), (0, v2), (0, v3)], []) (T, h) y :=
  jloop_sound (G := fun s : (Int × Int) => jEv xs d (98, 4, [(2, Int.ofNat o0), (0, v1), (0, s.1), (0, s.2)], []) (T, h) y) (K := yk_Qu_payloadOf_L4 T xs d y h o0 v1) (fun s out H HY => t_Qu_payloadOf_B4 hd ho0 H HY) (fun s' hg => hg) (s := (v2, v3)) H HY
set_option maxRecDepth 20000 in
noncomputable def Qu_payloadOf  (h : jH) (o0 : Nat) (v1 : Int) : Option Int := Qu_payloadOf_L4 h o0 v1 0 0
set_option maxRecDepth 20000 in
theorem t_Qu_payloadOf {T : jT} {xs : List Int} {h : jH}  {o0 : Nat} {v1 : Int} {out : Int} (ho0 : isX7 T o0) (H : Qu_payloadOf h o0 v1 = some out) : jEm xs 3 98 [(2, Int.ofNat o0), (0, v1)] (T, h) ((0, out), (T, h)) := by
  have hd : 2 ≤ 2 := Nat.le_refl _
  obtain ⟨y, ey⟩ : ∃ y : jV × jS, y = ((0, out), (T, h)) := ⟨_, rfl⟩
  rw [← ey]
  have HY : ykIp T h y out := ey
  refine jEm.ent (n := 4) (by decide +kernel) (Nat.le_of_ble_eq_true rfl) ?_
  show jEv xs 2 (98, 0, [(2, Int.ofNat o0), (0, v1), (3, 0), (3, 0)], []) (T, h) y
  unfold Qu_payloadOf at H
  refine jEv.blk [(.iconst 0, 1, []), (.istore_n 2, 1, []), (.iconst 0, 1, []), (.istore_n 3, 1, [])] (by decide +kernel) (pc' := 4) (ls' := [(2, Int.ofNat o0), (0, v1), (0, 0), (0, 0)]) (st' := []) rfl ?_
  exact t_Qu_payloadOf_L4 (T := T) (xs := xs) (y := y) hd ho0 H HY
set_option maxRecDepth 20000 in
noncomputable def Qu_firstBorn  (h : jH) (o0 : Nat) : Option Int := Option.bind (G_cell h (o0 + 4) 32 (h o0 5)) (fun b1 => some b1)
set_option maxRecDepth 20000 in
theorem t_Qu_firstBorn {T : jT} {xs : List Int} {h : jH}  {o0 : Nat} {out : Int} (ho0 : isX7 T o0) (H : Qu_firstBorn h o0 = some out) : jEm xs 2 100 [(2, Int.ofNat o0)] (T, h) ((0, out), (T, h)) := by
  have hd : 1 ≤ 1 := Nat.le_refl _
  obtain ⟨y, ey⟩ : ∃ y : jV × jS, y = ((0, out), (T, h)) := ⟨_, rfl⟩
  rw [← ey]
  have HY : ykIp T h y out := ey
  refine jEm.ent (n := 1) (by decide +kernel) (Nat.le_of_ble_eq_true rfl) ?_
  show jEv xs 1 (100, 0, [(2, Int.ofNat o0)], []) (T, h) y
  unfold Qu_firstBorn at H
  refine jEv.blk [(.aload_n 0, 1, [])] (by decide +kernel) (pc' := 1) (ls' := [(2, Int.ofNat o0)]) (st' := [(2, Int.ofNat o0)]) rfl ?_
  refine jEv.gfR (o' := (o0 + 4)) (show jfI 100 1 (.getfield 21) 3 [7, 3, 5, 0, 2005] = true by decide +kernel) (isX7_L ho0) (by decide) (isX7_r3 ho0) ?_
  refine jEv.blk [(.aload_n 0, 1, [])] (by decide +kernel) (pc' := 5) (ls' := [(2, Int.ofNat o0)]) (st' := [(2, Int.ofNat o0), (2, Int.ofNat (o0 + 4))]) rfl ?_
  refine jEv.gfI (show jfI 100 5 (.getfield 28) 3 [7, 5, 0, 0, 2010] = true by decide +kernel) (isX7_L ho0) (by decide) ?_
  refine jbind H (fun b1 Hb1 H => ?_)
  refine jEv.calS (st' := [(0, b1)]) (show jfI 100 8 (.invokestatic 42) 3 [4, 137, 2, 5020] = true by decide +kernel) rfl (Or.inr rfl) rfl (Nat.le_of_ble_eq_true rfl) ((t_G_cell (T := T) (xs := xs) (isX7_a3 ho0) Hb1).mono (jKle 1 hd)) rfl ?_
  exact jEv.retI (show jfI 100 11 (.ireturn) 1 [] = true by decide +kernel) (by decide +kernel) (by cases H; exact HY)
def yk_Re_beginning_L5 (T : jT) (xs : List Int) (d : Nat) (y : jV × jS) (h : jH)  (o1 : Nat) (v2 : Int) : ((Int × Int) ⊕ Int) → Prop
  | .inl (v3, v4) => jEv xs d (103, 5, [(3, 0), (2, Int.ofNat o1), (0, v2), (0, v3), (0, v4)], []) (T, h) y
  | .inr o => ykIp T h y o
set_option maxRecDepth 20000 in
noncomputable def Re_beginning_p52  (h : jH) (o1 : Nat) (v2 : Int) (v4 : Int) : Option ((Int × Int) ⊕ Int) := some (.inl (v4, (wr (v4 + 1))))
set_option maxRecDepth 20000 in
theorem t_Re_beginning_p52 {T : jT} {xs : List Int} {d : Nat} {y : jV × jS} (hd : 3 ≤ d) {h : jH}  {o1 : Nat} {v2 : Int} {v4 : Int} {out : ((Int × Int) ⊕ Int)} (ho1 : isX0 T o1) (H : Re_beginning_p52 h o1 v2 v4 = some out) (HY : yk_Re_beginning_L5 T xs d y h o1 v2 out) : jEv xs d (103, 52, [(3, 0), (2, Int.ofNat o1), (0, v2), (3, 0), (0, v4)], []) (T, h) y := by
  unfold Re_beginning_p52 at H
  refine jEv.blk [(.iload 4, 2, []), (.istore_n 3, 1, [])] (by decide +kernel) (pc' := 55) (ls' := [(3, 0), (2, Int.ofNat o1), (0, v2), (0, v4), (0, v4)]) (st' := []) rfl ?_
  refine jEv.blk [(.iinc 4 1, 3, [])] (by decide +kernel) (pc' := 58) (ls' := [(3, 0), (2, Int.ofNat o1), (0, v2), (0, v4), (0, (wr (v4 + 1)))]) (st' := []) rfl ?_
  refine jEv.goto (t := 5) (show jfI 103 58 (.goto (-53)) 3 [] = true by decide +kernel) rfl ?_
  exact (by cases H; exact HY)
set_option maxRecDepth 20000 in
noncomputable def Re_beginning_B5  (h : jH) (o1 : Nat) (v2 : Int) (v3 : Int) (v4 : Int) : Option ((Int × Int) ⊕ Int) := (if v4 < (h o1 2) then Option.bind (Di_headStands h o1 v4) (fun b2 => (if b2 = 0 then some (.inl (v3, (wr (v4 + 1)))) else Option.bind (Di_firstOf h o1 v4) (fun b4 => (if v2 < b4 then some (.inl (v3, (wr (v4 + 1)))) else (if v3 = (-1) then Re_beginning_p52 h o1 v2 v4 else Option.bind (Di_serialOf h o1 v4) (fun b7 => Option.bind (Di_serialOf h o1 v3) (fun b8 => (if b8 < b7 then Re_beginning_p52 h o1 v2 v4 else some (.inl (v3, (wr (v4 + 1)))))))))))) else Option.map Sum.inr (some v3))
noncomputable def Re_beginning_L5  (h : jH) (o1 : Nat) (v2 : Int) (v3 : Int) (v4 : Int) : Option Int := jloop (fun s : (Int × Int) => Re_beginning_B5 h o1 v2 s.1 s.2) (v3, v4)
set_option maxRecDepth 20000 in
theorem t_Re_beginning_B5 {T : jT} {xs : List Int} {d : Nat} {y : jV × jS} (hd : 3 ≤ d) {h : jH}  {o1 : Nat} {v2 : Int} {v3 : Int} {v4 : Int} {out : ((Int × Int) ⊕ Int)} (ho1 : isX0 T o1) (H : Re_beginning_B5 h o1 v2 v3 v4 = some out) (HY : yk_Re_beginning_L5 T xs d y h o1 v2 out) : jEv xs d (103, 5, [(3, 0), (2, Int.ofNat o1), (0, v2), (0, v3), (0, v4)], []) (T, h) y := by
  unfold Re_beginning_B5 at H
  refine jEv.blk [(.iload 4, 2, []), (.aload_n 1, 1, [])] (by decide +kernel) (pc' := 8) (ls' := [(3, 0), (2, Int.ofNat o1), (0, v2), (0, v3), (0, v4)]) (st' := [(2, Int.ofNat o1), (0, v4)]) rfl ?_
  refine jEv.gfI (show jfI 103 8 (.getfield 79) 3 [0, 2, 0, 0, 1184] = true by decide +kernel) (isX0_L ho1) (by decide) ?_
  refine jEv.ic_ge (t := 61) (show jfI 103 11 (.if_icmp .ge 50) 3 [] = true by decide +kernel) rfl H (fun c1 H => ?_) (fun c1 H => ?_)
  · refine jEv.blk [(.aload_n 1, 1, []), (.iload 4, 2, [])] (by decide +kernel) (pc' := 17) (ls' := [(3, 0), (2, Int.ofNat o1), (0, v2), (0, v3), (0, v4)]) (st' := [(0, v4), (2, Int.ofNat o1)]) rfl ?_
    refine jbind H (fun b2 Hb2 H => ?_)
    refine jEv.calV (st' := [(0, b2)]) (show jfI 103 17 (.invokevirtual 82) 3 [1, 8, 1, 6028] = true by decide +kernel) rfl (Or.inl rfl) rfl (Nat.le_of_ble_eq_true rfl) (by decide +kernel) (by decide) (isX0_L ho1) ((t_Di_headStands (T := T) (xs := xs) ho1 Hb2).mono (jKle 3 hd)) rfl ?_
    refine jEv.if_eq (t := 55) (show jfI 103 20 (.ifCond .eq 35) 3 [] = true by decide +kernel) rfl H (fun c3 H => ?_) (fun c3 H => ?_)
    · refine jEv.blk [(.iinc 4 1, 3, [])] (by decide +kernel) (pc' := 58) (ls' := [(3, 0), (2, Int.ofNat o1), (0, v2), (0, v3), (0, (wr (v4 + 1)))]) (st' := []) rfl ?_
      refine jEv.goto (t := 5) (show jfI 103 58 (.goto (-53)) 3 [] = true by decide +kernel) rfl ?_
      exact (by cases H; exact HY)
    · refine jEv.blk [(.aload_n 1, 1, []), (.iload 4, 2, [])] (by decide +kernel) (pc' := 26) (ls' := [(3, 0), (2, Int.ofNat o1), (0, v2), (0, v3), (0, v4)]) (st' := [(0, v4), (2, Int.ofNat o1)]) rfl ?_
      refine jbind H (fun b4 Hb4 H => ?_)
      refine jEv.calV (st' := [(0, b4)]) (show jfI 103 26 (.invokevirtual 46) 3 [1, 14, 1, 6029] = true by decide +kernel) rfl (Or.inl rfl) rfl (Nat.le_of_ble_eq_true rfl) (by decide +kernel) (by decide) (isX0_L ho1) ((t_Di_firstOf (T := T) (xs := xs) ho1 Hb4).mono (jKle 2 hd)) rfl ?_
      refine jEv.blk [(.iload_n 2, 1, [])] (by decide +kernel) (pc' := 30) (ls' := [(3, 0), (2, Int.ofNat o1), (0, v2), (0, v3), (0, v4)]) (st' := [(0, v2), (0, b4)]) rfl ?_
      refine jEv.ic_gt (t := 55) (show jfI 103 30 (.if_icmp .gt 25) 3 [] = true by decide +kernel) rfl H (fun c5 H => ?_) (fun c5 H => ?_)
      · refine jEv.blk [(.iinc 4 1, 3, [])] (by decide +kernel) (pc' := 58) (ls' := [(3, 0), (2, Int.ofNat o1), (0, v2), (0, v3), (0, (wr (v4 + 1)))]) (st' := []) rfl ?_
        refine jEv.goto (t := 5) (show jfI 103 58 (.goto (-53)) 3 [] = true by decide +kernel) rfl ?_
        exact (by cases H; exact HY)
      · refine jEv.blk [(.iload_n 3, 1, []), (.iconst (-1), 1, [])] (by decide +kernel) (pc' := 35) (ls' := [(3, 0), (2, Int.ofNat o1), (0, v2), (0, v3), (0, v4)]) (st' := [(0, (-1)), (0, v3)]) rfl ?_
        refine jEv.ic_eq (t := 52) (show jfI 103 35 (.if_icmp .eq 17) 3 [] = true by decide +kernel) rfl H (fun c6 H => ?_) (fun c6 H => ?_)
        · exact jEv.weak (a := [(3, 0), (2, Int.ofNat o1), (0, v2), (3, 0), (0, v4)]) (jles.c0 (jles.c1 (jles.c1 (jles.c0 (jles.c1 jles.nl))))) (t_Re_beginning_p52 (T := T) (xs := xs) (y := y) hd ho1 H HY)
        · refine jEv.blk [(.aload_n 1, 1, []), (.iload 4, 2, [])] (by decide +kernel) (pc' := 41) (ls' := [(3, 0), (2, Int.ofNat o1), (0, v2), (0, v3), (0, v4)]) (st' := [(0, v4), (2, Int.ofNat o1)]) rfl ?_
          refine jbind H (fun b7 Hb7 H => ?_)
          refine jEv.calV (st' := [(0, b7)]) (show jfI 103 41 (.invokevirtual 86) 3 [1, 10, 1, 6030] = true by decide +kernel) rfl (Or.inl rfl) rfl (Nat.le_of_ble_eq_true rfl) (by decide +kernel) (by decide) (isX0_L ho1) ((t_Di_serialOf (T := T) (xs := xs) ho1 Hb7).mono (jKle 2 hd)) rfl ?_
          refine jEv.blk [(.aload_n 1, 1, []), (.iload_n 3, 1, [])] (by decide +kernel) (pc' := 46) (ls' := [(3, 0), (2, Int.ofNat o1), (0, v2), (0, v3), (0, v4)]) (st' := [(0, v3), (2, Int.ofNat o1), (0, b7)]) rfl ?_
          refine jbind H (fun b8 Hb8 H => ?_)
          refine jEv.calV (st' := [(0, b8), (0, b7)]) (show jfI 103 46 (.invokevirtual 86) 3 [1, 10, 1, 6030] = true by decide +kernel) rfl (Or.inl rfl) rfl (Nat.le_of_ble_eq_true rfl) (by decide +kernel) (by decide) (isX0_L ho1) ((t_Di_serialOf (T := T) (xs := xs) ho1 Hb8).mono (jKle 2 hd)) rfl ?_
          refine jEv.ic_le (t := 55) (show jfI 103 49 (.if_icmp .le 6) 3 [] = true by decide +kernel) rfl H (fun c9 H => ?_) (fun c9 H => ?_)
          · exact jEv.weak (a := [(3, 0), (2, Int.ofNat o1), (0, v2), (3, 0), (0, v4)]) (jles.c0 (jles.c1 (jles.c1 (jles.c0 (jles.c1 jles.nl))))) (t_Re_beginning_p52 (T := T) (xs := xs) (y := y) hd ho1 H HY)
          · refine jEv.blk [(.iinc 4 1, 3, [])] (by decide +kernel) (pc' := 58) (ls' := [(3, 0), (2, Int.ofNat o1), (0, v2), (0, v3), (0, (wr (v4 + 1)))]) (st' := []) rfl ?_
            refine jEv.goto (t := 5) (show jfI 103 58 (.goto (-53)) 3 [] = true by decide +kernel) rfl ?_
            exact (by cases H; exact HY)
  · refine jmapr H HY (fun out H (HY : ykIp T h y out) => ?_)
    refine jEv.blk [(.iload_n 3, 1, [])] (by decide +kernel) (pc' := 62) (ls' := [(3, 0), (2, Int.ofNat o1), (0, v2), (0, v3), (0, v4)]) (st' := [(0, v3)]) rfl ?_
    exact jEv.retI (show jfI 103 62 (.ireturn) 1 [] = true by decide +kernel) (by decide +kernel) (by cases H; exact HY)
theorem t_Re_beginning_L5 {T : jT} {xs : List Int} {d : Nat} {y : jV × jS} (hd : 3 ≤ d) {h : jH}  {o1 : Nat} {v2 : Int} {v3 : Int} {v4 : Int} {out : Int} (ho1 : isX0 T o1) (H : Re_beginning_L5 h o1 v2 v3 v4 = some out) (HY : ykIp T h y out) : jEv xs d (103, 5, [(3, 0), (2, Int.ofNat o1), (0, v2), (0, v3), (0, v4)], []) (T, h) y :=
  jloop_sound (G := fun s : (Int × Int) => jEv xs d (103, 5, [(3, 0), (2, Int.ofNat o1), (0, v2), (0, s.1), (0, s.2)], []) (T, h) y) (K := yk_Re_beginning_L5 T xs d y h o1 v2) (fun s out H HY => t_Re_beginning_B5 hd ho1 H HY) (fun s' hg => hg) (s := (v3, v4)) H HY
set_option maxRecDepth 20000 in
noncomputable def Re_beginning  (h : jH) (o0 : Nat) (o1 : Nat) (v2 : Int) : Option Int := Re_beginning_L5 h o1 v2 (-1) 0
set_option maxRecDepth 20000 in
theorem t_Re_beginning {T : jT} {xs : List Int} {h : jH}  {o0 : Nat} {o1 : Nat} {v2 : Int} {out : Int} (ho0 : isX8 T o0) (ho1 : isX0 T o1) (H : Re_beginning h o0 o1 v2 = some out) : jEm xs 4 103 [(2, Int.ofNat o0), (2, Int.ofNat o1), (0, v2)] (T, h) ((0, out), (T, h)) := by
  have hd : 3 ≤ 3 := Nat.le_refl _
  obtain ⟨y, ey⟩ : ∃ y : jV × jS, y = ((0, out), (T, h)) := ⟨_, rfl⟩
  rw [← ey]
  have HY : ykIp T h y out := ey
  refine jEm.ent (n := 5) (by decide +kernel) (Nat.le_of_ble_eq_true rfl) ?_
  show jEv xs 3 (103, 0, [(2, Int.ofNat o0), (2, Int.ofNat o1), (0, v2), (3, 0), (3, 0)], []) (T, h) y
  unfold Re_beginning at H
  refine jEv.blk [(.iconst (-1), 1, []), (.istore_n 3, 1, []), (.iconst 0, 1, []), (.istore 4, 2, [])] (by decide +kernel) (pc' := 5) (ls' := [(2, Int.ofNat o0), (2, Int.ofNat o1), (0, v2), (0, (-1)), (0, 0)]) (st' := []) rfl ?_
  exact jEv.weak (a := [(3, 0), (2, Int.ofNat o1), (0, v2), (0, (-1)), (0, 0)]) (jles.c0 (jles.c1 (jles.c1 (jles.c1 (jles.c1 jles.nl))))) (t_Re_beginning_L5 (T := T) (xs := xs) (y := y) hd ho1 H HY)
def yk_Re_readSegment_L31 (T : jT) (xs : List Int) (d : Nat) (y : jV × jS)  (o0 : Nat) (o1 : Nat) (v2 : Int) (v3 : Int) : ((Int × jH) ⊕ jH) → Prop
  | .inl (v4, h) => jEv xs d (104, 31, [(2, Int.ofNat o0), (2, Int.ofNat o1), (0, v2), (0, v3), (0, v4)], []) (T, h) y
  | .inr o => ykV T y o
set_option maxRecDepth 20000 in
noncomputable def Re_readSegment_p89  (h : jH) (o0 : Nat) (o1 : Nat) (v2 : Int) (v3 : Int) (v4 : Int) : Option ((Int × jH) ⊕ jH) := Option.bind (G_put h (o0 + 3) 4 v2 (h o0 3)) (fun b10 => some (.inl ((wr (v4 + 1)), (jup (jup b10 o0 3 (wr ((b10 o0 3) + 1))) o0 5 ((jup b10 o0 3 (wr ((b10 o0 3) + 1))) (o0 + 1) 3)))))
set_option maxRecDepth 20000 in
theorem t_Re_readSegment_p89 {T : jT} {xs : List Int} {d : Nat} {y : jV × jS} (hd : 3 ≤ d) {h : jH}  {o0 : Nat} {o1 : Nat} {v2 : Int} {v3 : Int} {v4 : Int} {out : ((Int × jH) ⊕ jH)} (ho0 : isX8 T o0) (ho1 : isX0 T o1) (H : Re_readSegment_p89 h o0 o1 v2 v3 v4 = some out) (HY : yk_Re_readSegment_L31 T xs d y o0 o1 v2 v3 out) : jEv xs d (104, 89, [(2, Int.ofNat o0), (2, Int.ofNat o1), (0, v2), (0, v3), (0, v4)], []) (T, h) y := by
  unfold Re_readSegment_p89 at H
  refine jEv.blk [(.aload_n 0, 1, [])] (by decide +kernel) (pc' := 90) (ls' := [(2, Int.ofNat o0), (2, Int.ofNat o1), (0, v2), (0, v3), (0, v4)]) (st' := [(2, Int.ofNat o0)]) rfl ?_
  refine jEv.gfR (o' := (o0 + 3)) (show jfI 104 90 (.getfield 22) 3 [8, 2, 5, 0, 2208] = true by decide +kernel) (isX8_L ho0) (by decide) (isX8_r2 ho0) ?_
  refine jEv.blk [(.iload_n 2, 1, []), (.aload_n 0, 1, [])] (by decide +kernel) (pc' := 95) (ls' := [(2, Int.ofNat o0), (2, Int.ofNat o1), (0, v2), (0, v3), (0, v4)]) (st' := [(2, Int.ofNat o0), (0, v2), (2, Int.ofNat (o0 + 3))]) rfl ?_
  refine jEv.gfI (show jfI 104 95 (.getfield 35) 3 [8, 3, 0, 0, 2210] = true by decide +kernel) (isX8_L ho0) (by decide) ?_
  refine jbind H (fun b10 Hb10 H => ?_)
  refine jEv.calS (st' := []) (show jfI 104 98 (.invokestatic 109) 3 [4, 138, 3, 6038] = true by decide +kernel) rfl (Or.inr rfl) rfl (Nat.le_of_ble_eq_true rfl) ((t_G_put (T := T) (xs := xs) (isX8_a2 ho0) Hb10).mono (jKle 1 hd)) rfl ?_
  refine jEv.blk [(.aload_n 0, 1, []), (.dup, 1, [])] (by decide +kernel) (pc' := 103) (ls' := [(2, Int.ofNat o0), (2, Int.ofNat o1), (0, v2), (0, v3), (0, v4)]) (st' := [(2, Int.ofNat o0), (2, Int.ofNat o0)]) rfl ?_
  refine jEv.gfI (show jfI 104 103 (.getfield 35) 3 [8, 3, 0, 0, 2210] = true by decide +kernel) (isX8_L ho0) (by decide) ?_
  refine jEv.blk [(.iconst 1, 1, []), (.iadd, 1, [])] (by decide +kernel) (pc' := 108) (ls' := [(2, Int.ofNat o0), (2, Int.ofNat o1), (0, v2), (0, v3), (0, v4)]) (st' := [(0, (wr ((b10 o0 3) + 1))), (2, Int.ofNat o0)]) rfl ?_
  refine jEv.pfI (show jfI 104 108 (.putfield 35) 3 [8, 3, 0, 0, 2210] = true by decide +kernel) (isX8_L ho0) (by decide) ?_
  refine jEv.blk [(.aload_n 0, 1, []), (.aload_n 0, 1, [])] (by decide +kernel) (pc' := 113) (ls' := [(2, Int.ofNat o0), (2, Int.ofNat o1), (0, v2), (0, v3), (0, v4)]) (st' := [(2, Int.ofNat o0), (2, Int.ofNat o0)]) rfl ?_
  refine jEv.gfR (o' := (o0 + 1)) (show jfI 104 113 (.getfield 12) 3 [8, 0, 5, 0, 2203] = true by decide +kernel) (isX8_L ho0) (by decide) (isX8_r0 ho0) ?_
  refine jEv.gfI (show jfI 104 116 (.getfield 113) 3 [3, 3, 0, 0, 2173] = true by decide +kernel) (isX3_L (isX8_s0 ho0)) (by decide) ?_
  refine jEv.pfI (show jfI 104 119 (.putfield 89) 3 [8, 5, 0, 0, 2216] = true by decide +kernel) (isX8_L ho0) (by decide) ?_
  refine jEv.blk [(.iinc 4 1, 3, [])] (by decide +kernel) (pc' := 125) (ls' := [(2, Int.ofNat o0), (2, Int.ofNat o1), (0, v2), (0, v3), (0, (wr (v4 + 1)))]) (st' := []) rfl ?_
  refine jEv.goto (t := 31) (show jfI 104 125 (.goto (-94)) 3 [] = true by decide +kernel) rfl ?_
  exact (by cases H; exact HY)
set_option maxRecDepth 20000 in
noncomputable def Re_readSegment_B31  (h : jH) (o0 : Nat) (o1 : Nat) (v2 : Int) (v3 : Int) (v4 : Int) : Option ((Int × jH) ⊕ jH) := (if v4 < 128 then Option.bind (FR_advance h (o0 + 1) o1) (fun b4 => (if b4.1 = 0 then Option.map Sum.inr (some b4.2) else Option.bind (FR_isLast b4.2 (o0 + 1)) (fun b6 => (if b6 = 0 then some (.inl ((wr (v4 + 1)), b4.2)) else (if (b4.2 o0 3) < v3 then Re_readSegment_p89 b4.2 o0 o1 v2 v3 v4 else Option.bind (G_put b4.2 (o0 + 2) 16 (b4.2 (o0 + 1) 4) (b4.2 (o0 + 1) 5)) (fun b9 => Re_readSegment_p89 b9 o0 o1 v2 v3 v4)))))) else Option.map Sum.inr (some h))
noncomputable def Re_readSegment_L31  (h : jH) (o0 : Nat) (o1 : Nat) (v2 : Int) (v3 : Int) (v4 : Int) : Option jH := jloop (fun s : (Int × jH) => Re_readSegment_B31 s.2 o0 o1 v2 v3 s.1) (v4, h)
set_option maxRecDepth 20000 in
theorem t_Re_readSegment_B31 {T : jT} {xs : List Int} {d : Nat} {y : jV × jS} (hd : 3 ≤ d) {h : jH}  {o0 : Nat} {o1 : Nat} {v2 : Int} {v3 : Int} {v4 : Int} {out : ((Int × jH) ⊕ jH)} (ho0 : isX8 T o0) (ho1 : isX0 T o1) (H : Re_readSegment_B31 h o0 o1 v2 v3 v4 = some out) (HY : yk_Re_readSegment_L31 T xs d y o0 o1 v2 v3 out) : jEv xs d (104, 31, [(2, Int.ofNat o0), (2, Int.ofNat o1), (0, v2), (0, v3), (0, v4)], []) (T, h) y := by
  unfold Re_readSegment_B31 at H
  refine jEv.blk [(.iload 4, 2, []), (.sipush 128, 3, [])] (by decide +kernel) (pc' := 36) (ls' := [(2, Int.ofNat o0), (2, Int.ofNat o1), (0, v2), (0, v3), (0, v4)]) (st' := [(0, 128), (0, v4)]) rfl ?_
  refine jEv.ic_ge (t := 128) (show jfI 104 36 (.if_icmp .ge 92) 3 [] = true by decide +kernel) rfl H (fun c3 H => ?_) (fun c3 H => ?_)
  · refine jEv.blk [(.aload_n 0, 1, [])] (by decide +kernel) (pc' := 40) (ls' := [(2, Int.ofNat o0), (2, Int.ofNat o1), (0, v2), (0, v3), (0, v4)]) (st' := [(2, Int.ofNat o0)]) rfl ?_
    refine jEv.gfR (o' := (o0 + 1)) (show jfI 104 40 (.getfield 12) 3 [8, 0, 5, 0, 2203] = true by decide +kernel) (isX8_L ho0) (by decide) (isX8_r0 ho0) ?_
    refine jEv.blk [(.aload_n 1, 1, [])] (by decide +kernel) (pc' := 44) (ls' := [(2, Int.ofNat o0), (2, Int.ofNat o1), (0, v2), (0, v3), (0, v4)]) (st' := [(2, Int.ofNat o1), (2, Int.ofNat (o0 + 1))]) rfl ?_
    refine jbind H (fun b4 Hb4 H => ?_)
    refine jEv.calV (st' := [(0, b4.1)]) (show jfI 104 44 (.invokevirtual 96) 3 [1, 41, 1, 6036] = true by decide +kernel) rfl (Or.inl rfl) rfl (Nat.le_of_ble_eq_true rfl) (by decide +kernel) (by decide) (isX3_L (isX8_s0 ho0)) ((t_FR_advance (T := T) (xs := xs) (isX8_s0 ho0) ho1 Hb4).mono (jKle 3 hd)) rfl ?_
    refine jEv.if_eq (t := 128) (show jfI 104 47 (.ifCond .eq 81) 3 [] = true by decide +kernel) rfl H (fun c5 H => ?_) (fun c5 H => ?_)
    · refine jmapr H HY (fun out H (HY : ykV T y out) => ?_)
      exact jEv.retV (show jfI 104 128 (.return_) 1 [] = true by decide +kernel) (by decide +kernel) (by cases H; exact HY)
    · refine jEv.blk [(.aload_n 0, 1, [])] (by decide +kernel) (pc' := 51) (ls' := [(2, Int.ofNat o0), (2, Int.ofNat o1), (0, v2), (0, v3), (0, v4)]) (st' := [(2, Int.ofNat o0)]) rfl ?_
      refine jEv.gfR (o' := (o0 + 1)) (show jfI 104 51 (.getfield 12) 3 [8, 0, 5, 0, 2203] = true by decide +kernel) (isX8_L ho0) (by decide) (isX8_r0 ho0) ?_
      refine jbind H (fun b6 Hb6 H => ?_)
      refine jEv.calV (st' := [(0, b6)]) (show jfI 104 54 (.invokevirtual 99) 3 [1, 44, 0, 6037] = true by decide +kernel) rfl (Or.inl rfl) rfl (Nat.le_of_ble_eq_true rfl) (by decide +kernel) (by decide) (isX3_L (isX8_s0 ho0)) ((t_FR_isLast (T := T) (xs := xs) (isX8_s0 ho0) Hb6).mono (jKle 1 hd)) rfl ?_
      refine jEv.if_eq (t := 122) (show jfI 104 57 (.ifCond .eq 65) 3 [] = true by decide +kernel) rfl H (fun c7 H => ?_) (fun c7 H => ?_)
      · refine jEv.blk [(.iinc 4 1, 3, [])] (by decide +kernel) (pc' := 125) (ls' := [(2, Int.ofNat o0), (2, Int.ofNat o1), (0, v2), (0, v3), (0, (wr (v4 + 1)))]) (st' := []) rfl ?_
        refine jEv.goto (t := 31) (show jfI 104 125 (.goto (-94)) 3 [] = true by decide +kernel) rfl ?_
        exact (by cases H; exact HY)
      · refine jEv.blk [(.aload_n 0, 1, [])] (by decide +kernel) (pc' := 61) (ls' := [(2, Int.ofNat o0), (2, Int.ofNat o1), (0, v2), (0, v3), (0, v4)]) (st' := [(2, Int.ofNat o0)]) rfl ?_
        refine jEv.gfI (show jfI 104 61 (.getfield 35) 3 [8, 3, 0, 0, 2210] = true by decide +kernel) (isX8_L ho0) (by decide) ?_
        refine jEv.blk [(.iload_n 3, 1, [])] (by decide +kernel) (pc' := 65) (ls' := [(2, Int.ofNat o0), (2, Int.ofNat o1), (0, v2), (0, v3), (0, v4)]) (st' := [(0, v3), (0, (b4.2 o0 3))]) rfl ?_
        refine jEv.ic_lt (t := 89) (show jfI 104 65 (.if_icmp .lt 24) 3 [] = true by decide +kernel) rfl H (fun c8 H => ?_) (fun c8 H => ?_)
        · exact t_Re_readSegment_p89 (T := T) (xs := xs) (y := y) hd ho0 ho1 H HY
        · refine jEv.blk [(.aload_n 0, 1, [])] (by decide +kernel) (pc' := 69) (ls' := [(2, Int.ofNat o0), (2, Int.ofNat o1), (0, v2), (0, v3), (0, v4)]) (st' := [(2, Int.ofNat o0)]) rfl ?_
          refine jEv.gfR (o' := (o0 + 2)) (show jfI 104 69 (.getfield 18) 3 [8, 1, 5, 0, 2205] = true by decide +kernel) (isX8_L ho0) (by decide) (isX8_r1 ho0) ?_
          refine jEv.blk [(.aload_n 0, 1, [])] (by decide +kernel) (pc' := 73) (ls' := [(2, Int.ofNat o0), (2, Int.ofNat o1), (0, v2), (0, v3), (0, v4)]) (st' := [(2, Int.ofNat o0), (2, Int.ofNat (o0 + 2))]) rfl ?_
          refine jEv.gfR (o' := (o0 + 1)) (show jfI 104 73 (.getfield 12) 3 [8, 0, 5, 0, 2203] = true by decide +kernel) (isX8_L ho0) (by decide) (isX8_r0 ho0) ?_
          refine jEv.gfI (show jfI 104 76 (.getfield 103) 3 [3, 4, 0, 0, 2174] = true by decide +kernel) (isX3_L (isX8_s0 ho0)) (by decide) ?_
          refine jEv.blk [(.aload_n 0, 1, [])] (by decide +kernel) (pc' := 80) (ls' := [(2, Int.ofNat o0), (2, Int.ofNat o1), (0, v2), (0, v3), (0, v4)]) (st' := [(2, Int.ofNat o0), (0, (b4.2 (o0 + 1) 4)), (2, Int.ofNat (o0 + 2))]) rfl ?_
          refine jEv.gfR (o' := (o0 + 1)) (show jfI 104 80 (.getfield 12) 3 [8, 0, 5, 0, 2203] = true by decide +kernel) (isX8_L ho0) (by decide) (isX8_r0 ho0) ?_
          refine jEv.gfI (show jfI 104 83 (.getfield 106) 3 [3, 5, 0, 0, 2176] = true by decide +kernel) (isX3_L (isX8_s0 ho0)) (by decide) ?_
          refine jbind H (fun b9 Hb9 H => ?_)
          refine jEv.calS (st' := []) (show jfI 104 86 (.invokestatic 109) 3 [4, 138, 3, 6038] = true by decide +kernel) rfl (Or.inr rfl) rfl (Nat.le_of_ble_eq_true rfl) ((t_G_put (T := T) (xs := xs) (isX8_a1 ho0) Hb9).mono (jKle 1 hd)) rfl ?_
          exact t_Re_readSegment_p89 (T := T) (xs := xs) (y := y) hd ho0 ho1 H HY
  · refine jmapr H HY (fun out H (HY : ykV T y out) => ?_)
    exact jEv.retV (show jfI 104 128 (.return_) 1 [] = true by decide +kernel) (by decide +kernel) (by cases H; exact HY)
theorem t_Re_readSegment_L31 {T : jT} {xs : List Int} {d : Nat} {y : jV × jS} (hd : 3 ≤ d) {h : jH}  {o0 : Nat} {o1 : Nat} {v2 : Int} {v3 : Int} {v4 : Int} {out : jH} (ho0 : isX8 T o0) (ho1 : isX0 T o1) (H : Re_readSegment_L31 h o0 o1 v2 v3 v4 = some out) (HY : ykV T y out) : jEv xs d (104, 31, [(2, Int.ofNat o0), (2, Int.ofNat o1), (0, v2), (0, v3), (0, v4)], []) (T, h) y :=
  jloop_sound (G := fun s : (Int × jH) => jEv xs d (104, 31, [(2, Int.ofNat o0), (2, Int.ofNat o1), (0, v2), (0, v3), (0, s.1)], []) (T, s.2) y) (K := yk_Re_readSegment_L31 T xs d y o0 o1 v2 v3) (fun s out H HY => t_Re_readSegment_B31 hd ho0 ho1 H HY) (fun s' hg => hg) (s := (v4, h)) H HY
set_option maxRecDepth 20000 in
noncomputable def Re_readSegment  (h : jH) (o0 : Nat) (o1 : Nat) (v2 : Int) (v3 : Int) : Option jH := Option.bind (Di_serialOf (jup h o0 4 v2) o1 v2) (fun b1 => Option.bind (FR_open (jup (jup (jup h o0 4 v2) o0 6 b1) o0 5 5) (o0 + 1) o1 v2) (fun b2 => Re_readSegment_L31 b2 o0 o1 v2 v3 0))
set_option maxRecDepth 20000 in
theorem t_Re_readSegment {T : jT} {xs : List Int} {h : jH}  {o0 : Nat} {o1 : Nat} {v2 : Int} {v3 : Int} {out : jH} (ho0 : isX8 T o0) (ho1 : isX0 T o1) (H : Re_readSegment h o0 o1 v2 v3 = some out) : jEm xs 4 104 [(2, Int.ofNat o0), (2, Int.ofNat o1), (0, v2), (0, v3)] (T, h) ((3, 0), (T, out)) := by
  have hd : 3 ≤ 3 := Nat.le_refl _
  obtain ⟨y, ey⟩ : ∃ y : jV × jS, y = ((3, 0), (T, out)) := ⟨_, rfl⟩
  rw [← ey]
  have HY : ykV T y out := ey
  refine jEm.ent (n := 5) (by decide +kernel) (Nat.le_of_ble_eq_true rfl) ?_
  show jEv xs 3 (104, 0, [(2, Int.ofNat o0), (2, Int.ofNat o1), (0, v2), (0, v3), (3, 0)], []) (T, h) y
  unfold Re_readSegment at H
  refine jEv.blk [(.aload_n 0, 1, []), (.iload_n 2, 1, [])] (by decide +kernel) (pc' := 2) (ls' := [(2, Int.ofNat o0), (2, Int.ofNat o1), (0, v2), (0, v3), (3, 0)]) (st' := [(0, v2), (2, Int.ofNat o0)]) rfl ?_
  refine jEv.pfI (show jfI 104 2 (.putfield 39) 3 [8, 4, 0, 0, 2213] = true by decide +kernel) (isX8_L ho0) (by decide) ?_
  refine jEv.blk [(.aload_n 0, 1, []), (.aload_n 1, 1, []), (.iload_n 2, 1, [])] (by decide +kernel) (pc' := 8) (ls' := [(2, Int.ofNat o0), (2, Int.ofNat o1), (0, v2), (0, v3), (3, 0)]) (st' := [(0, v2), (2, Int.ofNat o1), (2, Int.ofNat o0)]) rfl ?_
  refine jbind H (fun b1 Hb1 H => ?_)
  refine jEv.calV (st' := [(0, b1), (2, Int.ofNat o0)]) (show jfI 104 8 (.invokevirtual 86) 3 [1, 10, 1, 6030] = true by decide +kernel) rfl (Or.inl rfl) rfl (Nat.le_of_ble_eq_true rfl) (by decide +kernel) (by decide) (isX0_L ho1) ((t_Di_serialOf (T := T) (xs := xs) ho1 Hb1).mono (jKle 2 hd)) rfl ?_
  refine jEv.pfI (show jfI 104 11 (.putfield 68) 3 [8, 6, 0, 0, 2219] = true by decide +kernel) (isX8_L ho0) (by decide) ?_
  refine jEv.blk [(.aload_n 0, 1, []), (.iconst 5, 1, [])] (by decide +kernel) (pc' := 16) (ls' := [(2, Int.ofNat o0), (2, Int.ofNat o1), (0, v2), (0, v3), (3, 0)]) (st' := [(0, 5), (2, Int.ofNat o0)]) rfl ?_
  refine jEv.pfI (show jfI 104 16 (.putfield 89) 3 [8, 5, 0, 0, 2216] = true by decide +kernel) (isX8_L ho0) (by decide) ?_
  refine jEv.blk [(.aload_n 0, 1, [])] (by decide +kernel) (pc' := 20) (ls' := [(2, Int.ofNat o0), (2, Int.ofNat o1), (0, v2), (0, v3), (3, 0)]) (st' := [(2, Int.ofNat o0)]) rfl ?_
  refine jEv.gfR (o' := (o0 + 1)) (show jfI 104 20 (.getfield 12) 3 [8, 0, 5, 0, 2203] = true by decide +kernel) (isX8_L ho0) (by decide) (isX8_r0 ho0) ?_
  refine jEv.blk [(.aload_n 1, 1, []), (.iload_n 2, 1, [])] (by decide +kernel) (pc' := 25) (ls' := [(2, Int.ofNat o0), (2, Int.ofNat o1), (0, v2), (0, v3), (3, 0)]) (st' := [(0, v2), (2, Int.ofNat o1), (2, Int.ofNat (o0 + 1))]) rfl ?_
  refine jbind H (fun b2 Hb2 H => ?_)
  refine jEv.calV (st' := []) (show jfI 104 25 (.invokevirtual 92) 3 [1, 40, 2, 6035] = true by decide +kernel) rfl (Or.inl rfl) rfl (Nat.le_of_ble_eq_true rfl) (by decide +kernel) (by decide) (isX3_L (isX8_s0 ho0)) ((t_FR_open (T := T) (xs := xs) (isX8_s0 ho0) ho1 Hb2).mono (jKle 3 hd)) rfl ?_
  refine jEv.blk [(.iconst 0, 1, []), (.istore 4, 2, [])] (by decide +kernel) (pc' := 31) (ls' := [(2, Int.ofNat o0), (2, Int.ofNat o1), (0, v2), (0, v3), (0, 0)]) (st' := []) rfl ?_
  exact t_Re_readSegment_L31 (T := T) (xs := xs) (y := y) hd ho0 ho1 H HY
def yk_Re_following_L4 (T : jT) (xs : List Int) (d : Nat) (y : jV × jS) (h : jH)  (o0 : Nat) (o1 : Nat) : ((Int × Int) ⊕ Int) → Prop
  | .inl (v2, v3) => jEv xs d (105, 4, [(2, Int.ofNat o0), (2, Int.ofNat o1), (0, v2), (0, v3)], []) (T, h) y
  | .inr o => ykIp T h y o
set_option maxRecDepth 20000 in
noncomputable def Re_following_p62  (h : jH) (o0 : Nat) (o1 : Nat) (v3 : Int) : Option ((Int × Int) ⊕ Int) := some (.inl (v3, (wr (v3 + 1))))
set_option maxRecDepth 20000 in
theorem t_Re_following_p62 {T : jT} {xs : List Int} {d : Nat} {y : jV × jS} (hd : 3 ≤ d) {h : jH}  {o0 : Nat} {o1 : Nat} {v3 : Int} {out : ((Int × Int) ⊕ Int)} (ho0 : isX8 T o0) (ho1 : isX0 T o1) (H : Re_following_p62 h o0 o1 v3 = some out) (HY : yk_Re_following_L4 T xs d y h o0 o1 out) : jEv xs d (105, 62, [(2, Int.ofNat o0), (2, Int.ofNat o1), (3, 0), (0, v3)], []) (T, h) y := by
  unfold Re_following_p62 at H
  refine jEv.blk [(.iload_n 3, 1, []), (.istore_n 2, 1, [])] (by decide +kernel) (pc' := 64) (ls' := [(2, Int.ofNat o0), (2, Int.ofNat o1), (0, v3), (0, v3)]) (st' := []) rfl ?_
  refine jEv.blk [(.iinc 3 1, 3, [])] (by decide +kernel) (pc' := 67) (ls' := [(2, Int.ofNat o0), (2, Int.ofNat o1), (0, v3), (0, (wr (v3 + 1)))]) (st' := []) rfl ?_
  refine jEv.goto (t := 4) (show jfI 105 67 (.goto (-63)) 3 [] = true by decide +kernel) rfl ?_
  exact (by cases H; exact HY)
set_option maxRecDepth 20000 in
noncomputable def Re_following_B4  (h : jH) (o0 : Nat) (o1 : Nat) (v2 : Int) (v3 : Int) : Option ((Int × Int) ⊕ Int) := (if v3 < (h o1 2) then Option.bind (Di_headStands h o1 v3) (fun b2 => (if b2 = 0 then some (.inl (v2, (wr (v3 + 1)))) else Option.bind (Di_serialOf h o1 v3) (fun b4 => (if (h o0 6) < b4 then Option.bind (Di_firstOf h o1 v3) (fun b6 => (if b6 = (h o0 3) then (if v2 = (-1) then Re_following_p62 h o0 o1 v3 else Option.bind (Di_serialOf h o1 v3) (fun b9 => Option.bind (Di_serialOf h o1 v2) (fun b10 => (if b10 < b9 then Re_following_p62 h o0 o1 v3 else some (.inl (v2, (wr (v3 + 1)))))))) else some (.inl (v2, (wr (v3 + 1)))))) else some (.inl (v2, (wr (v3 + 1)))))))) else Option.map Sum.inr (some v2))
noncomputable def Re_following_L4  (h : jH) (o0 : Nat) (o1 : Nat) (v2 : Int) (v3 : Int) : Option Int := jloop (fun s : (Int × Int) => Re_following_B4 h o0 o1 s.1 s.2) (v2, v3)
set_option maxRecDepth 20000 in
theorem t_Re_following_B4 {T : jT} {xs : List Int} {d : Nat} {y : jV × jS} (hd : 3 ≤ d) {h : jH}  {o0 : Nat} {o1 : Nat} {v2 : Int} {v3 : Int} {out : ((Int × Int) ⊕ Int)} (ho0 : isX8 T o0) (ho1 : isX0 T o1) (H : Re_following_B4 h o0 o1 v2 v3 = some out) (HY : yk_Re_following_L4 T xs d y h o0 o1 out) : jEv xs d (105, 4, [(2, Int.ofNat o0), (2, Int.ofNat o1), (0, v2), (0, v3)], []) (T, h) y := by
  unfold Re_following_B4 at H
  refine jEv.blk [(.iload_n 3, 1, []), (.aload_n 1, 1, [])] (by decide +kernel) (pc' := 6) (ls' := [(2, Int.ofNat o0), (2, Int.ofNat o1), (0, v2), (0, v3)]) (st' := [(2, Int.ofNat o1), (0, v3)]) rfl ?_
  refine jEv.gfI (show jfI 105 6 (.getfield 79) 3 [0, 2, 0, 0, 1184] = true by decide +kernel) (isX0_L ho1) (by decide) ?_
  refine jEv.ic_ge (t := 70) (show jfI 105 9 (.if_icmp .ge 61) 3 [] = true by decide +kernel) rfl H (fun c1 H => ?_) (fun c1 H => ?_)
  · refine jEv.blk [(.aload_n 1, 1, []), (.iload_n 3, 1, [])] (by decide +kernel) (pc' := 14) (ls' := [(2, Int.ofNat o0), (2, Int.ofNat o1), (0, v2), (0, v3)]) (st' := [(0, v3), (2, Int.ofNat o1)]) rfl ?_
    refine jbind H (fun b2 Hb2 H => ?_)
    refine jEv.calV (st' := [(0, b2)]) (show jfI 105 14 (.invokevirtual 82) 3 [1, 8, 1, 6028] = true by decide +kernel) rfl (Or.inl rfl) rfl (Nat.le_of_ble_eq_true rfl) (by decide +kernel) (by decide) (isX0_L ho1) ((t_Di_headStands (T := T) (xs := xs) ho1 Hb2).mono (jKle 3 hd)) rfl ?_
    refine jEv.if_eq (t := 64) (show jfI 105 17 (.ifCond .eq 47) 3 [] = true by decide +kernel) rfl H (fun c3 H => ?_) (fun c3 H => ?_)
    · refine jEv.blk [(.iinc 3 1, 3, [])] (by decide +kernel) (pc' := 67) (ls' := [(2, Int.ofNat o0), (2, Int.ofNat o1), (0, v2), (0, (wr (v3 + 1)))]) (st' := []) rfl ?_
      refine jEv.goto (t := 4) (show jfI 105 67 (.goto (-63)) 3 [] = true by decide +kernel) rfl ?_
      exact (by cases H; exact HY)
    · refine jEv.blk [(.aload_n 1, 1, []), (.iload_n 3, 1, [])] (by decide +kernel) (pc' := 22) (ls' := [(2, Int.ofNat o0), (2, Int.ofNat o1), (0, v2), (0, v3)]) (st' := [(0, v3), (2, Int.ofNat o1)]) rfl ?_
      refine jbind H (fun b4 Hb4 H => ?_)
      refine jEv.calV (st' := [(0, b4)]) (show jfI 105 22 (.invokevirtual 86) 3 [1, 10, 1, 6030] = true by decide +kernel) rfl (Or.inl rfl) rfl (Nat.le_of_ble_eq_true rfl) (by decide +kernel) (by decide) (isX0_L ho1) ((t_Di_serialOf (T := T) (xs := xs) ho1 Hb4).mono (jKle 2 hd)) rfl ?_
      refine jEv.blk [(.aload_n 0, 1, [])] (by decide +kernel) (pc' := 26) (ls' := [(2, Int.ofNat o0), (2, Int.ofNat o1), (0, v2), (0, v3)]) (st' := [(2, Int.ofNat o0), (0, b4)]) rfl ?_
      refine jEv.gfI (show jfI 105 26 (.getfield 68) 3 [8, 6, 0, 0, 2219] = true by decide +kernel) (isX8_L ho0) (by decide) ?_
      refine jEv.ic_le (t := 64) (show jfI 105 29 (.if_icmp .le 35) 3 [] = true by decide +kernel) rfl H (fun c5 H => ?_) (fun c5 H => ?_)
      · refine jEv.blk [(.aload_n 1, 1, []), (.iload_n 3, 1, [])] (by decide +kernel) (pc' := 34) (ls' := [(2, Int.ofNat o0), (2, Int.ofNat o1), (0, v2), (0, v3)]) (st' := [(0, v3), (2, Int.ofNat o1)]) rfl ?_
        refine jbind H (fun b6 Hb6 H => ?_)
        refine jEv.calV (st' := [(0, b6)]) (show jfI 105 34 (.invokevirtual 46) 3 [1, 14, 1, 6029] = true by decide +kernel) rfl (Or.inl rfl) rfl (Nat.le_of_ble_eq_true rfl) (by decide +kernel) (by decide) (isX0_L ho1) ((t_Di_firstOf (T := T) (xs := xs) ho1 Hb6).mono (jKle 2 hd)) rfl ?_
        refine jEv.blk [(.aload_n 0, 1, [])] (by decide +kernel) (pc' := 38) (ls' := [(2, Int.ofNat o0), (2, Int.ofNat o1), (0, v2), (0, v3)]) (st' := [(2, Int.ofNat o0), (0, b6)]) rfl ?_
        refine jEv.gfI (show jfI 105 38 (.getfield 35) 3 [8, 3, 0, 0, 2210] = true by decide +kernel) (isX8_L ho0) (by decide) ?_
        refine jEv.ic_ne (t := 64) (show jfI 105 41 (.if_icmp .ne 23) 3 [] = true by decide +kernel) rfl H (fun c7 H => ?_) (fun c7 H => ?_)
        · refine jEv.blk [(.iload_n 2, 1, []), (.iconst (-1), 1, [])] (by decide +kernel) (pc' := 46) (ls' := [(2, Int.ofNat o0), (2, Int.ofNat o1), (0, v2), (0, v3)]) (st' := [(0, (-1)), (0, v2)]) rfl ?_
          refine jEv.ic_eq (t := 62) (show jfI 105 46 (.if_icmp .eq 16) 3 [] = true by decide +kernel) rfl H (fun c8 H => ?_) (fun c8 H => ?_)
          · exact jEv.weak (a := [(2, Int.ofNat o0), (2, Int.ofNat o1), (3, 0), (0, v3)]) (jles.c1 (jles.c1 (jles.c0 (jles.c1 jles.nl)))) (t_Re_following_p62 (T := T) (xs := xs) (y := y) hd ho0 ho1 H HY)
          · refine jEv.blk [(.aload_n 1, 1, []), (.iload_n 3, 1, [])] (by decide +kernel) (pc' := 51) (ls' := [(2, Int.ofNat o0), (2, Int.ofNat o1), (0, v2), (0, v3)]) (st' := [(0, v3), (2, Int.ofNat o1)]) rfl ?_
            refine jbind H (fun b9 Hb9 H => ?_)
            refine jEv.calV (st' := [(0, b9)]) (show jfI 105 51 (.invokevirtual 86) 3 [1, 10, 1, 6030] = true by decide +kernel) rfl (Or.inl rfl) rfl (Nat.le_of_ble_eq_true rfl) (by decide +kernel) (by decide) (isX0_L ho1) ((t_Di_serialOf (T := T) (xs := xs) ho1 Hb9).mono (jKle 2 hd)) rfl ?_
            refine jEv.blk [(.aload_n 1, 1, []), (.iload_n 2, 1, [])] (by decide +kernel) (pc' := 56) (ls' := [(2, Int.ofNat o0), (2, Int.ofNat o1), (0, v2), (0, v3)]) (st' := [(0, v2), (2, Int.ofNat o1), (0, b9)]) rfl ?_
            refine jbind H (fun b10 Hb10 H => ?_)
            refine jEv.calV (st' := [(0, b10), (0, b9)]) (show jfI 105 56 (.invokevirtual 86) 3 [1, 10, 1, 6030] = true by decide +kernel) rfl (Or.inl rfl) rfl (Nat.le_of_ble_eq_true rfl) (by decide +kernel) (by decide) (isX0_L ho1) ((t_Di_serialOf (T := T) (xs := xs) ho1 Hb10).mono (jKle 2 hd)) rfl ?_
            refine jEv.ic_le (t := 64) (show jfI 105 59 (.if_icmp .le 5) 3 [] = true by decide +kernel) rfl H (fun c11 H => ?_) (fun c11 H => ?_)
            · exact jEv.weak (a := [(2, Int.ofNat o0), (2, Int.ofNat o1), (3, 0), (0, v3)]) (jles.c1 (jles.c1 (jles.c0 (jles.c1 jles.nl)))) (t_Re_following_p62 (T := T) (xs := xs) (y := y) hd ho0 ho1 H HY)
            · refine jEv.blk [(.iinc 3 1, 3, [])] (by decide +kernel) (pc' := 67) (ls' := [(2, Int.ofNat o0), (2, Int.ofNat o1), (0, v2), (0, (wr (v3 + 1)))]) (st' := []) rfl ?_
              refine jEv.goto (t := 4) (show jfI 105 67 (.goto (-63)) 3 [] = true by decide +kernel) rfl ?_
              exact (by cases H; exact HY)
        · refine jEv.blk [(.iinc 3 1, 3, [])] (by decide +kernel) (pc' := 67) (ls' := [(2, Int.ofNat o0), (2, Int.ofNat o1), (0, v2), (0, (wr (v3 + 1)))]) (st' := []) rfl ?_
          refine jEv.goto (t := 4) (show jfI 105 67 (.goto (-63)) 3 [] = true by decide +kernel) rfl ?_
          exact (by cases H; exact HY)
      · refine jEv.blk [(.iinc 3 1, 3, [])] (by decide +kernel) (pc' := 67) (ls' := [(2, Int.ofNat o0), (2, Int.ofNat o1), (0, v2), (0, (wr (v3 + 1)))]) (st' := []) rfl ?_
        refine jEv.goto (t := 4) (show jfI 105 67 (.goto (-63)) 3 [] = true by decide +kernel) rfl ?_
        exact (by cases H; exact HY)
  · refine jmapr H HY (fun out H (HY : ykIp T h y out) => ?_)
    refine jEv.blk [(.iload_n 2, 1, [])] (by decide +kernel) (pc' := 71) (ls' := [(2, Int.ofNat o0), (2, Int.ofNat o1), (0, v2), (0, v3)]) (st' := [(0, v2)]) rfl ?_
    exact jEv.retI (show jfI 105 71 (.ireturn) 1 [] = true by decide +kernel) (by decide +kernel) (by cases H; exact HY)
theorem t_Re_following_L4 {T : jT} {xs : List Int} {d : Nat} {y : jV × jS} (hd : 3 ≤ d) {h : jH}  {o0 : Nat} {o1 : Nat} {v2 : Int} {v3 : Int} {out : Int} (ho0 : isX8 T o0) (ho1 : isX0 T o1) (H : Re_following_L4 h o0 o1 v2 v3 = some out) (HY : ykIp T h y out) : jEv xs d (105, 4, [(2, Int.ofNat o0), (2, Int.ofNat o1), (0, v2), (0, v3)], []) (T, h) y :=
  jloop_sound (G := fun s : (Int × Int) => jEv xs d (105, 4, [(2, Int.ofNat o0), (2, Int.ofNat o1), (0, s.1), (0, s.2)], []) (T, h) y) (K := yk_Re_following_L4 T xs d y h o0 o1) (fun s out H HY => t_Re_following_B4 hd ho0 ho1 H HY) (fun s' hg => hg) (s := (v2, v3)) H HY
set_option maxRecDepth 20000 in
noncomputable def Re_following  (h : jH) (o0 : Nat) (o1 : Nat) : Option Int := Re_following_L4 h o0 o1 (-1) 0
set_option maxRecDepth 20000 in
theorem t_Re_following {T : jT} {xs : List Int} {h : jH}  {o0 : Nat} {o1 : Nat} {out : Int} (ho0 : isX8 T o0) (ho1 : isX0 T o1) (H : Re_following h o0 o1 = some out) : jEm xs 4 105 [(2, Int.ofNat o0), (2, Int.ofNat o1)] (T, h) ((0, out), (T, h)) := by
  have hd : 3 ≤ 3 := Nat.le_refl _
  obtain ⟨y, ey⟩ : ∃ y : jV × jS, y = ((0, out), (T, h)) := ⟨_, rfl⟩
  rw [← ey]
  have HY : ykIp T h y out := ey
  refine jEm.ent (n := 4) (by decide +kernel) (Nat.le_of_ble_eq_true rfl) ?_
  show jEv xs 3 (105, 0, [(2, Int.ofNat o0), (2, Int.ofNat o1), (3, 0), (3, 0)], []) (T, h) y
  unfold Re_following at H
  refine jEv.blk [(.iconst (-1), 1, []), (.istore_n 2, 1, []), (.iconst 0, 1, []), (.istore_n 3, 1, [])] (by decide +kernel) (pc' := 4) (ls' := [(2, Int.ofNat o0), (2, Int.ofNat o1), (0, (-1)), (0, 0)]) (st' := []) rfl ?_
  exact t_Re_following_L4 (T := T) (xs := xs) (y := y) hd ho0 ho1 H HY
set_option maxRecDepth 20000 in
noncomputable def Re_withoutGround  (h : jH) (o0 : Nat) (v1 : Int) : Option jH := some (jup (jup (jup (jup (jup (jfill h (o0 + 3) 4 (-1)) o0 3 v1) o0 4 0) o0 5 5) o0 6 0) o0 7 1)
set_option maxRecDepth 20000 in
theorem t_Re_withoutGround {T : jT} {xs : List Int} {h : jH}  {o0 : Nat} {v1 : Int} {out : jH} (ho0 : isX8 T o0) (H : Re_withoutGround h o0 v1 = some out) : jEm xs 2 106 [(2, Int.ofNat o0), (0, v1)] (T, h) ((3, 0), (T, out)) := by
  have hd : 1 ≤ 1 := Nat.le_refl _
  obtain ⟨y, ey⟩ : ∃ y : jV × jS, y = ((3, 0), (T, out)) := ⟨_, rfl⟩
  rw [← ey]
  have HY : ykV T y out := ey
  refine jEm.ent (n := 2) (by decide +kernel) (Nat.le_of_ble_eq_true rfl) ?_
  show jEv xs 1 (106, 0, [(2, Int.ofNat o0), (0, v1)], []) (T, h) y
  unfold Re_withoutGround at H
  refine jEv.blk [(.aload_n 0, 1, [])] (by decide +kernel) (pc' := 1) (ls' := [(2, Int.ofNat o0), (0, v1)]) (st' := [(2, Int.ofNat o0)]) rfl ?_
  refine jEv.gfR (o' := (o0 + 3)) (show jfI 106 1 (.getfield 22) 3 [8, 2, 5, 0, 2208] = true by decide +kernel) (isX8_L ho0) (by decide) (isX8_r2 ho0) ?_
  refine jEv.blk [(.iconst (-1), 1, [])] (by decide +kernel) (pc' := 5) (ls' := [(2, Int.ofNat o0), (0, v1)]) (st' := [(0, (-1)), (2, Int.ofNat (o0 + 3))]) rfl ?_
  refine jEv.calS (st' := []) (show jfI 106 5 (.invokestatic 29) 3 [3, 359, 2, 6023] = true by decide +kernel) rfl (Or.inl rfl) rfl (Nat.le_of_ble_eq_true rfl) ((t_JArr_fill (xs := xs) (by decide) (isX8_a2 ho0)).mono (jKle 1 hd)) rfl ?_
  refine jEv.blk [(.aload_n 0, 1, []), (.iload_n 1, 1, [])] (by decide +kernel) (pc' := 10) (ls' := [(2, Int.ofNat o0), (0, v1)]) (st' := [(0, v1), (2, Int.ofNat o0)]) rfl ?_
  refine jEv.pfI (show jfI 106 10 (.putfield 35) 3 [8, 3, 0, 0, 2210] = true by decide +kernel) (isX8_L ho0) (by decide) ?_
  refine jEv.blk [(.aload_n 0, 1, []), (.iconst 0, 1, [])] (by decide +kernel) (pc' := 15) (ls' := [(2, Int.ofNat o0), (0, v1)]) (st' := [(0, 0), (2, Int.ofNat o0)]) rfl ?_
  refine jEv.pfI (show jfI 106 15 (.putfield 39) 3 [8, 4, 0, 0, 2213] = true by decide +kernel) (isX8_L ho0) (by decide) ?_
  refine jEv.blk [(.aload_n 0, 1, []), (.iconst 5, 1, [])] (by decide +kernel) (pc' := 20) (ls' := [(2, Int.ofNat o0), (0, v1)]) (st' := [(0, 5), (2, Int.ofNat o0)]) rfl ?_
  refine jEv.pfI (show jfI 106 20 (.putfield 89) 3 [8, 5, 0, 0, 2216] = true by decide +kernel) (isX8_L ho0) (by decide) ?_
  refine jEv.blk [(.aload_n 0, 1, []), (.iconst 0, 1, [])] (by decide +kernel) (pc' := 25) (ls' := [(2, Int.ofNat o0), (0, v1)]) (st' := [(0, 0), (2, Int.ofNat o0)]) rfl ?_
  refine jEv.pfI (show jfI 106 25 (.putfield 68) 3 [8, 6, 0, 0, 2219] = true by decide +kernel) (isX8_L ho0) (by decide) ?_
  refine jEv.blk [(.aload_n 0, 1, []), (.iconst 1, 1, [])] (by decide +kernel) (pc' := 30) (ls' := [(2, Int.ofNat o0), (0, v1)]) (st' := [(0, 1), (2, Int.ofNat o0)]) rfl ?_
  refine jEv.pfZ (show jfI 106 30 (.putfield 75) 3 [8, 7, 0, 1, 2221] = true by decide +kernel) (isX8_L ho0) (by decide) (by decide) ?_
  exact jEv.retV (show jfI 106 33 (.return_) 1 [] = true by decide +kernel) (by decide +kernel) (by cases H; exact HY)
def yk_Re_read_L53 (T : jT) (xs : List Int) (d : Nat) (y : jV × jS)  (o0 : Nat) (o1 : Nat) (v2 : Int) : ((Int × Int × jH) ⊕ jH) → Prop
  | .inl (v4, v5, h) => jEv xs d (102, 53, [(2, Int.ofNat o0), (2, Int.ofNat o1), (0, v2), (3, 0), (0, v4), (0, v5)], []) (T, h) y
  | .inr o => ykV T y o
set_option maxRecDepth 20000 in
noncomputable def Re_read_p102  (h : jH) (o0 : Nat) (v2 : Int) : Option jH := Option.bind (Re_withoutGround h o0 v2) (fun b15 => some b15)
set_option maxRecDepth 20000 in
theorem t_Re_read_p102 {T : jT} {xs : List Int} {d : Nat} {y : jV × jS} (hd : 4 ≤ d) {h : jH}  {o0 : Nat} {v2 : Int} {out : jH} (ho0 : isX8 T o0) (H : Re_read_p102 h o0 v2 = some out) (HY : ykV T y out) : jEv xs d (102, 102, [(2, Int.ofNat o0), (3, 0), (0, v2), (3, 0), (3, 0), (3, 0)], []) (T, h) y := by
  unfold Re_read_p102 at H
  refine jEv.blk [(.aload_n 0, 1, []), (.iload_n 2, 1, [])] (by decide +kernel) (pc' := 104) (ls' := [(2, Int.ofNat o0), (3, 0), (0, v2), (3, 0), (3, 0), (3, 0)]) (st' := [(0, v2), (2, Int.ofNat o0)]) rfl ?_
  refine jbind H (fun b15 Hb15 H => ?_)
  refine jEv.calV (st' := []) (show jfI 102 104 (.invokevirtual 60) 3 [1, 106, 1, 6043] = true by decide +kernel) rfl (Or.inl rfl) rfl (Nat.le_of_ble_eq_true rfl) (by decide +kernel) (by decide) (isX8_L ho0) ((t_Re_withoutGround (T := T) (xs := xs) ho0 Hb15).mono (jKle 2 hd)) rfl ?_
  refine jEv.goto (t := 141) (show jfI 102 107 (.goto 34) 3 [] = true by decide +kernel) rfl ?_
  exact jEv.retV (show jfI 102 141 (.return_) 1 [] = true by decide +kernel) (by decide +kernel) (by cases H; exact HY)
set_option maxRecDepth 20000 in
noncomputable def Re_read_p138  (h : jH) (os0 : Nat) (vs1 : Int) : Option jH := (if vs1 = 0 ∨ vs1 = 1 then some (jup h os0 7 vs1) else none)
set_option maxRecDepth 20000 in
theorem t_Re_read_p138 {T : jT} {xs : List Int} {d : Nat} {y : jV × jS} (hd : 4 ≤ d) {h : jH}  {os0 : Nat} {vs1 : Int} {out : jH} (hos0 : isX8 T os0) (H : Re_read_p138 h os0 vs1 = some out) (HY : ykV T y out) : jEv xs d (102, 138, [(3, 0), (3, 0), (3, 0), (3, 0), (3, 0), (3, 0)], [(0, vs1), (2, Int.ofNat os0)]) (T, h) y := by
  unfold Re_read_p138 at H
  refine jchk H (fun c16 H => ?_)
  refine jEv.pfZ (show jfI 102 138 (.putfield 75) 3 [8, 7, 0, 1, 2221] = true by decide +kernel) (isX8_L hos0) (by decide) c16 ?_
  exact jEv.retV (show jfI 102 141 (.return_) 1 [] = true by decide +kernel) (by decide +kernel) (by cases H; exact HY)
set_option maxRecDepth 20000 in
noncomputable def Re_read_p133  (h : jH) (os0 : Nat) : Option jH := Re_read_p138 h os0 1
set_option maxRecDepth 20000 in
theorem t_Re_read_p133 {T : jT} {xs : List Int} {d : Nat} {y : jV × jS} (hd : 4 ≤ d) {h : jH}  {os0 : Nat} {out : jH} (hos0 : isX8 T os0) (H : Re_read_p133 h os0 = some out) (HY : ykV T y out) : jEv xs d (102, 133, [(3, 0), (3, 0), (3, 0), (3, 0), (3, 0), (3, 0)], [(2, Int.ofNat os0)]) (T, h) y := by
  unfold Re_read_p133 at H
  refine jEv.blk [(.iconst 1, 1, [])] (by decide +kernel) (pc' := 134) (ls' := [(3, 0), (3, 0), (3, 0), (3, 0), (3, 0), (3, 0)]) (st' := [(0, 1), (2, Int.ofNat os0)]) rfl ?_
  refine jEv.goto (t := 138) (show jfI 102 134 (.goto 4) 3 [] = true by decide +kernel) rfl ?_
  exact t_Re_read_p138 (T := T) (xs := xs) (y := y) hd hos0 H HY
set_option maxRecDepth 20000 in
noncomputable def Re_read_p86  (h : jH) (o0 : Nat) (o1 : Nat) (v2 : Int) : Option jH := (if (h o0 4) = (-1) then Re_read_p102 h o0 v2 else (if (h o0 3) < v2 then Re_read_p102 h o0 v2 else Option.bind (Di_greatestSerial h o1) (fun b11 => (if (h o0 6) < b11 then Re_read_p133 h o0 else Option.bind (FR_anyBehind h (o0 + 1) o1) (fun b13 => (if b13 = 0 then Re_read_p138 h o0 0 else Re_read_p133 h o0))))))
set_option maxRecDepth 20000 in
theorem t_Re_read_p86 {T : jT} {xs : List Int} {d : Nat} {y : jV × jS} (hd : 4 ≤ d) {h : jH}  {o0 : Nat} {o1 : Nat} {v2 : Int} {out : jH} (ho0 : isX8 T o0) (ho1 : isX0 T o1) (H : Re_read_p86 h o0 o1 v2 = some out) (HY : ykV T y out) : jEv xs d (102, 86, [(2, Int.ofNat o0), (2, Int.ofNat o1), (0, v2), (3, 0), (3, 0), (3, 0)], []) (T, h) y := by
  unfold Re_read_p86 at H
  refine jEv.blk [(.aload_n 0, 1, [])] (by decide +kernel) (pc' := 87) (ls' := [(2, Int.ofNat o0), (2, Int.ofNat o1), (0, v2), (3, 0), (3, 0), (3, 0)]) (st' := [(2, Int.ofNat o0)]) rfl ?_
  refine jEv.gfI (show jfI 102 87 (.getfield 39) 3 [8, 4, 0, 0, 2213] = true by decide +kernel) (isX8_L ho0) (by decide) ?_
  refine jEv.blk [(.iconst (-1), 1, [])] (by decide +kernel) (pc' := 91) (ls' := [(2, Int.ofNat o0), (2, Int.ofNat o1), (0, v2), (3, 0), (3, 0), (3, 0)]) (st' := [(0, (-1)), (0, (h o0 4))]) rfl ?_
  refine jEv.ic_eq (t := 102) (show jfI 102 91 (.if_icmp .eq 11) 3 [] = true by decide +kernel) rfl H (fun c9 H => ?_) (fun c9 H => ?_)
  · exact jEv.weak (a := [(2, Int.ofNat o0), (3, 0), (0, v2), (3, 0), (3, 0), (3, 0)]) (jles.c1 (jles.c0 (jles.c1 (jles.c0 (jles.c0 (jles.c0 jles.nl)))))) (t_Re_read_p102 (T := T) (xs := xs) (y := y) hd ho0 H HY)
  · refine jEv.blk [(.aload_n 0, 1, [])] (by decide +kernel) (pc' := 95) (ls' := [(2, Int.ofNat o0), (2, Int.ofNat o1), (0, v2), (3, 0), (3, 0), (3, 0)]) (st' := [(2, Int.ofNat o0)]) rfl ?_
    refine jEv.gfI (show jfI 102 95 (.getfield 35) 3 [8, 3, 0, 0, 2210] = true by decide +kernel) (isX8_L ho0) (by decide) ?_
    refine jEv.blk [(.iload_n 2, 1, [])] (by decide +kernel) (pc' := 99) (ls' := [(2, Int.ofNat o0), (2, Int.ofNat o1), (0, v2), (3, 0), (3, 0), (3, 0)]) (st' := [(0, v2), (0, (h o0 3))]) rfl ?_
    refine jEv.ic_ge (t := 110) (show jfI 102 99 (.if_icmp .ge 11) 3 [] = true by decide +kernel) rfl H (fun c10 H => ?_) (fun c10 H => ?_)
    · exact jEv.weak (a := [(2, Int.ofNat o0), (3, 0), (0, v2), (3, 0), (3, 0), (3, 0)]) (jles.c1 (jles.c0 (jles.c1 (jles.c0 (jles.c0 (jles.c0 jles.nl)))))) (t_Re_read_p102 (T := T) (xs := xs) (y := y) hd ho0 H HY)
    · refine jEv.blk [(.aload_n 0, 1, []), (.aload_n 1, 1, [])] (by decide +kernel) (pc' := 112) (ls' := [(2, Int.ofNat o0), (2, Int.ofNat o1), (0, v2), (3, 0), (3, 0), (3, 0)]) (st' := [(2, Int.ofNat o1), (2, Int.ofNat o0)]) rfl ?_
      refine jbind H (fun b11 Hb11 H => ?_)
      refine jEv.calV (st' := [(0, b11), (2, Int.ofNat o0)]) (show jfI 102 112 (.invokevirtual 64) 3 [1, 17, 0, 6047] = true by decide +kernel) rfl (Or.inl rfl) rfl (Nat.le_of_ble_eq_true rfl) (by decide +kernel) (by decide) (isX0_L ho1) ((t_Di_greatestSerial (T := T) (xs := xs) ho1 Hb11).mono (jKle 4 hd)) rfl ?_
      refine jEv.blk [(.aload_n 0, 1, [])] (by decide +kernel) (pc' := 116) (ls' := [(2, Int.ofNat o0), (2, Int.ofNat o1), (0, v2), (3, 0), (3, 0), (3, 0)]) (st' := [(2, Int.ofNat o0), (0, b11), (2, Int.ofNat o0)]) rfl ?_
      refine jEv.gfI (show jfI 102 116 (.getfield 68) 3 [8, 6, 0, 0, 2219] = true by decide +kernel) (isX8_L ho0) (by decide) ?_
      refine jEv.ic_gt (t := 133) (show jfI 102 119 (.if_icmp .gt 14) 3 [] = true by decide +kernel) rfl H (fun c12 H => ?_) (fun c12 H => ?_)
      · exact jEv.weak (a := [(3, 0), (3, 0), (3, 0), (3, 0), (3, 0), (3, 0)]) (jles.c0 (jles.c0 (jles.c0 (jles.c0 (jles.c0 (jles.c0 jles.nl)))))) (t_Re_read_p133 (T := T) (xs := xs) (y := y) hd ho0 H HY)
      · refine jEv.blk [(.aload_n 0, 1, [])] (by decide +kernel) (pc' := 123) (ls' := [(2, Int.ofNat o0), (2, Int.ofNat o1), (0, v2), (3, 0), (3, 0), (3, 0)]) (st' := [(2, Int.ofNat o0), (2, Int.ofNat o0)]) rfl ?_
        refine jEv.gfR (o' := (o0 + 1)) (show jfI 102 123 (.getfield 12) 3 [8, 0, 5, 0, 2203] = true by decide +kernel) (isX8_L ho0) (by decide) (isX8_r0 ho0) ?_
        refine jEv.blk [(.aload_n 1, 1, [])] (by decide +kernel) (pc' := 127) (ls' := [(2, Int.ofNat o0), (2, Int.ofNat o1), (0, v2), (3, 0), (3, 0), (3, 0)]) (st' := [(2, Int.ofNat o1), (2, Int.ofNat (o0 + 1)), (2, Int.ofNat o0)]) rfl ?_
        refine jbind H (fun b13 Hb13 H => ?_)
        refine jEv.calV (st' := [(0, b13), (2, Int.ofNat o0)]) (show jfI 102 127 (.invokevirtual 71) 3 [1, 46, 1, 6053] = true by decide +kernel) rfl (Or.inl rfl) rfl (Nat.le_of_ble_eq_true rfl) (by decide +kernel) (by decide) (isX3_L (isX8_s0 ho0)) ((t_FR_anyBehind (T := T) (xs := xs) (isX8_s0 ho0) ho1 Hb13).mono (jKle 3 hd)) rfl ?_
        refine jEv.if_eq (t := 137) (show jfI 102 130 (.ifCond .eq 7) 3 [] = true by decide +kernel) rfl H (fun c14 H => ?_) (fun c14 H => ?_)
        · refine jEv.blk [(.iconst 0, 1, [])] (by decide +kernel) (pc' := 138) (ls' := [(2, Int.ofNat o0), (2, Int.ofNat o1), (0, v2), (3, 0), (3, 0), (3, 0)]) (st' := [(0, 0), (2, Int.ofNat o0)]) rfl ?_
          exact jEv.weak (a := [(3, 0), (3, 0), (3, 0), (3, 0), (3, 0), (3, 0)]) (jles.c0 (jles.c0 (jles.c0 (jles.c0 (jles.c0 (jles.c0 jles.nl)))))) (t_Re_read_p138 (T := T) (xs := xs) (y := y) hd ho0 H HY)
        · exact jEv.weak (a := [(3, 0), (3, 0), (3, 0), (3, 0), (3, 0), (3, 0)]) (jles.c0 (jles.c0 (jles.c0 (jles.c0 (jles.c0 (jles.c0 jles.nl)))))) (t_Re_read_p133 (T := T) (xs := xs) (y := y) hd ho0 H HY)
set_option maxRecDepth 20000 in
noncomputable def Re_read_B53  (h : jH) (o0 : Nat) (o1 : Nat) (v2 : Int) (v4 : Int) (v5 : Int) : Option ((Int × Int × jH) ⊕ jH) := (if v4 = (-1) then Option.map Sum.inr (Re_read_p86 h o0 o1 v2) else (if v5 < 4 then Option.bind (Re_readSegment h o0 o1 v4 v2) (fun b7 => Option.bind (Re_following b7 o0 o1) (fun b8 => some (.inl (b8, (wr (v5 + 1)), b7)))) else Option.map Sum.inr (Re_read_p86 h o0 o1 v2)))
noncomputable def Re_read_L53  (h : jH) (o0 : Nat) (o1 : Nat) (v2 : Int) (v4 : Int) (v5 : Int) : Option jH := jloop (fun s : (Int × Int × jH) => Re_read_B53 s.2.2 o0 o1 v2 s.1 s.2.1) (v4, v5, h)
set_option maxRecDepth 20000 in
theorem t_Re_read_B53 {T : jT} {xs : List Int} {d : Nat} {y : jV × jS} (hd : 4 ≤ d) {h : jH}  {o0 : Nat} {o1 : Nat} {v2 : Int} {v4 : Int} {v5 : Int} {out : ((Int × Int × jH) ⊕ jH)} (ho0 : isX8 T o0) (ho1 : isX0 T o1) (H : Re_read_B53 h o0 o1 v2 v4 v5 = some out) (HY : yk_Re_read_L53 T xs d y o0 o1 v2 out) : jEv xs d (102, 53, [(2, Int.ofNat o0), (2, Int.ofNat o1), (0, v2), (3, 0), (0, v4), (0, v5)], []) (T, h) y := by
  unfold Re_read_B53 at H
  refine jEv.blk [(.iload 4, 2, []), (.iconst (-1), 1, [])] (by decide +kernel) (pc' := 56) (ls' := [(2, Int.ofNat o0), (2, Int.ofNat o1), (0, v2), (3, 0), (0, v4), (0, v5)]) (st' := [(0, (-1)), (0, v4)]) rfl ?_
  refine jEv.ic_eq (t := 86) (show jfI 102 56 (.if_icmp .eq 30) 3 [] = true by decide +kernel) rfl H (fun c5 H => ?_) (fun c5 H => ?_)
  · refine jmapr H HY (fun out H (HY : ykV T y out) => ?_)
    exact jEv.weak (a := [(2, Int.ofNat o0), (2, Int.ofNat o1), (0, v2), (3, 0), (3, 0), (3, 0)]) (jles.c1 (jles.c1 (jles.c1 (jles.c0 (jles.c0 (jles.c0 jles.nl)))))) (t_Re_read_p86 (T := T) (xs := xs) (y := y) hd ho0 ho1 H HY)
  · refine jEv.blk [(.iload 5, 2, []), (.iconst 4, 1, [])] (by decide +kernel) (pc' := 62) (ls' := [(2, Int.ofNat o0), (2, Int.ofNat o1), (0, v2), (3, 0), (0, v4), (0, v5)]) (st' := [(0, 4), (0, v5)]) rfl ?_
    refine jEv.ic_ge (t := 86) (show jfI 102 62 (.if_icmp .ge 24) 3 [] = true by decide +kernel) rfl H (fun c6 H => ?_) (fun c6 H => ?_)
    · refine jEv.blk [(.aload_n 0, 1, []), (.aload_n 1, 1, []), (.iload 4, 2, []), (.iload_n 2, 1, [])] (by decide +kernel) (pc' := 70) (ls' := [(2, Int.ofNat o0), (2, Int.ofNat o1), (0, v2), (3, 0), (0, v4), (0, v5)]) (st' := [(0, v2), (0, v4), (2, Int.ofNat o1), (2, Int.ofNat o0)]) rfl ?_
      refine jbind H (fun b7 Hb7 H => ?_)
      refine jEv.calV (st' := []) (show jfI 102 70 (.invokevirtual 52) 3 [1, 104, 3, 6031] = true by decide +kernel) rfl (Or.inl rfl) rfl (Nat.le_of_ble_eq_true rfl) (by decide +kernel) (by decide) (isX8_L ho0) ((t_Re_readSegment (T := T) (xs := xs) ho0 ho1 Hb7).mono (jKle 4 hd)) rfl ?_
      refine jEv.blk [(.aload_n 0, 1, []), (.aload_n 1, 1, [])] (by decide +kernel) (pc' := 75) (ls' := [(2, Int.ofNat o0), (2, Int.ofNat o1), (0, v2), (3, 0), (0, v4), (0, v5)]) (st' := [(2, Int.ofNat o1), (2, Int.ofNat o0)]) rfl ?_
      refine jbind H (fun b8 Hb8 H => ?_)
      refine jEv.calV (st' := [(0, b8)]) (show jfI 102 75 (.invokevirtual 56) 3 [1, 105, 1, 6039] = true by decide +kernel) rfl (Or.inl rfl) rfl (Nat.le_of_ble_eq_true rfl) (by decide +kernel) (by decide) (isX8_L ho0) ((t_Re_following (T := T) (xs := xs) ho0 ho1 Hb8).mono (jKle 4 hd)) rfl ?_
      refine jEv.blk [(.istore 4, 2, []), (.iinc 5 1, 3, [])] (by decide +kernel) (pc' := 83) (ls' := [(2, Int.ofNat o0), (2, Int.ofNat o1), (0, v2), (3, 0), (0, b8), (0, (wr (v5 + 1)))]) (st' := []) rfl ?_
      refine jEv.goto (t := 53) (show jfI 102 83 (.goto (-30)) 3 [] = true by decide +kernel) rfl ?_
      exact (by cases H; exact HY)
    · refine jmapr H HY (fun out H (HY : ykV T y out) => ?_)
      exact jEv.weak (a := [(2, Int.ofNat o0), (2, Int.ofNat o1), (0, v2), (3, 0), (3, 0), (3, 0)]) (jles.c1 (jles.c1 (jles.c1 (jles.c0 (jles.c0 (jles.c0 jles.nl)))))) (t_Re_read_p86 (T := T) (xs := xs) (y := y) hd ho0 ho1 H HY)
theorem t_Re_read_L53 {T : jT} {xs : List Int} {d : Nat} {y : jV × jS} (hd : 4 ≤ d) {h : jH}  {o0 : Nat} {o1 : Nat} {v2 : Int} {v4 : Int} {v5 : Int} {out : jH} (ho0 : isX8 T o0) (ho1 : isX0 T o1) (H : Re_read_L53 h o0 o1 v2 v4 v5 = some out) (HY : ykV T y out) : jEv xs d (102, 53, [(2, Int.ofNat o0), (2, Int.ofNat o1), (0, v2), (3, 0), (0, v4), (0, v5)], []) (T, h) y :=
  jloop_sound (G := fun s : (Int × Int × jH) => jEv xs d (102, 53, [(2, Int.ofNat o0), (2, Int.ofNat o1), (0, v2), (3, 0), (0, s.1), (0, s.2.1)], []) (T, s.2.2) y) (K := yk_Re_read_L53 T xs d y o0 o1 v2) (fun s out H HY => t_Re_read_B53 hd ho0 ho1 H HY) (fun s' hg => hg) (s := (v4, v5, h)) H HY
set_option maxRecDepth 20000 in
noncomputable def Re_read_p50  (h : jH) (o0 : Nat) (o1 : Nat) (v2 : Int) (v4 : Int) : Option jH := Re_read_L53 h o0 o1 v2 v4 0
set_option maxRecDepth 20000 in
theorem t_Re_read_p50 {T : jT} {xs : List Int} {d : Nat} {y : jV × jS} (hd : 4 ≤ d) {h : jH}  {o0 : Nat} {o1 : Nat} {v2 : Int} {v4 : Int} {out : jH} (ho0 : isX8 T o0) (ho1 : isX0 T o1) (H : Re_read_p50 h o0 o1 v2 v4 = some out) (HY : ykV T y out) : jEv xs d (102, 50, [(2, Int.ofNat o0), (2, Int.ofNat o1), (0, v2), (3, 0), (0, v4), (3, 0)], []) (T, h) y := by
  unfold Re_read_p50 at H
  refine jEv.blk [(.iconst 0, 1, []), (.istore 5, 2, [])] (by decide +kernel) (pc' := 53) (ls' := [(2, Int.ofNat o0), (2, Int.ofNat o1), (0, v2), (3, 0), (0, v4), (0, 0)]) (st' := []) rfl ?_
  exact t_Re_read_L53 (T := T) (xs := xs) (y := y) hd ho0 ho1 H HY
set_option maxRecDepth 20000 in
noncomputable def Re_read  (h : jH) (o0 : Nat) (o1 : Nat) (v2 : Int) (r3 : Nat) (n3 : Nat) : Option jH := Option.bind (G_copy h r3 n3 (o0 + 2) 16) (fun b1 => Option.bind (Re_beginning (jup (jup (jfill b1 (o0 + 3) 4 (-1)) o0 3 v2) o0 4 (-1)) o0 o1 v2) (fun b2 => (if b2 = (-1) then Re_read_p50 (jup (jup (jfill b1 (o0 + 3) 4 (-1)) o0 3 v2) o0 4 (-1)) o0 o1 v2 b2 else Option.bind (Di_firstOf (jup (jup (jfill b1 (o0 + 3) 4 (-1)) o0 3 v2) o0 4 (-1)) o1 b2) (fun b4 => Re_read_p50 (jup (jup (jup (jfill b1 (o0 + 3) 4 (-1)) o0 3 v2) o0 4 (-1)) o0 3 b4) o0 o1 v2 b2))))
set_option maxRecDepth 20000 in
theorem t_Re_read {T : jT} {xs : List Int} {h : jH}  {o0 : Nat} {o1 : Nat} {v2 : Int} {r3 : Nat} {n3 : Nat} {out : jH} (ho0 : isX8 T o0) (ho1 : isX0 T o1) (hr3 : T.1[r3]? = some (20, n3)) (H : Re_read h o0 o1 v2 r3 n3 = some out) : jEm xs 5 102 [(2, Int.ofNat o0), (2, Int.ofNat o1), (0, v2), (2, Int.ofNat r3)] (T, h) ((3, 0), (T, out)) := by
  have hd : 4 ≤ 4 := Nat.le_refl _
  obtain ⟨y, ey⟩ : ∃ y : jV × jS, y = ((3, 0), (T, out)) := ⟨_, rfl⟩
  rw [← ey]
  have HY : ykV T y out := ey
  refine jEm.ent (n := 6) (by decide +kernel) (Nat.le_of_ble_eq_true rfl) ?_
  show jEv xs 4 (102, 0, [(2, Int.ofNat o0), (2, Int.ofNat o1), (0, v2), (2, Int.ofNat r3), (3, 0), (3, 0)], []) (T, h) y
  unfold Re_read at H
  refine jEv.blk [(.aload_n 3, 1, []), (.aload_n 0, 1, [])] (by decide +kernel) (pc' := 2) (ls' := [(2, Int.ofNat o0), (2, Int.ofNat o1), (0, v2), (2, Int.ofNat r3), (3, 0), (3, 0)]) (st' := [(2, Int.ofNat o0), (2, Int.ofNat r3)]) rfl ?_
  refine jEv.gfR (o' := (o0 + 2)) (show jfI 102 2 (.getfield 18) 3 [8, 1, 5, 0, 2205] = true by decide +kernel) (isX8_L ho0) (by decide) (isX8_r1 ho0) ?_
  refine jbind H (fun b1 Hb1 H => ?_)
  refine jEv.calS (st' := []) (show jfI 102 5 (.invokestatic 25) 3 [4, 159, 2, 6022] = true by decide +kernel) rfl (Or.inr rfl) rfl (Nat.le_of_ble_eq_true rfl) ((t_G_copy (T := T) (xs := xs) hr3 (isX8_a1 ho0) Hb1).mono (jKle 2 hd)) rfl ?_
  refine jEv.blk [(.aload_n 0, 1, [])] (by decide +kernel) (pc' := 9) (ls' := [(2, Int.ofNat o0), (2, Int.ofNat o1), (0, v2), (2, Int.ofNat r3), (3, 0), (3, 0)]) (st' := [(2, Int.ofNat o0)]) rfl ?_
  refine jEv.gfR (o' := (o0 + 3)) (show jfI 102 9 (.getfield 22) 3 [8, 2, 5, 0, 2208] = true by decide +kernel) (isX8_L ho0) (by decide) (isX8_r2 ho0) ?_
  refine jEv.blk [(.iconst (-1), 1, [])] (by decide +kernel) (pc' := 13) (ls' := [(2, Int.ofNat o0), (2, Int.ofNat o1), (0, v2), (2, Int.ofNat r3), (3, 0), (3, 0)]) (st' := [(0, (-1)), (2, Int.ofNat (o0 + 3))]) rfl ?_
  refine jEv.calS (st' := []) (show jfI 102 13 (.invokestatic 29) 3 [3, 359, 2, 6023] = true by decide +kernel) rfl (Or.inl rfl) rfl (Nat.le_of_ble_eq_true rfl) ((t_JArr_fill (xs := xs) (by decide) (isX8_a2 ho0)).mono (jKle 1 hd)) rfl ?_
  refine jEv.blk [(.aload_n 0, 1, []), (.iload_n 2, 1, [])] (by decide +kernel) (pc' := 18) (ls' := [(2, Int.ofNat o0), (2, Int.ofNat o1), (0, v2), (2, Int.ofNat r3), (3, 0), (3, 0)]) (st' := [(0, v2), (2, Int.ofNat o0)]) rfl ?_
  refine jEv.pfI (show jfI 102 18 (.putfield 35) 3 [8, 3, 0, 0, 2210] = true by decide +kernel) (isX8_L ho0) (by decide) ?_
  refine jEv.blk [(.aload_n 0, 1, []), (.iconst (-1), 1, [])] (by decide +kernel) (pc' := 23) (ls' := [(2, Int.ofNat o0), (2, Int.ofNat o1), (0, v2), (2, Int.ofNat r3), (3, 0), (3, 0)]) (st' := [(0, (-1)), (2, Int.ofNat o0)]) rfl ?_
  refine jEv.pfI (show jfI 102 23 (.putfield 39) 3 [8, 4, 0, 0, 2213] = true by decide +kernel) (isX8_L ho0) (by decide) ?_
  refine jEv.blk [(.aload_n 0, 1, []), (.aload_n 1, 1, []), (.iload_n 2, 1, [])] (by decide +kernel) (pc' := 29) (ls' := [(2, Int.ofNat o0), (2, Int.ofNat o1), (0, v2), (2, Int.ofNat r3), (3, 0), (3, 0)]) (st' := [(0, v2), (2, Int.ofNat o1), (2, Int.ofNat o0)]) rfl ?_
  refine jbind H (fun b2 Hb2 H => ?_)
  refine jEv.calV (st' := [(0, b2)]) (show jfI 102 29 (.invokevirtual 42) 3 [1, 103, 2, 6024] = true by decide +kernel) rfl (Or.inl rfl) rfl (Nat.le_of_ble_eq_true rfl) (by decide +kernel) (by decide) (isX8_L ho0) ((t_Re_beginning (T := T) (xs := xs) ho0 ho1 Hb2).mono (jKle 4 hd)) rfl ?_
  refine jEv.blk [(.istore 4, 2, []), (.iload 4, 2, []), (.iconst (-1), 1, [])] (by decide +kernel) (pc' := 37) (ls' := [(2, Int.ofNat o0), (2, Int.ofNat o1), (0, v2), (2, Int.ofNat r3), (0, b2), (3, 0)]) (st' := [(0, (-1)), (0, b2)]) rfl ?_
  refine jEv.ic_eq (t := 50) (show jfI 102 37 (.if_icmp .eq 13) 3 [] = true by decide +kernel) rfl H (fun c3 H => ?_) (fun c3 H => ?_)
  · exact jEv.weak (a := [(2, Int.ofNat o0), (2, Int.ofNat o1), (0, v2), (3, 0), (0, b2), (3, 0)]) (jles.c1 (jles.c1 (jles.c1 (jles.c0 (jles.c1 (jles.c0 jles.nl)))))) (t_Re_read_p50 (T := T) (xs := xs) (y := y) hd ho0 ho1 H HY)
  · refine jEv.blk [(.aload_n 0, 1, []), (.aload_n 1, 1, []), (.iload 4, 2, [])] (by decide +kernel) (pc' := 44) (ls' := [(2, Int.ofNat o0), (2, Int.ofNat o1), (0, v2), (2, Int.ofNat r3), (0, b2), (3, 0)]) (st' := [(0, b2), (2, Int.ofNat o1), (2, Int.ofNat o0)]) rfl ?_
    refine jbind H (fun b4 Hb4 H => ?_)
    refine jEv.calV (st' := [(0, b4), (2, Int.ofNat o0)]) (show jfI 102 44 (.invokevirtual 46) 3 [1, 14, 1, 6029] = true by decide +kernel) rfl (Or.inl rfl) rfl (Nat.le_of_ble_eq_true rfl) (by decide +kernel) (by decide) (isX0_L ho1) ((t_Di_firstOf (T := T) (xs := xs) ho1 Hb4).mono (jKle 2 hd)) rfl ?_
    refine jEv.pfI (show jfI 102 47 (.putfield 35) 3 [8, 3, 0, 0, 2210] = true by decide +kernel) (isX8_L ho0) (by decide) ?_
    exact jEv.weak (a := [(2, Int.ofNat o0), (2, Int.ofNat o1), (0, v2), (3, 0), (0, b2), (3, 0)]) (jles.c1 (jles.c1 (jles.c1 (jles.c0 (jles.c1 (jles.c0 jles.nl)))))) (t_Re_read_p50 (T := T) (xs := xs) (y := y) hd ho0 ho1 H HY)
