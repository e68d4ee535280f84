/-! methods as functions -/
def yk_M_feed_L28 (T : jT) (xs : List Int) (d : Nat) (y : jV × jS)  (o0 : Nat) (v1 : Int) (v2 : Int) (v3 : Int) (v4 : Int) (v5 : Int) : ((Int × jH) ⊕ (Int × jH)) → Prop
  | .inl (v6, h) => jEv xs d (201, 28, [(2, Int.ofNat o0), (0, v1), (0, v2), (0, v3), (0, v4), (0, v5), (0, v6), (3, 0)], []) (T, h) y
  | .inr o => ykI T y o
set_option maxRecDepth 20000 in
noncomputable def M_feed_p81  (h : jH) (o0 : Nat) (v1 : Int) (v2 : Int) (v3 : Int) (v4 : Int) (v5 : Int) (v6 : Int) (vs0 : Int) : Option ((Int × jH) ⊕ (Int × jH)) := (if (0 : Int) ≤ (h o0 1) ∧ ((h o0 1) : Int).toNat < 1600 then some (.inl ((wr (v6 + 1)), (jup (jup h (o0 + 1) ((h o0 1) : Int).toNat (jand (jshr vs0 (wr (8 * (wr (3 - (Int.tmod v6 4)))))) 255)) o0 1 (wr (((jup h (o0 + 1) ((h o0 1) : Int).toNat (jand (jshr vs0 (wr (8 * (wr (3 - (Int.tmod v6 4)))))) 255)) o0 1) + 1))))) else none)
set_option maxRecDepth 20000 in
theorem t_M_feed_p81 {T : jT} {xs : List Int} {d : Nat} {y : jV × jS} (hd : 0 ≤ d) {h : jH}  {o0 : Nat} {v1 : Int} {v2 : Int} {v3 : Int} {v4 : Int} {v5 : Int} {v6 : Int} {vs0 : Int} {out : ((Int × jH) ⊕ (Int × jH))} (ho0 : isX12 T o0) (H : M_feed_p81 h o0 v1 v2 v3 v4 v5 v6 vs0 = some out) (HY : yk_M_feed_L28 T xs d y o0 v1 v2 v3 v4 v5 out) : jEv xs d (201, 81, [(2, Int.ofNat o0), (0, v1), (0, v2), (0, v3), (0, v4), (0, v5), (0, v6), (3, 0)], [(0, vs0)]) (T, h) y := by
  unfold M_feed_p81 at H
  refine jEv.blk [(.istore 7, 2, []), (.aload_n 0, 1, [])] (by decide +kernel) (pc' := 84) (ls' := [(2, Int.ofNat o0), (0, v1), (0, v2), (0, v3), (0, v4), (0, v5), (0, v6), (0, vs0)]) (st' := [(2, Int.ofNat o0)]) rfl ?_
  refine jEv.gfR (o' := (o0 + 1)) (show jfI 201 84 (.getfield 7) 3 [12, 0, 5, 0, 7036] = true by decide +kernel) (isX12_L ho0) (by decide) (isX12_r0 ho0) ?_
  refine jEv.blk [(.aload_n 0, 1, [])] (by decide +kernel) (pc' := 88) (ls' := [(2, Int.ofNat o0), (0, v1), (0, v2), (0, v3), (0, v4), (0, v5), (0, v6), (0, vs0)]) (st' := [(2, Int.ofNat o0), (2, Int.ofNat (o0 + 1))]) rfl ?_
  refine jEv.gfI (show jfI 201 88 (.getfield 229) 3 [12, 1, 0, 0, 7037] = true by decide +kernel) (isX12_L ho0) (by decide) ?_
  refine jEv.blk [(.iload 7, 2, []), (.bipush 8, 2, []), (.iconst 3, 1, []), (.iload 6, 2, []), (.iconst 4, 1, [])] (by decide +kernel) (pc' := 99) (ls' := [(2, Int.ofNat o0), (0, v1), (0, v2), (0, v3), (0, v4), (0, v5), (0, v6), (0, vs0)]) (st' := [(0, 4), (0, v6), (0, 3), (0, 8), (0, vs0), (0, (h o0 1)), (2, Int.ofNat (o0 + 1))]) rfl ?_
  refine jEv.irem (show jfI 201 99 (.irem) 1 [] = true by decide +kernel) (by decide) ?_
  refine jEv.blk [(.isub, 1, []), (.imul, 1, []), (.ishr, 1, []), (.sipush 255, 3, []), (.iand, 1, [])] (by decide +kernel) (pc' := 107) (ls' := [(2, Int.ofNat o0), (0, v1), (0, v2), (0, v3), (0, v4), (0, v5), (0, v6), (0, vs0)]) (st' := [(0, (jand (jshr vs0 (wr (8 * (wr (3 - (Int.tmod v6 4)))))) 255)), (0, (h o0 1)), (2, Int.ofNat (o0 + 1))]) rfl ?_
  refine jEv.ast (Or.inl ⟨rfl, rfl, rfl⟩) (show jfI 201 107 (.iastore) 1 [] = true by decide +kernel) (isX12_a0 ho0) rfl H (fun c9 H => ?_)
  refine jEv.blk [(.aload_n 0, 1, []), (.dup, 1, [])] (by decide +kernel) (pc' := 110) (ls' := [(2, Int.ofNat o0), (0, v1), (0, v2), (0, v3), (0, v4), (0, v5), (0, v6), (0, vs0)]) (st' := [(2, Int.ofNat o0), (2, Int.ofNat o0)]) rfl ?_
  refine jEv.gfI (show jfI 201 110 (.getfield 229) 3 [12, 1, 0, 0, 7037] = true by decide +kernel) (isX12_L ho0) (by decide) ?_
  refine jEv.blk [(.iconst 1, 1, []), (.iadd, 1, [])] (by decide +kernel) (pc' := 115) (ls' := [(2, Int.ofNat o0), (0, v1), (0, v2), (0, v3), (0, v4), (0, v5), (0, v6), (0, vs0)]) (st' := [(0, (wr (((jup h (o0 + 1) ((h o0 1) : Int).toNat (jand (jshr vs0 (wr (8 * (wr (3 - (Int.tmod v6 4)))))) 255)) o0 1) + 1))), (2, Int.ofNat o0)]) rfl ?_
  refine jEv.pfI (show jfI 201 115 (.putfield 229) 3 [12, 1, 0, 0, 7037] = true by decide +kernel) (isX12_L ho0) (by decide) ?_
  refine jEv.blk [(.iinc 6 1, 3, [])] (by decide +kernel) (pc' := 121) (ls' := [(2, Int.ofNat o0), (0, v1), (0, v2), (0, v3), (0, v4), (0, v5), (0, (wr (v6 + 1))), (0, vs0)]) (st' := []) rfl ?_
  refine jEv.goto (t := 28) (show jfI 201 121 (.goto (-93)) 3 [] = true by decide +kernel) rfl ?_
  exact jEv.weak (a := [(2, Int.ofNat o0), (0, v1), (0, v2), (0, v3), (0, v4), (0, v5), (0, (wr (v6 + 1))), (3, 0)]) (jles.c1 (jles.c1 (jles.c1 (jles.c1 (jles.c1 (jles.c1 (jles.c1 (jles.c0 jles.nl)))))))) ((by cases H; exact HY))
set_option maxRecDepth 20000 in
noncomputable def M_feed_B28  (h : jH) (o0 : Nat) (v1 : Int) (v2 : Int) (v3 : Int) (v4 : Int) (v5 : Int) (v6 : Int) : Option ((Int × jH) ⊕ (Int × jH)) := (if v6 < 20 then (if v6 < 4 then M_feed_p81 h o0 v1 v2 v3 v4 v5 v6 v1 else (if v6 < 8 then M_feed_p81 h o0 v1 v2 v3 v4 v5 v6 v2 else (if v6 < 12 then M_feed_p81 h o0 v1 v2 v3 v4 v5 v6 v3 else (if v6 < 16 then M_feed_p81 h o0 v1 v2 v3 v4 v5 v6 v4 else M_feed_p81 h o0 v1 v2 v3 v4 v5 v6 v5)))) else Option.map Sum.inr (some ((h o0 1), h)))
noncomputable def M_feed_L28  (h : jH) (o0 : Nat) (v1 : Int) (v2 : Int) (v3 : Int) (v4 : Int) (v5 : Int) (v6 : Int) : Option (Int × jH) := jloop (fun s : (Int × jH) => M_feed_B28 s.2 o0 v1 v2 v3 v4 v5 s.1) (v6, h)
set_option maxRecDepth 20000 in
theorem t_M_feed_B28 {T : jT} {xs : List Int} {d : Nat} {y : jV × jS} (hd : 0 ≤ d) {h : jH}  {o0 : Nat} {v1 : Int} {v2 : Int} {v3 : Int} {v4 : Int} {v5 : Int} {v6 : Int} {out : ((Int × jH) ⊕ (Int × jH))} (ho0 : isX12 T o0) (H : M_feed_B28 h o0 v1 v2 v3 v4 v5 v6 = some out) (HY : yk_M_feed_L28 T xs d y o0 v1 v2 v3 v4 v5 out) : jEv xs d (201, 28, [(2, Int.ofNat o0), (0, v1), (0, v2), (0, v3), (0, v4), (0, v5), (0, v6), (3, 0)], []) (T, h) y := by
  unfold M_feed_B28 at H
  refine jEv.blk [(.iload 6, 2, []), (.bipush 20, 2, [])] (by decide +kernel) (pc' := 32) (ls' := [(2, Int.ofNat o0), (0, v1), (0, v2), (0, v3), (0, v4), (0, v5), (0, v6), (3, 0)]) (st' := [(0, 20), (0, v6)]) rfl ?_
  refine jEv.ic_ge (t := 124) (show jfI 201 32 (.if_icmp .ge 92) 3 [] = true by decide +kernel) rfl H (fun c4 H => ?_) (fun c4 H => ?_)
  · refine jEv.blk [(.iload 6, 2, []), (.iconst 4, 1, [])] (by decide +kernel) (pc' := 38) (ls' := [(2, Int.ofNat o0), (0, v1), (0, v2), (0, v3), (0, v4), (0, v5), (0, v6), (3, 0)]) (st' := [(0, 4), (0, v6)]) rfl ?_
    refine jEv.ic_ge (t := 45) (show jfI 201 38 (.if_icmp .ge 7) 3 [] = true by decide +kernel) rfl H (fun c5 H => ?_) (fun c5 H => ?_)
    · refine jEv.blk [(.iload_n 1, 1, [])] (by decide +kernel) (pc' := 42) (ls' := [(2, Int.ofNat o0), (0, v1), (0, v2), (0, v3), (0, v4), (0, v5), (0, v6), (3, 0)]) (st' := [(0, v1)]) rfl ?_
      refine jEv.goto (t := 81) (show jfI 201 42 (.goto 39) 3 [] = true by decide +kernel) rfl ?_
      exact t_M_feed_p81 (T := T) (xs := xs) (y := y) hd ho0 H HY
    · refine jEv.blk [(.iload 6, 2, []), (.bipush 8, 2, [])] (by decide +kernel) (pc' := 49) (ls' := [(2, Int.ofNat o0), (0, v1), (0, v2), (0, v3), (0, v4), (0, v5), (0, v6), (3, 0)]) (st' := [(0, 8), (0, v6)]) rfl ?_
      refine jEv.ic_ge (t := 56) (show jfI 201 49 (.if_icmp .ge 7) 3 [] = true by decide +kernel) rfl H (fun c6 H => ?_) (fun c6 H => ?_)
      · refine jEv.blk [(.iload_n 2, 1, [])] (by decide +kernel) (pc' := 53) (ls' := [(2, Int.ofNat o0), (0, v1), (0, v2), (0, v3), (0, v4), (0, v5), (0, v6), (3, 0)]) (st' := [(0, v2)]) rfl ?_
        refine jEv.goto (t := 81) (show jfI 201 53 (.goto 28) 3 [] = true by decide +kernel) rfl ?_
        exact t_M_feed_p81 (T := T) (xs := xs) (y := y) hd ho0 H HY
      · refine jEv.blk [(.iload 6, 2, []), (.bipush 12, 2, [])] (by decide +kernel) (pc' := 60) (ls' := [(2, Int.ofNat o0), (0, v1), (0, v2), (0, v3), (0, v4), (0, v5), (0, v6), (3, 0)]) (st' := [(0, 12), (0, v6)]) rfl ?_
        refine jEv.ic_ge (t := 67) (show jfI 201 60 (.if_icmp .ge 7) 3 [] = true by decide +kernel) rfl H (fun c7 H => ?_) (fun c7 H => ?_)
        · refine jEv.blk [(.iload_n 3, 1, [])] (by decide +kernel) (pc' := 64) (ls' := [(2, Int.ofNat o0), (0, v1), (0, v2), (0, v3), (0, v4), (0, v5), (0, v6), (3, 0)]) (st' := [(0, v3)]) rfl ?_
          refine jEv.goto (t := 81) (show jfI 201 64 (.goto 17) 3 [] = true by decide +kernel) rfl ?_
          exact t_M_feed_p81 (T := T) (xs := xs) (y := y) hd ho0 H HY
        · refine jEv.blk [(.iload 6, 2, []), (.bipush 16, 2, [])] (by decide +kernel) (pc' := 71) (ls' := [(2, Int.ofNat o0), (0, v1), (0, v2), (0, v3), (0, v4), (0, v5), (0, v6), (3, 0)]) (st' := [(0, 16), (0, v6)]) rfl ?_
          refine jEv.ic_ge (t := 79) (show jfI 201 71 (.if_icmp .ge 8) 3 [] = true by decide +kernel) rfl H (fun c8 H => ?_) (fun c8 H => ?_)
          · refine jEv.blk [(.iload 4, 2, [])] (by decide +kernel) (pc' := 76) (ls' := [(2, Int.ofNat o0), (0, v1), (0, v2), (0, v3), (0, v4), (0, v5), (0, v6), (3, 0)]) (st' := [(0, v4)]) rfl ?_
            refine jEv.goto (t := 81) (show jfI 201 76 (.goto 5) 3 [] = true by decide +kernel) rfl ?_
            exact t_M_feed_p81 (T := T) (xs := xs) (y := y) hd ho0 H HY
          · refine jEv.blk [(.iload 5, 2, [])] (by decide +kernel) (pc' := 81) (ls' := [(2, Int.ofNat o0), (0, v1), (0, v2), (0, v3), (0, v4), (0, v5), (0, v6), (3, 0)]) (st' := [(0, v5)]) rfl ?_
            exact t_M_feed_p81 (T := T) (xs := xs) (y := y) hd ho0 H HY
  · refine jmapr H HY (fun out H (HY : ykI T y out) => ?_)
    refine jEv.blk [(.aload_n 0, 1, [])] (by decide +kernel) (pc' := 125) (ls' := [(2, Int.ofNat o0), (0, v1), (0, v2), (0, v3), (0, v4), (0, v5), (0, v6), (3, 0)]) (st' := [(2, Int.ofNat o0)]) rfl ?_
    refine jEv.gfI (show jfI 201 125 (.getfield 229) 3 [12, 1, 0, 0, 7037] = true by decide +kernel) (isX12_L ho0) (by decide) ?_
    exact jEv.retI (show jfI 201 128 (.ireturn) 1 [] = true by decide +kernel) (by decide +kernel) (by cases H; exact HY)
theorem t_M_feed_L28 {T : jT} {xs : List Int} {d : Nat} {y : jV × jS} (hd : 0 ≤ d) {h : jH}  {o0 : Nat} {v1 : Int} {v2 : Int} {v3 : Int} {v4 : Int} {v5 : Int} {v6 : Int} {out : (Int × jH)} (ho0 : isX12 T o0) (H : M_feed_L28 h o0 v1 v2 v3 v4 v5 v6 = some out) (HY : ykI T y out) : jEv xs d (201, 28, [(2, Int.ofNat o0), (0, v1), (0, v2), (0, v3), (0, v4), (0, v5), (0, v6), (3, 0)], []) (T, h) y :=
  jloop_sound (G := fun s : (Int × jH) => jEv xs d (201, 28, [(2, Int.ofNat o0), (0, v1), (0, v2), (0, v3), (0, v4), (0, v5), (0, s.1), (3, 0)], []) (T, s.2) y) (K := yk_M_feed_L28 T xs d y o0 v1 v2 v3 v4 v5) (fun s out H HY => t_M_feed_B28 hd ho0 H HY) (fun s' hg => hg) (s := (v6, h)) H HY
set_option maxRecDepth 20000 in
noncomputable def M_feed  (h : jH) (o0 : Nat) (v1 : Int) (v2 : Int) (v3 : Int) (v4 : Int) (v5 : Int) : Option (Int × jH) := (if 1600 < (wr ((h o0 1) + 20)) then (if (0 : Int) ≤ 0 ∧ (0 : Int).toNat < 7 then (if (0 : Int) ≤ 0 ∧ (0 : Int).toNat < 7 then some ((-1), (jup h (o0 + 2) (0 : Int).toNat (wr ((h (o0 + 2) (0 : Int).toNat) + 1)))) else none) else none) else M_feed_L28 h o0 v1 v2 v3 v4 v5 0)
set_option maxRecDepth 20000 in
theorem t_M_feed {T : jT} {xs : List Int} {h : jH}  {o0 : Nat} {v1 : Int} {v2 : Int} {v3 : Int} {v4 : Int} {v5 : Int} {out : (Int × jH)} (ho0 : isX12 T o0) (H : M_feed h o0 v1 v2 v3 v4 v5 = some out) : jEm xs 1 201 [(2, Int.ofNat o0), (0, v1), (0, v2), (0, v3), (0, v4), (0, v5)] (T, h) ((0, out.1), (T, out.2)) := by
  have hd : 0 ≤ 0 := Nat.le_refl _
  obtain ⟨y, ey⟩ : ∃ y : jV × jS, y = ((0, out.1), (T, out.2)) := ⟨_, rfl⟩
  rw [← ey]
  have HY : ykI T y out := ey
  refine jEm.ent (n := 8) (by decide +kernel) (Nat.le_of_ble_eq_true rfl) ?_
  show jEv xs 0 (201, 0, [(2, Int.ofNat o0), (0, v1), (0, v2), (0, v3), (0, v4), (0, v5), (3, 0), (3, 0)], []) (T, h) y
  unfold M_feed at H
  refine jEv.blk [(.aload_n 0, 1, [])] (by decide +kernel) (pc' := 1) (ls' := [(2, Int.ofNat o0), (0, v1), (0, v2), (0, v3), (0, v4), (0, v5), (3, 0), (3, 0)]) (st' := [(2, Int.ofNat o0)]) rfl ?_
  refine jEv.gfI (show jfI 201 1 (.getfield 229) 3 [12, 1, 0, 0, 7037] = true by decide +kernel) (isX12_L ho0) (by decide) ?_
  refine jEv.blk [(.bipush 20, 2, []), (.iadd, 1, []), (.sipush 1600, 3, [])] (by decide +kernel) (pc' := 10) (ls' := [(2, Int.ofNat o0), (0, v1), (0, v2), (0, v3), (0, v4), (0, v5), (3, 0), (3, 0)]) (st' := [(0, 1600), (0, (wr ((h o0 1) + 20)))]) rfl ?_
  refine jEv.ic_le (t := 25) (show jfI 201 10 (.if_icmp .le 15) 3 [] = true by decide +kernel) rfl H (fun c1 H => ?_) (fun c1 H => ?_)
  · refine jEv.blk [(.aload_n 0, 1, [])] (by decide +kernel) (pc' := 14) (ls' := [(2, Int.ofNat o0), (0, v1), (0, v2), (0, v3), (0, v4), (0, v5), (3, 0), (3, 0)]) (st' := [(2, Int.ofNat o0)]) rfl ?_
    refine jEv.gfR (o' := (o0 + 2)) (show jfI 201 14 (.getfield 17) 3 [12, 9, 5, 0, 7045] = true by decide +kernel) (isX12_L ho0) (by decide) (isX12_r9 ho0) ?_
    refine jEv.blk [(.iconst 0, 1, []), (.dup2, 1, [])] (by decide +kernel) (pc' := 19) (ls' := [(2, Int.ofNat o0), (0, v1), (0, v2), (0, v3), (0, v4), (0, v5), (3, 0), (3, 0)]) (st' := [(0, 0), (2, Int.ofNat (o0 + 2)), (0, 0), (2, Int.ofNat (o0 + 2))]) rfl ?_
    refine jEv.ald (Or.inl ⟨rfl, rfl, rfl⟩) (show jfI 201 19 (.iaload) 1 [] = true by decide +kernel) (isX12_a9 ho0) H (fun c2 H => ?_)
    refine jEv.blk [(.iconst 1, 1, []), (.iadd, 1, [])] (by decide +kernel) (pc' := 22) (ls' := [(2, Int.ofNat o0), (0, v1), (0, v2), (0, v3), (0, v4), (0, v5), (3, 0), (3, 0)]) (st' := [(0, (wr ((h (o0 + 2) (0 : Int).toNat) + 1))), (0, 0), (2, Int.ofNat (o0 + 2))]) rfl ?_
    refine jEv.ast (Or.inl ⟨rfl, rfl, rfl⟩) (show jfI 201 22 (.iastore) 1 [] = true by decide +kernel) (isX12_a9 ho0) rfl H (fun c3 H => ?_)
    refine jEv.blk [(.iconst (-1), 1, [])] (by decide +kernel) (pc' := 24) (ls' := [(2, Int.ofNat o0), (0, v1), (0, v2), (0, v3), (0, v4), (0, v5), (3, 0), (3, 0)]) (st' := [(0, (-1))]) rfl ?_
    exact jEv.retI (show jfI 201 24 (.ireturn) 1 [] = true by decide +kernel) (by decide +kernel) (by cases H; exact HY)
  · refine jEv.blk [(.iconst 0, 1, []), (.istore 6, 2, [])] (by decide +kernel) (pc' := 28) (ls' := [(2, Int.ofNat o0), (0, v1), (0, v2), (0, v3), (0, v4), (0, v5), (0, 0), (3, 0)]) (st' := []) rfl ?_
    exact t_M_feed_L28 (T := T) (xs := xs) (y := y) hd ho0 H HY
set_option maxRecDepth 20000 in
noncomputable def M_end_p12  (h : jH) (o0 : Nat) : Option (Int × jH) := (if (0 : Int) ≤ 0 ∧ (0 : Int).toNat < 7 then (if (0 : Int) ≤ 0 ∧ (0 : Int).toNat < 7 then some (0, (jup h (o0 + 2) (0 : Int).toNat (wr ((h (o0 + 2) (0 : Int).toNat) + 1)))) else none) else none)
set_option maxRecDepth 20000 in
theorem t_M_end_p12 {T : jT} {xs : List Int} {d : Nat} {y : jV × jS} (hd : 0 ≤ d) {h : jH}  {o0 : Nat} {out : (Int × jH)} (ho0 : isX12 T o0) (H : M_end_p12 h o0 = some out) (HY : ykI T y out) : jEv xs d (202, 12, [(2, Int.ofNat o0), (3, 0)], []) (T, h) y := by
  unfold M_end_p12 at H
  refine jEv.blk [(.aload_n 0, 1, [])] (by decide +kernel) (pc' := 13) (ls' := [(2, Int.ofNat o0), (3, 0)]) (st' := [(2, Int.ofNat o0)]) rfl ?_
  refine jEv.gfR (o' := (o0 + 2)) (show jfI 202 13 (.getfield 17) 3 [12, 9, 5, 0, 7045] = true by decide +kernel) (isX12_L ho0) (by decide) (isX12_r9 ho0) ?_
  refine jEv.blk [(.iconst 0, 1, []), (.dup2, 1, [])] (by decide +kernel) (pc' := 18) (ls' := [(2, Int.ofNat o0), (3, 0)]) (st' := [(0, 0), (2, Int.ofNat (o0 + 2)), (0, 0), (2, Int.ofNat (o0 + 2))]) rfl ?_
  refine jEv.ald (Or.inl ⟨rfl, rfl, rfl⟩) (show jfI 202 18 (.iaload) 1 [] = true by decide +kernel) (isX12_a9 ho0) H (fun c3 H => ?_)
  refine jEv.blk [(.iconst 1, 1, []), (.iadd, 1, [])] (by decide +kernel) (pc' := 21) (ls' := [(2, Int.ofNat o0), (3, 0)]) (st' := [(0, (wr ((h (o0 + 2) (0 : Int).toNat) + 1))), (0, 0), (2, Int.ofNat (o0 + 2))]) rfl ?_
  refine jEv.ast (Or.inl ⟨rfl, rfl, rfl⟩) (show jfI 202 21 (.iastore) 1 [] = true by decide +kernel) (isX12_a9 ho0) rfl H (fun c4 H => ?_)
  refine jEv.blk [(.iconst 0, 1, [])] (by decide +kernel) (pc' := 23) (ls' := [(2, Int.ofNat o0), (3, 0)]) (st' := [(0, 0)]) rfl ?_
  exact jEv.retZ (show jfI 202 23 (.ireturn) 1 [] = true by decide +kernel) (by decide +kernel) (by decide) (by cases H; exact HY)
set_option maxRecDepth 20000 in
noncomputable def M_end  (h : jH) (o0 : Nat) (v1 : Int) : Option (Int × jH) := (if v1 < 0 then M_end_p12 h o0 else (if (h o0 1) < v1 then M_end_p12 h o0 else some (1, (jup h o0 1 v1))))
set_option maxRecDepth 20000 in
theorem t_M_end {T : jT} {xs : List Int} {h : jH}  {o0 : Nat} {v1 : Int} {out : (Int × jH)} (ho0 : isX12 T o0) (H : M_end h o0 v1 = some out) : jEm xs 1 202 [(2, Int.ofNat o0), (0, v1)] (T, h) ((0, out.1), (T, out.2)) := by
  have hd : 0 ≤ 0 := Nat.le_refl _
  obtain ⟨y, ey⟩ : ∃ y : jV × jS, y = ((0, out.1), (T, out.2)) := ⟨_, rfl⟩
  rw [← ey]
  have HY : ykI T y out := ey
  refine jEm.ent (n := 2) (by decide +kernel) (Nat.le_of_ble_eq_true rfl) ?_
  show jEv xs 0 (202, 0, [(2, Int.ofNat o0), (0, v1)], []) (T, h) y
  unfold M_end at H
  refine jEv.blk [(.iload_n 1, 1, [])] (by decide +kernel) (pc' := 1) (ls' := [(2, Int.ofNat o0), (0, v1)]) (st' := [(0, v1)]) rfl ?_
  refine jEv.if_lt (t := 12) (show jfI 202 1 (.ifCond .lt 11) 3 [] = true by decide +kernel) rfl H (fun c1 H => ?_) (fun c1 H => ?_)
  · exact jEv.weak (a := [(2, Int.ofNat o0), (3, 0)]) (jles.c1 (jles.c0 jles.nl)) (t_M_end_p12 (T := T) (xs := xs) (y := y) hd ho0 H HY)
  · refine jEv.blk [(.iload_n 1, 1, []), (.aload_n 0, 1, [])] (by decide +kernel) (pc' := 6) (ls' := [(2, Int.ofNat o0), (0, v1)]) (st' := [(2, Int.ofNat o0), (0, v1)]) rfl ?_
    refine jEv.gfI (show jfI 202 6 (.getfield 229) 3 [12, 1, 0, 0, 7037] = true by decide +kernel) (isX12_L ho0) (by decide) ?_
    refine jEv.ic_le (t := 24) (show jfI 202 9 (.if_icmp .le 15) 3 [] = true by decide +kernel) rfl H (fun c2 H => ?_) (fun c2 H => ?_)
    · exact jEv.weak (a := [(2, Int.ofNat o0), (3, 0)]) (jles.c1 (jles.c0 jles.nl)) (t_M_end_p12 (T := T) (xs := xs) (y := y) hd ho0 H HY)
    · refine jEv.blk [(.aload_n 0, 1, []), (.iload_n 1, 1, [])] (by decide +kernel) (pc' := 26) (ls' := [(2, Int.ofNat o0), (0, v1)]) (st' := [(0, v1), (2, Int.ofNat o0)]) rfl ?_
      refine jEv.pfI (show jfI 202 26 (.putfield 229) 3 [12, 1, 0, 0, 7037] = true by decide +kernel) (isX12_L ho0) (by decide) ?_
      refine jEv.blk [(.iconst 1, 1, [])] (by decide +kernel) (pc' := 30) (ls' := [(2, Int.ofNat o0), (0, v1)]) (st' := [(0, 1)]) rfl ?_
      exact jEv.retZ (show jfI 202 30 (.ireturn) 1 [] = true by decide +kernel) (by decide +kernel) (by decide) (by cases H; exact HY)
def yk_M_look_L0 (T : jT) (xs : List Int) (d : Nat) (y : jV × jS)  (o0 : Nat) : (jH ⊕ (Int × jH)) → Prop
  | .inl h => jEv xs d (208, 0, [(2, Int.ofNat o0)], []) (T, h) y
  | .inr o => ykI T y o
set_option maxRecDepth 20000 in
noncomputable def M_look_p39  (h : jH) (o0 : Nat) : Option (jH ⊕ (Int × jH)) := some (.inl ((jup h o0 2 (wr ((h o0 2) + 1)))))
set_option maxRecDepth 20000 in
theorem t_M_look_p39 {T : jT} {xs : List Int} {d : Nat} {y : jV × jS} (hd : 0 ≤ d) {h : jH}  {o0 : Nat} {out : (jH ⊕ (Int × jH))} (ho0 : isX12 T o0) (H : M_look_p39 h o0 = some out) (HY : yk_M_look_L0 T xs d y o0 out) : jEv xs d (208, 39, [(2, Int.ofNat o0)], []) (T, h) y := by
  unfold M_look_p39 at H
  refine jEv.blk [(.aload_n 0, 1, []), (.dup, 1, [])] (by decide +kernel) (pc' := 41) (ls' := [(2, Int.ofNat o0)]) (st' := [(2, Int.ofNat o0), (2, Int.ofNat o0)]) rfl ?_
  refine jEv.gfI (show jfI 208 41 (.getfield 238) 3 [12, 2, 0, 0, 7038] = true by decide +kernel) (isX12_L ho0) (by decide) ?_
  refine jEv.blk [(.iconst 1, 1, []), (.iadd, 1, [])] (by decide +kernel) (pc' := 46) (ls' := [(2, Int.ofNat o0)]) (st' := [(0, (wr ((h o0 2) + 1))), (2, Int.ofNat o0)]) rfl ?_
  refine jEv.pfI (show jfI 208 46 (.putfield 238) 3 [12, 2, 0, 0, 7038] = true by decide +kernel) (isX12_L ho0) (by decide) ?_
  refine jEv.goto (t := 0) (show jfI 208 49 (.goto (-49)) 3 [] = true by decide +kernel) rfl ?_
  exact (by cases H; exact HY)
set_option maxRecDepth 20000 in
noncomputable def M_look_p52  (h : jH) (o0 : Nat) : Option (Int × jH) := (if (h o0 2) < (h o0 3) then (if (0 : Int) ≤ (h o0 2) ∧ ((h o0 2) : Int).toNat < 1600 then some ((h (o0 + 1) ((h o0 2) : Int).toNat), h) else none) else some ((-1), h))
set_option maxRecDepth 20000 in
theorem t_M_look_p52 {T : jT} {xs : List Int} {d : Nat} {y : jV × jS} (hd : 0 ≤ d) {h : jH}  {o0 : Nat} {out : (Int × jH)} (ho0 : isX12 T o0) (H : M_look_p52 h o0 = some out) (HY : ykI T y out) : jEv xs d (208, 52, [(2, Int.ofNat o0)], []) (T, h) y := by
  unfold M_look_p52 at H
  refine jEv.blk [(.aload_n 0, 1, [])] (by decide +kernel) (pc' := 53) (ls' := [(2, Int.ofNat o0)]) (st' := [(2, Int.ofNat o0)]) rfl ?_
  refine jEv.gfI (show jfI 208 53 (.getfield 238) 3 [12, 2, 0, 0, 7038] = true by decide +kernel) (isX12_L ho0) (by decide) ?_
  refine jEv.blk [(.aload_n 0, 1, [])] (by decide +kernel) (pc' := 57) (ls' := [(2, Int.ofNat o0)]) (st' := [(2, Int.ofNat o0), (0, (h o0 2))]) rfl ?_
  refine jEv.gfI (show jfI 208 57 (.getfield 241) 3 [12, 3, 0, 0, 7039] = true by decide +kernel) (isX12_L ho0) (by decide) ?_
  refine jEv.ic_ge (t := 75) (show jfI 208 60 (.if_icmp .ge 15) 3 [] = true by decide +kernel) rfl H (fun c6 H => ?_) (fun c6 H => ?_)
  · refine jEv.blk [(.aload_n 0, 1, [])] (by decide +kernel) (pc' := 64) (ls' := [(2, Int.ofNat o0)]) (st' := [(2, Int.ofNat o0)]) rfl ?_
    refine jEv.gfR (o' := (o0 + 1)) (show jfI 208 64 (.getfield 7) 3 [12, 0, 5, 0, 7036] = true by decide +kernel) (isX12_L ho0) (by decide) (isX12_r0 ho0) ?_
    refine jEv.blk [(.aload_n 0, 1, [])] (by decide +kernel) (pc' := 68) (ls' := [(2, Int.ofNat o0)]) (st' := [(2, Int.ofNat o0), (2, Int.ofNat (o0 + 1))]) rfl ?_
    refine jEv.gfI (show jfI 208 68 (.getfield 238) 3 [12, 2, 0, 0, 7038] = true by decide +kernel) (isX12_L ho0) (by decide) ?_
    refine jEv.ald (Or.inl ⟨rfl, rfl, rfl⟩) (show jfI 208 71 (.iaload) 1 [] = true by decide +kernel) (isX12_a0 ho0) H (fun c7 H => ?_)
    refine jEv.goto (t := 76) (show jfI 208 72 (.goto 4) 3 [] = true by decide +kernel) rfl ?_
    exact jEv.retI (show jfI 208 76 (.ireturn) 1 [] = true by decide +kernel) (by decide +kernel) (by cases H; exact HY)
  · refine jEv.blk [(.iconst (-1), 1, [])] (by decide +kernel) (pc' := 76) (ls' := [(2, Int.ofNat o0)]) (st' := [(0, (-1))]) rfl ?_
    exact jEv.retI (show jfI 208 76 (.ireturn) 1 [] = true by decide +kernel) (by decide +kernel) (by cases H; exact HY)
set_option maxRecDepth 20000 in
noncomputable def M_look_B0  (h : jH) (o0 : Nat) : Option (jH ⊕ (Int × jH)) := (if (h o0 2) < (h o0 3) then (if (0 : Int) ≤ (h o0 2) ∧ ((h o0 2) : Int).toNat < 1600 then (if (h (o0 + 1) ((h o0 2) : Int).toNat) = 10 then M_look_p39 h o0 else (if (0 : Int) ≤ (h o0 2) ∧ ((h o0 2) : Int).toNat < 1600 then (if (h (o0 + 1) ((h o0 2) : Int).toNat) = 32 then M_look_p39 h o0 else Option.map Sum.inr (M_look_p52 h o0)) else none)) else none) else Option.map Sum.inr (M_look_p52 h o0))
noncomputable def M_look_L0  (h : jH) (o0 : Nat) : Option (Int × jH) := jloop (fun s : jH => M_look_B0 s o0) (h)
set_option maxRecDepth 20000 in
theorem t_M_look_B0 {T : jT} {xs : List Int} {d : Nat} {y : jV × jS} (hd : 0 ≤ d) {h : jH}  {o0 : Nat} {out : (jH ⊕ (Int × jH))} (ho0 : isX12 T o0) (H : M_look_B0 h o0 = some out) (HY : yk_M_look_L0 T xs d y o0 out) : jEv xs d (208, 0, [(2, Int.ofNat o0)], []) (T, h) y := by
  unfold M_look_B0 at H
  refine jEv.blk [(.aload_n 0, 1, [])] (by decide +kernel) (pc' := 1) (ls' := [(2, Int.ofNat o0)]) (st' := [(2, Int.ofNat o0)]) rfl ?_
  refine jEv.gfI (show jfI 208 1 (.getfield 238) 3 [12, 2, 0, 0, 7038] = true by decide +kernel) (isX12_L ho0) (by decide) ?_
  refine jEv.blk [(.aload_n 0, 1, [])] (by decide +kernel) (pc' := 5) (ls' := [(2, Int.ofNat o0)]) (st' := [(2, Int.ofNat o0), (0, (h o0 2))]) rfl ?_
  refine jEv.gfI (show jfI 208 5 (.getfield 241) 3 [12, 3, 0, 0, 7039] = true by decide +kernel) (isX12_L ho0) (by decide) ?_
  refine jEv.ic_ge (t := 52) (show jfI 208 8 (.if_icmp .ge 44) 3 [] = true by decide +kernel) rfl H (fun c1 H => ?_) (fun c1 H => ?_)
  · refine jEv.blk [(.aload_n 0, 1, [])] (by decide +kernel) (pc' := 12) (ls' := [(2, Int.ofNat o0)]) (st' := [(2, Int.ofNat o0)]) rfl ?_
    refine jEv.gfR (o' := (o0 + 1)) (show jfI 208 12 (.getfield 7) 3 [12, 0, 5, 0, 7036] = true by decide +kernel) (isX12_L ho0) (by decide) (isX12_r0 ho0) ?_
    refine jEv.blk [(.aload_n 0, 1, [])] (by decide +kernel) (pc' := 16) (ls' := [(2, Int.ofNat o0)]) (st' := [(2, Int.ofNat o0), (2, Int.ofNat (o0 + 1))]) rfl ?_
    refine jEv.gfI (show jfI 208 16 (.getfield 238) 3 [12, 2, 0, 0, 7038] = true by decide +kernel) (isX12_L ho0) (by decide) ?_
    refine jEv.ald (Or.inl ⟨rfl, rfl, rfl⟩) (show jfI 208 19 (.iaload) 1 [] = true by decide +kernel) (isX12_a0 ho0) H (fun c2 H => ?_)
    refine jEv.blk [(.bipush 10, 2, [])] (by decide +kernel) (pc' := 22) (ls' := [(2, Int.ofNat o0)]) (st' := [(0, 10), (0, (h (o0 + 1) ((h o0 2) : Int).toNat))]) rfl ?_
    refine jEv.ic_eq (t := 39) (show jfI 208 22 (.if_icmp .eq 17) 3 [] = true by decide +kernel) rfl H (fun c3 H => ?_) (fun c3 H => ?_)
    · exact t_M_look_p39 (T := T) (xs := xs) (y := y) hd ho0 H HY
    · refine jEv.blk [(.aload_n 0, 1, [])] (by decide +kernel) (pc' := 26) (ls' := [(2, Int.ofNat o0)]) (st' := [(2, Int.ofNat o0)]) rfl ?_
      refine jEv.gfR (o' := (o0 + 1)) (show jfI 208 26 (.getfield 7) 3 [12, 0, 5, 0, 7036] = true by decide +kernel) (isX12_L ho0) (by decide) (isX12_r0 ho0) ?_
      refine jEv.blk [(.aload_n 0, 1, [])] (by decide +kernel) (pc' := 30) (ls' := [(2, Int.ofNat o0)]) (st' := [(2, Int.ofNat o0), (2, Int.ofNat (o0 + 1))]) rfl ?_
      refine jEv.gfI (show jfI 208 30 (.getfield 238) 3 [12, 2, 0, 0, 7038] = true by decide +kernel) (isX12_L ho0) (by decide) ?_
      refine jEv.ald (Or.inl ⟨rfl, rfl, rfl⟩) (show jfI 208 33 (.iaload) 1 [] = true by decide +kernel) (isX12_a0 ho0) H (fun c4 H => ?_)
      refine jEv.blk [(.bipush 32, 2, [])] (by decide +kernel) (pc' := 36) (ls' := [(2, Int.ofNat o0)]) (st' := [(0, 32), (0, (h (o0 + 1) ((h o0 2) : Int).toNat))]) rfl ?_
      refine jEv.ic_ne (t := 52) (show jfI 208 36 (.if_icmp .ne 16) 3 [] = true by decide +kernel) rfl H (fun c5 H => ?_) (fun c5 H => ?_)
      · exact t_M_look_p39 (T := T) (xs := xs) (y := y) hd ho0 H HY
      · refine jmapr H HY (fun out H (HY : ykI T y out) => ?_)
        exact t_M_look_p52 (T := T) (xs := xs) (y := y) hd ho0 H HY
  · refine jmapr H HY (fun out H (HY : ykI T y out) => ?_)
    exact t_M_look_p52 (T := T) (xs := xs) (y := y) hd ho0 H HY
theorem t_M_look_L0 {T : jT} {xs : List Int} {d : Nat} {y : jV × jS} (hd : 0 ≤ d) {h : jH}  {o0 : Nat} {out : (Int × jH)} (ho0 : isX12 T o0) (H : M_look_L0 h o0 = some out) (HY : ykI T y out) : jEv xs d (208, 0, [(2, Int.ofNat o0)], []) (T, h) y :=
  jloop_sound (G := fun s : jH => jEv xs d (208, 0, [(2, Int.ofNat o0)], []) (T, s) y) (K := yk_M_look_L0 T xs d y o0) (fun s out H HY => t_M_look_B0 hd ho0 H HY) (fun s' hg => hg) (s := (h)) H HY
set_option maxRecDepth 20000 in
noncomputable def M_look  (h : jH) (o0 : Nat) : Option (Int × jH) := M_look_L0 h o0
set_option maxRecDepth 20000 in
theorem t_M_look {T : jT} {xs : List Int} {h : jH}  {o0 : Nat} {out : (Int × jH)} (ho0 : isX12 T o0) (H : M_look h o0 = some out) : jEm xs 1 208 [(2, Int.ofNat o0)] (T, h) ((0, out.1), (T, out.2)) := by
  have hd : 0 ≤ 0 := Nat.le_refl _
  obtain ⟨y, ey⟩ : ∃ y : jV × jS, y = ((0, out.1), (T, out.2)) := ⟨_, rfl⟩
  rw [← ey]
  have HY : ykI T y out := ey
  refine jEm.ent (n := 1) (by decide +kernel) (Nat.le_of_ble_eq_true rfl) ?_
  show jEv xs 0 (208, 0, [(2, Int.ofNat o0)], []) (T, h) y
  unfold M_look at H
  exact t_M_look_L0 (T := T) (xs := xs) (y := y) hd ho0 H HY
set_option maxRecDepth 20000 in
noncomputable def M_isLetter_p16   : Option Int := some 0
set_option maxRecDepth 20000 in
theorem t_M_isLetter_p16 {T : jT} {xs : List Int} {d : Nat} {y : jV × jS} (hd : 0 ≤ d) {h : jH}   {out : Int}  (H : M_isLetter_p16 = some out) (HY : ykIp T h y out) : jEv xs d (209, 16, [(3, 0)], []) (T, h) y := by
  unfold M_isLetter_p16 at H
  refine jEv.blk [(.iconst 0, 1, [])] (by decide +kernel) (pc' := 17) (ls' := [(3, 0)]) (st' := [(0, 0)]) rfl ?_
  exact jEv.retZ (show jfI 209 17 (.ireturn) 1 [] = true by decide +kernel) (by decide +kernel) (by decide) (by cases H; exact HY)
set_option maxRecDepth 20000 in
noncomputable def M_isLetter  (v0 : Int) : Option Int := (if v0 < 97 then M_isLetter_p16 else (if 122 < v0 then M_isLetter_p16 else some 1))
set_option maxRecDepth 20000 in
theorem t_M_isLetter {T : jT} {xs : List Int} {h : jH}  {v0 : Int} {out : Int}  (H : M_isLetter v0 = some out) : jEm xs 1 209 [(0, v0)] (T, h) ((0, out), (T, h)) := by
  have hd : 0 ≤ 0 := Nat.le_refl _
  obtain ⟨y, ey⟩ : ∃ y : jV × jS, y = ((0, out), (T, h)) := ⟨_, rfl⟩
  rw [← ey]
  have HY : ykIp T h y out := ey
  refine jEm.ent (n := 1) (by decide +kernel) (Nat.le_of_ble_eq_true rfl) ?_
  show jEv xs 0 (209, 0, [(0, v0)], []) (T, h) y
  unfold M_isLetter at H
  refine jEv.blk [(.iload_n 0, 1, []), (.bipush 97, 2, [])] (by decide +kernel) (pc' := 3) (ls' := [(0, v0)]) (st' := [(0, 97), (0, v0)]) rfl ?_
  refine jEv.ic_lt (t := 16) (show jfI 209 3 (.if_icmp .lt 13) 3 [] = true by decide +kernel) rfl H (fun c1 H => ?_) (fun c1 H => ?_)
  · exact jEv.weak (a := [(3, 0)]) (jles.c0 jles.nl) (t_M_isLetter_p16 (T := T) (xs := xs) (y := y) hd H HY)
  · refine jEv.blk [(.iload_n 0, 1, []), (.bipush 122, 2, [])] (by decide +kernel) (pc' := 9) (ls' := [(0, v0)]) (st' := [(0, 122), (0, v0)]) rfl ?_
    refine jEv.ic_gt (t := 16) (show jfI 209 9 (.if_icmp .gt 7) 3 [] = true by decide +kernel) rfl H (fun c2 H => ?_) (fun c2 H => ?_)
    · exact jEv.weak (a := [(3, 0)]) (jles.c0 jles.nl) (t_M_isLetter_p16 (T := T) (xs := xs) (y := y) hd H HY)
    · refine jEv.blk [(.iconst 1, 1, [])] (by decide +kernel) (pc' := 13) (ls' := [(0, v0)]) (st' := [(0, 1)]) rfl ?_
      refine jEv.goto (t := 17) (show jfI 209 13 (.goto 4) 3 [] = true by decide +kernel) rfl ?_
      exact jEv.retZ (show jfI 209 17 (.ireturn) 1 [] = true by decide +kernel) (by decide +kernel) (by decide) (by cases H; exact HY)
def yk_M_isHere_L76 (T : jT) (xs : List Int) (d : Nat) (y : jV × jS) (h : jH)  (o0 : Nat) (r1 : Nat) (n1 : Nat) : (Int ⊕ (Int × jH)) → Prop
  | .inl v3 => jEv xs d (207, 76, [(2, Int.ofNat o0), (2, Int.ofNat r1), (3, 0), (0, v3)], []) (T, h) y
  | .inr o => ykI T y o
def yk_M_isHere_L35 (T : jT) (xs : List Int) (d : Nat) (y : jV × jS) (h : jH)  (o0 : Nat) (r1 : Nat) (n1 : Nat) : (Int ⊕ (Int × jH)) → Prop
  | .inl v2 => jEv xs d (207, 35, [(2, Int.ofNat o0), (2, Int.ofNat r1), (0, v2), (3, 0)], []) (T, h) y
  | .inr o => ykI T y o
set_option maxRecDepth 20000 in
noncomputable def M_isHere_B76  (h : jH) (o0 : Nat) (r1 : Nat) (n1 : Nat) (v3 : Int) : Option (Int ⊕ (Int × jH)) := (if v3 < ((n1 : Nat) : Int) then (if (0 : Int) ≤ (wr ((h o0 2) + v3)) ∧ ((wr ((h o0 2) + v3)) : Int).toNat < 1600 then (if (0 : Int) ≤ v3 ∧ (v3 : Int).toNat < n1 then (if (h (o0 + 1) ((wr ((h o0 2) + v3)) : Int).toNat) = (h r1 (v3 : Int).toNat) then some (.inl ((wr (v3 + 1)))) else Option.map Sum.inr (some (0, h))) else none) else none) else Option.map Sum.inr (some (1, h)))
noncomputable def M_isHere_L76  (h : jH) (o0 : Nat) (r1 : Nat) (n1 : Nat) (v3 : Int) : Option (Int × jH) := jloop (fun s : Int => M_isHere_B76 h o0 r1 n1 s) (v3)
set_option maxRecDepth 20000 in
theorem t_M_isHere_B76 {T : jT} {xs : List Int} {d : Nat} {y : jV × jS} (hd : 1 ≤ d) {h : jH}  {o0 : Nat} {r1 : Nat} {n1 : Nat} {v3 : Int} {out : (Int ⊕ (Int × jH))} (ho0 : isX12 T o0) (hr1 : T.1[r1]? = some (23, n1)) (H : M_isHere_B76 h o0 r1 n1 v3 = some out) (HY : yk_M_isHere_L76 T xs d y h o0 r1 n1 out) : jEv xs d (207, 76, [(2, Int.ofNat o0), (2, Int.ofNat r1), (3, 0), (0, v3)], []) (T, h) y := by
  unfold M_isHere_B76 at H
  refine jEv.blk [(.iload_n 3, 1, []), (.aload_n 1, 1, [])] (by decide +kernel) (pc' := 78) (ls' := [(2, Int.ofNat o0), (2, Int.ofNat r1), (3, 0), (0, v3)]) (st' := [(2, Int.ofNat r1), (0, v3)]) rfl ?_
  refine jEv.alen (show jfI 207 78 (.arraylength) 1 [] = true by decide +kernel) hr1 (by decide) ?_
  refine jEv.ic_ge (t := 107) (show jfI 207 79 (.if_icmp .ge 28) 3 [] = true by decide +kernel) rfl H (fun c11 H => ?_) (fun c11 H => ?_)
  · refine jEv.blk [(.aload_n 0, 1, [])] (by decide +kernel) (pc' := 83) (ls' := [(2, Int.ofNat o0), (2, Int.ofNat r1), (3, 0), (0, v3)]) (st' := [(2, Int.ofNat o0)]) rfl ?_
    refine jEv.gfR (o' := (o0 + 1)) (show jfI 207 83 (.getfield 7) 3 [12, 0, 5, 0, 7036] = true by decide +kernel) (isX12_L ho0) (by decide) (isX12_r0 ho0) ?_
    refine jEv.blk [(.aload_n 0, 1, [])] (by decide +kernel) (pc' := 87) (ls' := [(2, Int.ofNat o0), (2, Int.ofNat r1), (3, 0), (0, v3)]) (st' := [(2, Int.ofNat o0), (2, Int.ofNat (o0 + 1))]) rfl ?_
    refine jEv.gfI (show jfI 207 87 (.getfield 238) 3 [12, 2, 0, 0, 7038] = true by decide +kernel) (isX12_L ho0) (by decide) ?_
    refine jEv.blk [(.iload_n 3, 1, []), (.iadd, 1, [])] (by decide +kernel) (pc' := 92) (ls' := [(2, Int.ofNat o0), (2, Int.ofNat r1), (3, 0), (0, v3)]) (st' := [(0, (wr ((h o0 2) + v3))), (2, Int.ofNat (o0 + 1))]) rfl ?_
    refine jEv.ald (Or.inl ⟨rfl, rfl, rfl⟩) (show jfI 207 92 (.iaload) 1 [] = true by decide +kernel) (isX12_a0 ho0) H (fun c12 H => ?_)
    refine jEv.blk [(.aload_n 1, 1, []), (.iload_n 3, 1, [])] (by decide +kernel) (pc' := 95) (ls' := [(2, Int.ofNat o0), (2, Int.ofNat r1), (3, 0), (0, v3)]) (st' := [(0, v3), (2, Int.ofNat r1), (0, (h (o0 + 1) ((wr ((h o0 2) + v3)) : Int).toNat))]) rfl ?_
    refine jEv.ald (Or.inr (Or.inr (Or.inl ⟨rfl, rfl, rfl⟩))) (show jfI 207 95 (.caload) 1 [] = true by decide +kernel) hr1 H (fun c13 H => ?_)
    refine jEv.ic_eq (t := 101) (show jfI 207 96 (.if_icmp .eq 5) 3 [] = true by decide +kernel) rfl H (fun c14 H => ?_) (fun c14 H => ?_)
    · refine jEv.blk [(.iinc 3 1, 3, [])] (by decide +kernel) (pc' := 104) (ls' := [(2, Int.ofNat o0), (2, Int.ofNat r1), (3, 0), (0, (wr (v3 + 1)))]) (st' := []) rfl ?_
      refine jEv.goto (t := 76) (show jfI 207 104 (.goto (-28)) 3 [] = true by decide +kernel) rfl ?_
      exact (by cases H; exact HY)
    · refine jmapr H HY (fun out H (HY : ykI T y out) => ?_)
      refine jEv.blk [(.iconst 0, 1, [])] (by decide +kernel) (pc' := 100) (ls' := [(2, Int.ofNat o0), (2, Int.ofNat r1), (3, 0), (0, v3)]) (st' := [(0, 0)]) rfl ?_
      exact jEv.retZ (show jfI 207 100 (.ireturn) 1 [] = true by decide +kernel) (by decide +kernel) (by decide) (by cases H; exact HY)
  · refine jmapr H HY (fun out H (HY : ykI T y out) => ?_)
    refine jEv.blk [(.iconst 1, 1, [])] (by decide +kernel) (pc' := 108) (ls' := [(2, Int.ofNat o0), (2, Int.ofNat r1), (3, 0), (0, v3)]) (st' := [(0, 1)]) rfl ?_
    exact jEv.retZ (show jfI 207 108 (.ireturn) 1 [] = true by decide +kernel) (by decide +kernel) (by decide) (by cases H; exact HY)
theorem t_M_isHere_L76 {T : jT} {xs : List Int} {d : Nat} {y : jV × jS} (hd : 1 ≤ d) {h : jH}  {o0 : Nat} {r1 : Nat} {n1 : Nat} {v3 : Int} {out : (Int × jH)} (ho0 : isX12 T o0) (hr1 : T.1[r1]? = some (23, n1)) (H : M_isHere_L76 h o0 r1 n1 v3 = some out) (HY : ykI T y out) : jEv xs d (207, 76, [(2, Int.ofNat o0), (2, Int.ofNat r1), (3, 0), (0, v3)], []) (T, h) y :=
  jloop_sound (G := fun s : Int => jEv xs d (207, 76, [(2, Int.ofNat o0), (2, Int.ofNat r1), (3, 0), (0, s)], []) (T, h) y) (K := yk_M_isHere_L76 T xs d y h o0 r1 n1) (fun s out H HY => t_M_isHere_B76 hd ho0 hr1 H HY) (fun s' hg => hg) (s := (v3)) H HY
set_option maxRecDepth 20000 in
noncomputable def M_isHere_p61  (h : jH) (o0 : Nat) (r1 : Nat) (n1 : Nat) (v2 : Int) : Option (Int × jH) := (if (wr (v2 - (h o0 2))) = ((n1 : Nat) : Int) then M_isHere_L76 h o0 r1 n1 0 else some (0, h))
set_option maxRecDepth 20000 in
theorem t_M_isHere_p61 {T : jT} {xs : List Int} {d : Nat} {y : jV × jS} (hd : 1 ≤ d) {h : jH}  {o0 : Nat} {r1 : Nat} {n1 : Nat} {v2 : Int} {out : (Int × jH)} (ho0 : isX12 T o0) (hr1 : T.1[r1]? = some (23, n1)) (H : M_isHere_p61 h o0 r1 n1 v2 = some out) (HY : ykI T y out) : jEv xs d (207, 61, [(2, Int.ofNat o0), (2, Int.ofNat r1), (0, v2), (3, 0)], []) (T, h) y := by
  unfold M_isHere_p61 at H
  refine jEv.blk [(.iload_n 2, 1, []), (.aload_n 0, 1, [])] (by decide +kernel) (pc' := 63) (ls' := [(2, Int.ofNat o0), (2, Int.ofNat r1), (0, v2), (3, 0)]) (st' := [(2, Int.ofNat o0), (0, v2)]) rfl ?_
  refine jEv.gfI (show jfI 207 63 (.getfield 238) 3 [12, 2, 0, 0, 7038] = true by decide +kernel) (isX12_L ho0) (by decide) ?_
  refine jEv.blk [(.isub, 1, []), (.aload_n 1, 1, [])] (by decide +kernel) (pc' := 68) (ls' := [(2, Int.ofNat o0), (2, Int.ofNat r1), (0, v2), (3, 0)]) (st' := [(2, Int.ofNat r1), (0, (wr (v2 - (h o0 2))))]) rfl ?_
  refine jEv.alen (show jfI 207 68 (.arraylength) 1 [] = true by decide +kernel) hr1 (by decide) ?_
  refine jEv.ic_eq (t := 74) (show jfI 207 69 (.if_icmp .eq 5) 3 [] = true by decide +kernel) rfl H (fun c10 H => ?_) (fun c10 H => ?_)
  · refine jEv.blk [(.iconst 0, 1, []), (.istore_n 3, 1, [])] (by decide +kernel) (pc' := 76) (ls' := [(2, Int.ofNat o0), (2, Int.ofNat r1), (0, v2), (0, 0)]) (st' := []) rfl ?_
    exact jEv.weak (a := [(2, Int.ofNat o0), (2, Int.ofNat r1), (3, 0), (0, 0)]) (jles.c1 (jles.c1 (jles.c0 (jles.c1 jles.nl)))) (t_M_isHere_L76 (T := T) (xs := xs) (y := y) hd ho0 hr1 H HY)
  · refine jEv.blk [(.iconst 0, 1, [])] (by decide +kernel) (pc' := 73) (ls' := [(2, Int.ofNat o0), (2, Int.ofNat r1), (0, v2), (3, 0)]) (st' := [(0, 0)]) rfl ?_
    exact jEv.retZ (show jfI 207 73 (.ireturn) 1 [] = true by decide +kernel) (by decide +kernel) (by decide) (by cases H; exact HY)
set_option maxRecDepth 20000 in
noncomputable def M_isHere_B35  (h : jH) (o0 : Nat) (r1 : Nat) (n1 : Nat) (v2 : Int) : Option (Int ⊕ (Int × jH)) := (if v2 < (h o0 3) then (if (0 : Int) ≤ v2 ∧ (v2 : Int).toNat < 1600 then Option.bind (M_isLetter (h (o0 + 1) (v2 : Int).toNat)) (fun b8 => (if b8 = 0 then Option.map Sum.inr (M_isHere_p61 h o0 r1 n1 v2) else some (.inl ((wr (v2 + 1)))))) else none) else Option.map Sum.inr (M_isHere_p61 h o0 r1 n1 v2))
noncomputable def M_isHere_L35  (h : jH) (o0 : Nat) (r1 : Nat) (n1 : Nat) (v2 : Int) : Option (Int × jH) := jloop (fun s : Int => M_isHere_B35 h o0 r1 n1 s) (v2)
set_option maxRecDepth 20000 in
theorem t_M_isHere_B35 {T : jT} {xs : List Int} {d : Nat} {y : jV × jS} (hd : 1 ≤ d) {h : jH}  {o0 : Nat} {r1 : Nat} {n1 : Nat} {v2 : Int} {out : (Int ⊕ (Int × jH))} (ho0 : isX12 T o0) (hr1 : T.1[r1]? = some (23, n1)) (H : M_isHere_B35 h o0 r1 n1 v2 = some out) (HY : yk_M_isHere_L35 T xs d y h o0 r1 n1 out) : jEv xs d (207, 35, [(2, Int.ofNat o0), (2, Int.ofNat r1), (0, v2), (3, 0)], []) (T, h) y := by
  unfold M_isHere_B35 at H
  refine jEv.blk [(.iload_n 2, 1, []), (.aload_n 0, 1, [])] (by decide +kernel) (pc' := 37) (ls' := [(2, Int.ofNat o0), (2, Int.ofNat r1), (0, v2), (3, 0)]) (st' := [(2, Int.ofNat o0), (0, v2)]) rfl ?_
  refine jEv.gfI (show jfI 207 37 (.getfield 241) 3 [12, 3, 0, 0, 7039] = true by decide +kernel) (isX12_L ho0) (by decide) ?_
  refine jEv.ic_ge (t := 61) (show jfI 207 40 (.if_icmp .ge 21) 3 [] = true by decide +kernel) rfl H (fun c6 H => ?_) (fun c6 H => ?_)
  · refine jEv.blk [(.aload_n 0, 1, [])] (by decide +kernel) (pc' := 44) (ls' := [(2, Int.ofNat o0), (2, Int.ofNat r1), (0, v2), (3, 0)]) (st' := [(2, Int.ofNat o0)]) rfl ?_
    refine jEv.gfR (o' := (o0 + 1)) (show jfI 207 44 (.getfield 7) 3 [12, 0, 5, 0, 7036] = true by decide +kernel) (isX12_L ho0) (by decide) (isX12_r0 ho0) ?_
    refine jEv.blk [(.iload_n 2, 1, [])] (by decide +kernel) (pc' := 48) (ls' := [(2, Int.ofNat o0), (2, Int.ofNat r1), (0, v2), (3, 0)]) (st' := [(0, v2), (2, Int.ofNat (o0 + 1))]) rfl ?_
    refine jEv.ald (Or.inl ⟨rfl, rfl, rfl⟩) (show jfI 207 48 (.iaload) 1 [] = true by decide +kernel) (isX12_a0 ho0) H (fun c7 H => ?_)
    refine jbind H (fun b8 Hb8 H => ?_)
    refine jEv.calS (st' := [(0, b8)]) (show jfI 207 49 (.invokestatic 248) 3 [3, 209, 1, 8162] = true by decide +kernel) rfl (Or.inl rfl) rfl (Nat.le_of_ble_eq_true rfl) ((t_M_isLetter (T := T) (xs := xs)  Hb8).mono (jKle 1 hd)) rfl ?_
    refine jEv.if_eq (t := 61) (show jfI 207 52 (.ifCond .eq 9) 3 [] = true by decide +kernel) rfl H (fun c9 H => ?_) (fun c9 H => ?_)
    · refine jmapr H HY (fun out H (HY : ykI T y out) => ?_)
      exact t_M_isHere_p61 (T := T) (xs := xs) (y := y) hd ho0 hr1 H HY
    · refine jEv.blk [(.iinc 2 1, 3, [])] (by decide +kernel) (pc' := 58) (ls' := [(2, Int.ofNat o0), (2, Int.ofNat r1), (0, (wr (v2 + 1))), (3, 0)]) (st' := []) rfl ?_
      refine jEv.goto (t := 35) (show jfI 207 58 (.goto (-23)) 3 [] = true by decide +kernel) rfl ?_
      exact (by cases H; exact HY)
  · refine jmapr H HY (fun out H (HY : ykI T y out) => ?_)
    exact t_M_isHere_p61 (T := T) (xs := xs) (y := y) hd ho0 hr1 H HY
theorem t_M_isHere_L35 {T : jT} {xs : List Int} {d : Nat} {y : jV × jS} (hd : 1 ≤ d) {h : jH}  {o0 : Nat} {r1 : Nat} {n1 : Nat} {v2 : Int} {out : (Int × jH)} (ho0 : isX12 T o0) (hr1 : T.1[r1]? = some (23, n1)) (H : M_isHere_L35 h o0 r1 n1 v2 = some out) (HY : ykI T y out) : jEv xs d (207, 35, [(2, Int.ofNat o0), (2, Int.ofNat r1), (0, v2), (3, 0)], []) (T, h) y :=
  jloop_sound (G := fun s : Int => jEv xs d (207, 35, [(2, Int.ofNat o0), (2, Int.ofNat r1), (0, s), (3, 0)], []) (T, h) y) (K := yk_M_isHere_L35 T xs d y h o0 r1 n1) (fun s out H HY => t_M_isHere_B35 hd ho0 hr1 H HY) (fun s' hg => hg) (s := (v2)) H HY
set_option maxRecDepth 20000 in
noncomputable def M_isHere  (h : jH) (o0 : Nat) (r1 : Nat) (n1 : Nat) : Option (Int × jH) := (if (h o0 5) = 0 then Option.bind (M_look h o0) (fun b2 => Option.bind (M_isLetter b2.1) (fun b3 => (if b3 = 0 then some (0, b2.2) else (if (b2.2 o0 2) = (b2.2 o0 4) then some (0, b2.2) else M_isHere_L35 b2.2 o0 r1 n1 (b2.2 o0 2))))) else some (0, h))
set_option maxRecDepth 20000 in
theorem t_M_isHere {T : jT} {xs : List Int} {h : jH}  {o0 : Nat} {r1 : Nat} {n1 : Nat} {out : (Int × jH)} (ho0 : isX12 T o0) (hr1 : T.1[r1]? = some (23, n1)) (H : M_isHere h o0 r1 n1 = some out) : jEm xs 2 207 [(2, Int.ofNat o0), (2, Int.ofNat r1)] (T, h) ((0, out.1), (T, out.2)) := by
  have hd : 1 ≤ 1 := Nat.le_refl _
  obtain ⟨y, ey⟩ : ∃ y : jV × jS, y = ((0, out.1), (T, out.2)) := ⟨_, rfl⟩
  rw [← ey]
  have HY : ykI T y out := ey
  refine jEm.ent (n := 4) (by decide +kernel) (Nat.le_of_ble_eq_true rfl) ?_
  show jEv xs 1 (207, 0, [(2, Int.ofNat o0), (2, Int.ofNat r1), (3, 0), (3, 0)], []) (T, h) y
  unfold M_isHere at H
  refine jEv.blk [(.aload_n 0, 1, [])] (by decide +kernel) (pc' := 1) (ls' := [(2, Int.ofNat o0), (2, Int.ofNat r1), (3, 0), (3, 0)]) (st' := [(2, Int.ofNat o0)]) rfl ?_
  refine jEv.gfI (show jfI 207 1 (.getfield 232) 3 [12, 5, 0, 0, 7041] = true by decide +kernel) (isX12_L ho0) (by decide) ?_
  refine jEv.if_ne (t := 28) (show jfI 207 4 (.ifCond .ne 24) 3 [] = true by decide +kernel) rfl H (fun c1 H => ?_) (fun c1 H => ?_)
  · refine jEv.blk [(.aload_n 0, 1, [])] (by decide +kernel) (pc' := 8) (ls' := [(2, Int.ofNat o0), (2, Int.ofNat r1), (3, 0), (3, 0)]) (st' := [(2, Int.ofNat o0)]) rfl ?_
    refine jbind H (fun b2 Hb2 H => ?_)
    refine jEv.calV (st' := [(0, b2.1)]) (show jfI 207 8 (.invokevirtual 244) 3 [1, 208, 0, 8158] = true by decide +kernel) rfl (Or.inl rfl) rfl (Nat.le_of_ble_eq_true rfl) (by decide +kernel) (by decide) (isX12_L ho0) ((t_M_look (T := T) (xs := xs) ho0 Hb2).mono (jKle 1 hd)) rfl ?_
    refine jbind H (fun b3 Hb3 H => ?_)
    refine jEv.calS (st' := [(0, b3)]) (show jfI 207 11 (.invokestatic 248) 3 [3, 209, 1, 8162] = true by decide +kernel) rfl (Or.inl rfl) rfl (Nat.le_of_ble_eq_true rfl) ((t_M_isLetter (T := T) (xs := xs)  Hb3).mono (jKle 1 hd)) rfl ?_
    refine jEv.if_eq (t := 28) (show jfI 207 14 (.ifCond .eq 14) 3 [] = true by decide +kernel) rfl H (fun c4 H => ?_) (fun c4 H => ?_)
    · refine jEv.blk [(.iconst 0, 1, [])] (by decide +kernel) (pc' := 29) (ls' := [(2, Int.ofNat o0), (2, Int.ofNat r1), (3, 0), (3, 0)]) (st' := [(0, 0)]) rfl ?_
      exact jEv.retZ (show jfI 207 29 (.ireturn) 1 [] = true by decide +kernel) (by decide +kernel) (by decide) (by cases H; exact HY)
    · refine jEv.blk [(.aload_n 0, 1, [])] (by decide +kernel) (pc' := 18) (ls' := [(2, Int.ofNat o0), (2, Int.ofNat r1), (3, 0), (3, 0)]) (st' := [(2, Int.ofNat o0)]) rfl ?_
      refine jEv.gfI (show jfI 207 18 (.getfield 238) 3 [12, 2, 0, 0, 7038] = true by decide +kernel) (isX12_L ho0) (by decide) ?_
      refine jEv.blk [(.aload_n 0, 1, [])] (by decide +kernel) (pc' := 22) (ls' := [(2, Int.ofNat o0), (2, Int.ofNat r1), (3, 0), (3, 0)]) (st' := [(2, Int.ofNat o0), (0, (b2.2 o0 2))]) rfl ?_
      refine jEv.gfI (show jfI 207 22 (.getfield 252) 3 [12, 4, 0, 0, 7040] = true by decide +kernel) (isX12_L ho0) (by decide) ?_
      refine jEv.ic_ne (t := 30) (show jfI 207 25 (.if_icmp .ne 5) 3 [] = true by decide +kernel) rfl H (fun c5 H => ?_) (fun c5 H => ?_)
      · refine jEv.blk [(.iconst 0, 1, [])] (by decide +kernel) (pc' := 29) (ls' := [(2, Int.ofNat o0), (2, Int.ofNat r1), (3, 0), (3, 0)]) (st' := [(0, 0)]) rfl ?_
        exact jEv.retZ (show jfI 207 29 (.ireturn) 1 [] = true by decide +kernel) (by decide +kernel) (by decide) (by cases H; exact HY)
      · refine jEv.blk [(.aload_n 0, 1, [])] (by decide +kernel) (pc' := 31) (ls' := [(2, Int.ofNat o0), (2, Int.ofNat r1), (3, 0), (3, 0)]) (st' := [(2, Int.ofNat o0)]) rfl ?_
        refine jEv.gfI (show jfI 207 31 (.getfield 238) 3 [12, 2, 0, 0, 7038] = true by decide +kernel) (isX12_L ho0) (by decide) ?_
        refine jEv.blk [(.istore_n 2, 1, [])] (by decide +kernel) (pc' := 35) (ls' := [(2, Int.ofNat o0), (2, Int.ofNat r1), (0, (b2.2 o0 2)), (3, 0)]) (st' := []) rfl ?_
        exact t_M_isHere_L35 (T := T) (xs := xs) (y := y) hd ho0 hr1 H HY
  · refine jEv.blk [(.iconst 0, 1, [])] (by decide +kernel) (pc' := 29) (ls' := [(2, Int.ofNat o0), (2, Int.ofNat r1), (3, 0), (3, 0)]) (st' := [(0, 0)]) rfl ?_
    exact jEv.retZ (show jfI 207 29 (.ireturn) 1 [] = true by decide +kernel) (by decide +kernel) (by decide) (by cases H; exact HY)
set_option maxRecDepth 20000 in
noncomputable def M_takes  (h : jH) (o0 : Nat) (r1 : Nat) (n1 : Nat) : Option (Int × jH) := Option.bind (M_isHere h o0 r1 n1) (fun b1 => (if b1.1 = 0 then some (0, b1.2) else some (1, (jup (jup b1.2 o0 2 (wr ((b1.2 o0 2) + ((n1 : Nat) : Int)))) o0 4 ((jup b1.2 o0 2 (wr ((b1.2 o0 2) + ((n1 : Nat) : Int)))) o0 2)))))
set_option maxRecDepth 20000 in
theorem t_M_takes {T : jT} {xs : List Int} {h : jH}  {o0 : Nat} {r1 : Nat} {n1 : Nat} {out : (Int × jH)} (ho0 : isX12 T o0) (hr1 : T.1[r1]? = some (23, n1)) (H : M_takes h o0 r1 n1 = some out) : jEm xs 3 206 [(2, Int.ofNat o0), (2, Int.ofNat r1)] (T, h) ((0, out.1), (T, out.2)) := by
  have hd : 2 ≤ 2 := Nat.le_refl _
  obtain ⟨y, ey⟩ : ∃ y : jV × jS, y = ((0, out.1), (T, out.2)) := ⟨_, rfl⟩
  rw [← ey]
  have HY : ykI T y out := ey
  refine jEm.ent (n := 2) (by decide +kernel) (Nat.le_of_ble_eq_true rfl) ?_
  show jEv xs 2 (206, 0, [(2, Int.ofNat o0), (2, Int.ofNat r1)], []) (T, h) y
  unfold M_takes at H
  refine jEv.blk [(.aload_n 0, 1, []), (.aload_n 1, 1, [])] (by decide +kernel) (pc' := 2) (ls' := [(2, Int.ofNat o0), (2, Int.ofNat r1)]) (st' := [(2, Int.ofNat r1), (2, Int.ofNat o0)]) rfl ?_
  refine jbind H (fun b1 Hb1 H => ?_)
  refine jEv.calV (st' := [(0, b1.1)]) (show jfI 206 2 (.invokevirtual 255) 3 [1, 207, 1, 8154] = true by decide +kernel) rfl (Or.inl rfl) rfl (Nat.le_of_ble_eq_true rfl) (by decide +kernel) (by decide) (isX12_L ho0) ((t_M_isHere (T := T) (xs := xs) ho0 hr1 Hb1).mono (jKle 2 hd)) rfl ?_
  refine jEv.if_ne (t := 10) (show jfI 206 5 (.ifCond .ne 5) 3 [] = true by decide +kernel) rfl H (fun c2 H => ?_) (fun c2 H => ?_)
  · refine jEv.blk [(.iconst 0, 1, [])] (by decide +kernel) (pc' := 9) (ls' := [(2, Int.ofNat o0), (2, Int.ofNat r1)]) (st' := [(0, 0)]) rfl ?_
    exact jEv.retZ (show jfI 206 9 (.ireturn) 1 [] = true by decide +kernel) (by decide +kernel) (by decide) (by cases H; exact HY)
  · refine jEv.blk [(.aload_n 0, 1, []), (.dup, 1, [])] (by decide +kernel) (pc' := 12) (ls' := [(2, Int.ofNat o0), (2, Int.ofNat r1)]) (st' := [(2, Int.ofNat o0), (2, Int.ofNat o0)]) rfl ?_
    refine jEv.gfI (show jfI 206 12 (.getfield 238) 3 [12, 2, 0, 0, 7038] = true by decide +kernel) (isX12_L ho0) (by decide) ?_
    refine jEv.blk [(.aload_n 1, 1, [])] (by decide +kernel) (pc' := 16) (ls' := [(2, Int.ofNat o0), (2, Int.ofNat r1)]) (st' := [(2, Int.ofNat r1), (0, (b1.2 o0 2)), (2, Int.ofNat o0)]) rfl ?_
    refine jEv.alen (show jfI 206 16 (.arraylength) 1 [] = true by decide +kernel) hr1 (by decide) ?_
    refine jEv.blk [(.iadd, 1, [])] (by decide +kernel) (pc' := 18) (ls' := [(2, Int.ofNat o0), (2, Int.ofNat r1)]) (st' := [(0, (wr ((b1.2 o0 2) + ((n1 : Nat) : Int)))), (2, Int.ofNat o0)]) rfl ?_
    refine jEv.pfI (show jfI 206 18 (.putfield 238) 3 [12, 2, 0, 0, 7038] = true by decide +kernel) (isX12_L ho0) (by decide) ?_
    refine jEv.blk [(.aload_n 0, 1, []), (.aload_n 0, 1, [])] (by decide +kernel) (pc' := 23) (ls' := [(2, Int.ofNat o0), (2, Int.ofNat r1)]) (st' := [(2, Int.ofNat o0), (2, Int.ofNat o0)]) rfl ?_
    refine jEv.gfI (show jfI 206 23 (.getfield 238) 3 [12, 2, 0, 0, 7038] = true by decide +kernel) (isX12_L ho0) (by decide) ?_
    refine jEv.pfI (show jfI 206 26 (.putfield 252) 3 [12, 4, 0, 0, 7040] = true by decide +kernel) (isX12_L ho0) (by decide) ?_
    refine jEv.blk [(.iconst 1, 1, [])] (by decide +kernel) (pc' := 30) (ls' := [(2, Int.ofNat o0), (2, Int.ofNat r1)]) (st' := [(0, 1)]) rfl ?_
    exact jEv.retZ (show jfI 206 30 (.ireturn) 1 [] = true by decide +kernel) (by decide +kernel) (by decide) (by cases H; exact HY)
set_option maxRecDepth 20000 in
noncomputable def M_fail  (h : jH) (o0 : Nat) (v1 : Int) (v2 : Int) : Option jH := (if (h o0 5) = 0 then some (jup (jup h o0 5 v1) o0 6 v2) else some h)
set_option maxRecDepth 20000 in
theorem t_M_fail {T : jT} {xs : List Int} {h : jH}  {o0 : Nat} {v1 : Int} {v2 : Int} {out : jH} (ho0 : isX12 T o0) (H : M_fail h o0 v1 v2 = some out) : jEm xs 1 210 [(2, Int.ofNat o0), (0, v1), (0, v2)] (T, h) ((3, 0), (T, out)) := by
  have hd : 0 ≤ 0 := Nat.le_refl _
  obtain ⟨y, ey⟩ : ∃ y : jV × jS, y = ((3, 0), (T, out)) := ⟨_, rfl⟩
  rw [← ey]
  have HY : ykV T y out := ey
  refine jEm.ent (n := 3) (by decide +kernel) (Nat.le_of_ble_eq_true rfl) ?_
  show jEv xs 0 (210, 0, [(2, Int.ofNat o0), (0, v1), (0, v2)], []) (T, h) y
  unfold M_fail at H
  refine jEv.blk [(.aload_n 0, 1, [])] (by decide +kernel) (pc' := 1) (ls' := [(2, Int.ofNat o0), (0, v1), (0, v2)]) (st' := [(2, Int.ofNat o0)]) rfl ?_
  refine jEv.gfI (show jfI 210 1 (.getfield 232) 3 [12, 5, 0, 0, 7041] = true by decide +kernel) (isX12_L ho0) (by decide) ?_
  refine jEv.if_eq (t := 8) (show jfI 210 4 (.ifCond .eq 4) 3 [] = true by decide +kernel) rfl H (fun c1 H => ?_) (fun c1 H => ?_)
  · refine jEv.blk [(.aload_n 0, 1, []), (.iload_n 1, 1, [])] (by decide +kernel) (pc' := 10) (ls' := [(2, Int.ofNat o0), (0, v1), (0, v2)]) (st' := [(0, v1), (2, Int.ofNat o0)]) rfl ?_
    refine jEv.pfI (show jfI 210 10 (.putfield 232) 3 [12, 5, 0, 0, 7041] = true by decide +kernel) (isX12_L ho0) (by decide) ?_
    refine jEv.blk [(.aload_n 0, 1, []), (.iload_n 2, 1, [])] (by decide +kernel) (pc' := 15) (ls' := [(2, Int.ofNat o0), (0, v1), (0, v2)]) (st' := [(0, v2), (2, Int.ofNat o0)]) rfl ?_
    refine jEv.pfI (show jfI 210 15 (.putfield 235) 3 [12, 6, 0, 0, 7042] = true by decide +kernel) (isX12_L ho0) (by decide) ?_
    exact jEv.retV (show jfI 210 18 (.return_) 1 [] = true by decide +kernel) (by decide +kernel) (by cases H; exact HY)
  · exact jEv.retV (show jfI 210 7 (.return_) 1 [] = true by decide +kernel) (by decide +kernel) (by cases H; exact HY)
set_option maxRecDepth 20000 in
noncomputable def M_asks  (h : jH) (o0 : Nat) (r1 : Nat) (n1 : Nat) : Option jH := (if (h o0 5) = 0 then Option.bind (M_takes h o0 r1 n1) (fun b2 => (if b2.1 = 0 then Option.bind (M_fail b2.2 o0 1 (b2.2 o0 2)) (fun b4 => some b4) else some b2.2)) else some h)
set_option maxRecDepth 20000 in
theorem t_M_asks {T : jT} {xs : List Int} {h : jH}  {o0 : Nat} {r1 : Nat} {n1 : Nat} {out : jH} (ho0 : isX12 T o0) (hr1 : T.1[r1]? = some (23, n1)) (H : M_asks h o0 r1 n1 = some out) : jEm xs 4 205 [(2, Int.ofNat o0), (2, Int.ofNat r1)] (T, h) ((3, 0), (T, out)) := by
  have hd : 3 ≤ 3 := Nat.le_refl _
  obtain ⟨y, ey⟩ : ∃ y : jV × jS, y = ((3, 0), (T, out)) := ⟨_, rfl⟩
  rw [← ey]
  have HY : ykV T y out := ey
  refine jEm.ent (n := 2) (by decide +kernel) (Nat.le_of_ble_eq_true rfl) ?_
  show jEv xs 3 (205, 0, [(2, Int.ofNat o0), (2, Int.ofNat r1)], []) (T, h) y
  unfold M_asks at H
  refine jEv.blk [(.aload_n 0, 1, [])] (by decide +kernel) (pc' := 1) (ls' := [(2, Int.ofNat o0), (2, Int.ofNat r1)]) (st' := [(2, Int.ofNat o0)]) rfl ?_
  refine jEv.gfI (show jfI 205 1 (.getfield 232) 3 [12, 5, 0, 0, 7041] = true by decide +kernel) (isX12_L ho0) (by decide) ?_
  refine jEv.if_ne (t := 24) (show jfI 205 4 (.ifCond .ne 20) 3 [] = true by decide +kernel) rfl H (fun c1 H => ?_) (fun c1 H => ?_)
  · refine jEv.blk [(.aload_n 0, 1, []), (.aload_n 1, 1, [])] (by decide +kernel) (pc' := 9) (ls' := [(2, Int.ofNat o0), (2, Int.ofNat r1)]) (st' := [(2, Int.ofNat r1), (2, Int.ofNat o0)]) rfl ?_
    refine jbind H (fun b2 Hb2 H => ?_)
    refine jEv.calV (st' := [(0, b2.1)]) (show jfI 205 9 (.invokevirtual 259) 3 [1, 206, 1, 8150] = true by decide +kernel) rfl (Or.inl rfl) rfl (Nat.le_of_ble_eq_true rfl) (by decide +kernel) (by decide) (isX12_L ho0) ((t_M_takes (T := T) (xs := xs) ho0 hr1 Hb2).mono (jKle 3 hd)) rfl ?_
    refine jEv.if_ne (t := 24) (show jfI 205 12 (.ifCond .ne 12) 3 [] = true by decide +kernel) rfl H (fun c3 H => ?_) (fun c3 H => ?_)
    · refine jEv.blk [(.aload_n 0, 1, []), (.iconst 1, 1, []), (.aload_n 0, 1, [])] (by decide +kernel) (pc' := 18) (ls' := [(2, Int.ofNat o0), (2, Int.ofNat r1)]) (st' := [(2, Int.ofNat o0), (0, 1), (2, Int.ofNat o0)]) rfl ?_
      refine jEv.gfI (show jfI 205 18 (.getfield 238) 3 [12, 2, 0, 0, 7038] = true by decide +kernel) (isX12_L ho0) (by decide) ?_
      refine jbind H (fun b4 Hb4 H => ?_)
      refine jEv.calV (st' := []) (show jfI 205 21 (.invokevirtual 262) 3 [1, 210, 2, 8165] = true by decide +kernel) rfl (Or.inl rfl) rfl (Nat.le_of_ble_eq_true rfl) (by decide +kernel) (by decide) (isX12_L ho0) ((t_M_fail (T := T) (xs := xs) ho0 Hb4).mono (jKle 1 hd)) rfl ?_
      exact jEv.retV (show jfI 205 24 (.return_) 1 [] = true by decide +kernel) (by decide +kernel) (by cases H; exact HY)
    · exact jEv.retV (show jfI 205 24 (.return_) 1 [] = true by decide +kernel) (by decide +kernel) (by cases H; exact HY)
  · exact jEv.retV (show jfI 205 24 (.return_) 1 [] = true by decide +kernel) (by decide +kernel) (by cases H; exact HY)
set_option maxRecDepth 20000 in
noncomputable def M_isDigit_p16   : Option Int := some 0
set_option maxRecDepth 20000 in
theorem t_M_isDigit_p16 {T : jT} {xs : List Int} {d : Nat} {y : jV × jS} (hd : 0 ≤ d) {h : jH}   {out : Int}  (H : M_isDigit_p16 = some out) (HY : ykIp T h y out) : jEv xs d (212, 16, [(3, 0)], []) (T, h) y := by
  unfold M_isDigit_p16 at H
  refine jEv.blk [(.iconst 0, 1, [])] (by decide +kernel) (pc' := 17) (ls' := [(3, 0)]) (st' := [(0, 0)]) rfl ?_
  exact jEv.retZ (show jfI 212 17 (.ireturn) 1 [] = true by decide +kernel) (by decide +kernel) (by decide) (by cases H; exact HY)
set_option maxRecDepth 20000 in
noncomputable def M_isDigit  (v0 : Int) : Option Int := (if v0 < 48 then M_isDigit_p16 else (if 57 < v0 then M_isDigit_p16 else some 1))
set_option maxRecDepth 20000 in
theorem t_M_isDigit {T : jT} {xs : List Int} {h : jH}  {v0 : Int} {out : Int}  (H : M_isDigit v0 = some out) : jEm xs 1 212 [(0, v0)] (T, h) ((0, out), (T, h)) := by
  have hd : 0 ≤ 0 := Nat.le_refl _
  obtain ⟨y, ey⟩ : ∃ y : jV × jS, y = ((0, out), (T, h)) := ⟨_, rfl⟩
  rw [← ey]
  have HY : ykIp T h y out := ey
  refine jEm.ent (n := 1) (by decide +kernel) (Nat.le_of_ble_eq_true rfl) ?_
  show jEv xs 0 (212, 0, [(0, v0)], []) (T, h) y
  unfold M_isDigit at H
  refine jEv.blk [(.iload_n 0, 1, []), (.bipush 48, 2, [])] (by decide +kernel) (pc' := 3) (ls' := [(0, v0)]) (st' := [(0, 48), (0, v0)]) rfl ?_
  refine jEv.ic_lt (t := 16) (show jfI 212 3 (.if_icmp .lt 13) 3 [] = true by decide +kernel) rfl H (fun c1 H => ?_) (fun c1 H => ?_)
  · exact jEv.weak (a := [(3, 0)]) (jles.c0 jles.nl) (t_M_isDigit_p16 (T := T) (xs := xs) (y := y) hd H HY)
  · refine jEv.blk [(.iload_n 0, 1, []), (.bipush 57, 2, [])] (by decide +kernel) (pc' := 9) (ls' := [(0, v0)]) (st' := [(0, 57), (0, v0)]) rfl ?_
    refine jEv.ic_gt (t := 16) (show jfI 212 9 (.if_icmp .gt 7) 3 [] = true by decide +kernel) rfl H (fun c2 H => ?_) (fun c2 H => ?_)
    · exact jEv.weak (a := [(3, 0)]) (jles.c0 jles.nl) (t_M_isDigit_p16 (T := T) (xs := xs) (y := y) hd H HY)
    · refine jEv.blk [(.iconst 1, 1, [])] (by decide +kernel) (pc' := 13) (ls' := [(0, v0)]) (st' := [(0, 1)]) rfl ?_
      refine jEv.goto (t := 17) (show jfI 212 13 (.goto 4) 3 [] = true by decide +kernel) rfl ?_
      exact jEv.retZ (show jfI 212 17 (.ireturn) 1 [] = true by decide +kernel) (by decide +kernel) (by decide) (by cases H; exact HY)
set_option maxRecDepth 20000 in
noncomputable def M_isIn_p17   : Option Int := some 0
set_option maxRecDepth 20000 in
theorem t_M_isIn_p17 {T : jT} {xs : List Int} {d : Nat} {y : jV × jS} (hd : 0 ≤ d) {h : jH}   {out : Int}  (H : M_isIn_p17 = some out) (HY : ykIp T h y out) : jEv xs d (213, 17, [(3, 0), (3, 0), (3, 0), (3, 0), (3, 0), (3, 0)], []) (T, h) y := by
  unfold M_isIn_p17 at H
  refine jEv.blk [(.iconst 0, 1, [])] (by decide +kernel) (pc' := 18) (ls' := [(3, 0), (3, 0), (3, 0), (3, 0), (3, 0), (3, 0)]) (st' := [(0, 0)]) rfl ?_
  exact jEv.retZ (show jfI 213 18 (.ireturn) 1 [] = true by decide +kernel) (by decide +kernel) (by decide) (by cases H; exact HY)
set_option maxRecDepth 20000 in
noncomputable def M_isIn  (v0 : Int) (v2 : Int) (v4 : Int) : Option Int := (if (jcmp v0 v2) < 0 then M_isIn_p17 else (if 0 < (jcmp v0 v4) then M_isIn_p17 else some 1))
set_option maxRecDepth 20000 in
theorem t_M_isIn {T : jT} {xs : List Int} {h : jH}  {v0 : Int} {v2 : Int} {v4 : Int} {out : Int}  (H : M_isIn v0 v2 v4 = some out) : jEm xs 1 213 [(1, v0), (1, v2), (1, v4)] (T, h) ((0, out), (T, h)) := by
  have hd : 0 ≤ 0 := Nat.le_refl _
  obtain ⟨y, ey⟩ : ∃ y : jV × jS, y = ((0, out), (T, h)) := ⟨_, rfl⟩
  rw [← ey]
  have HY : ykIp T h y out := ey
  refine jEm.ent (n := 6) (by decide +kernel) (Nat.le_of_ble_eq_true rfl) ?_
  show jEv xs 0 (213, 0, [(1, v0), (3, 0), (1, v2), (3, 0), (1, v4), (3, 0)], []) (T, h) y
  unfold M_isIn at H
  refine jEv.blk [(.lload_n 0, 1, []), (.lload_n 2, 1, []), (.lcmp, 1, [])] (by decide +kernel) (pc' := 3) (ls' := [(1, v0), (3, 0), (1, v2), (3, 0), (1, v4), (3, 0)]) (st' := [(0, (jcmp v0 v2))]) rfl ?_
  refine jEv.if_lt (t := 17) (show jfI 213 3 (.ifCond .lt 14) 3 [] = true by decide +kernel) rfl H (fun c1 H => ?_) (fun c1 H => ?_)
  · exact jEv.weak (a := [(3, 0), (3, 0), (3, 0), (3, 0), (3, 0), (3, 0)]) (jles.c0 (jles.c0 (jles.c0 (jles.c0 (jles.c0 (jles.c0 jles.nl)))))) (t_M_isIn_p17 (T := T) (xs := xs) (y := y) hd H HY)
  · refine jEv.blk [(.lload_n 0, 1, []), (.lload 4, 2, []), (.lcmp, 1, [])] (by decide +kernel) (pc' := 10) (ls' := [(1, v0), (3, 0), (1, v2), (3, 0), (1, v4), (3, 0)]) (st' := [(0, (jcmp v0 v4))]) rfl ?_
    refine jEv.if_gt (t := 17) (show jfI 213 10 (.ifCond .gt 7) 3 [] = true by decide +kernel) rfl H (fun c2 H => ?_) (fun c2 H => ?_)
    · exact jEv.weak (a := [(3, 0), (3, 0), (3, 0), (3, 0), (3, 0), (3, 0)]) (jles.c0 (jles.c0 (jles.c0 (jles.c0 (jles.c0 (jles.c0 jles.nl)))))) (t_M_isIn_p17 (T := T) (xs := xs) (y := y) hd H HY)
    · refine jEv.blk [(.iconst 1, 1, [])] (by decide +kernel) (pc' := 14) (ls' := [(1, v0), (3, 0), (1, v2), (3, 0), (1, v4), (3, 0)]) (st' := [(0, 1)]) rfl ?_
      refine jEv.goto (t := 18) (show jfI 213 14 (.goto 4) 3 [] = true by decide +kernel) rfl ?_
      exact jEv.retZ (show jfI 213 18 (.ireturn) 1 [] = true by decide +kernel) (by decide +kernel) (by decide) (by cases H; exact HY)
def yk_M_number_L49 (T : jT) (xs : List Int) (d : Nat) (y : jV × jS)  (o0 : Nat) (v1 : Int) (v2 : Int) (v3 : Int) : ((Int × jH) ⊕ (Int × jH)) → Prop
  | .inl (v4, h) => jEv xs d (211, 49, [(2, Int.ofNat o0), (0, v1), (0, v2), (0, v3), (0, v4)], []) (T, h) y
  | .inr o => ykI T y o
set_option maxRecDepth 20000 in
noncomputable def M_number_p30  (h : jH) (o0 : Nat) : Option (Int × jH) := Option.bind (M_fail h o0 1 (h o0 2)) (fun b6 => some (0, b6))
set_option maxRecDepth 20000 in
theorem t_M_number_p30 {T : jT} {xs : List Int} {d : Nat} {y : jV × jS} (hd : 1 ≤ d) {h : jH}  {o0 : Nat} {out : (Int × jH)} (ho0 : isX12 T o0) (H : M_number_p30 h o0 = some out) (HY : ykI T y out) : jEv xs d (211, 30, [(2, Int.ofNat o0), (3, 0), (3, 0), (3, 0), (3, 0)], []) (T, h) y := by
  unfold M_number_p30 at H
  refine jEv.blk [(.aload_n 0, 1, []), (.iconst 1, 1, []), (.aload_n 0, 1, [])] (by decide +kernel) (pc' := 33) (ls' := [(2, Int.ofNat o0), (3, 0), (3, 0), (3, 0), (3, 0)]) (st' := [(2, Int.ofNat o0), (0, 1), (2, Int.ofNat o0)]) rfl ?_
  refine jEv.gfI (show jfI 211 33 (.getfield 238) 3 [12, 2, 0, 0, 7038] = true by decide +kernel) (isX12_L ho0) (by decide) ?_
  refine jbind H (fun b6 Hb6 H => ?_)
  refine jEv.calV (st' := []) (show jfI 211 36 (.invokevirtual 262) 3 [1, 210, 2, 8165] = true by decide +kernel) rfl (Or.inl rfl) rfl (Nat.le_of_ble_eq_true rfl) (by decide +kernel) (by decide) (isX12_L ho0) ((t_M_fail (T := T) (xs := xs) ho0 Hb6).mono (jKle 1 hd)) rfl ?_
  refine jEv.blk [(.iconst 0, 1, [])] (by decide +kernel) (pc' := 40) (ls' := [(2, Int.ofNat o0), (3, 0), (3, 0), (3, 0), (3, 0)]) (st' := [(0, 0)]) rfl ?_
  exact jEv.retI (show jfI 211 40 (.ireturn) 1 [] = true by decide +kernel) (by decide +kernel) (by cases H; exact HY)
set_option maxRecDepth 20000 in
noncomputable def M_number_p129  (h : jH) (o0 : Nat) (v1 : Int) (v2 : Int) (v3 : Int) (v4 : Int) : Option (Int × jH) := Option.bind (M_isIn v4 v1 v2) (fun b14 => (if b14 = 0 then Option.bind (M_fail (jup (jup h o0 4 (h o0 2)) o0 10 v3) o0 2 ((jup (jup h o0 4 (h o0 2)) o0 10 v3) o0 10)) (fun b16 => some (v4, b16)) else some (v4, (jup (jup h o0 4 (h o0 2)) o0 10 v3))))
set_option maxRecDepth 20000 in
theorem t_M_number_p129 {T : jT} {xs : List Int} {d : Nat} {y : jV × jS} (hd : 1 ≤ d) {h : jH}  {o0 : Nat} {v1 : Int} {v2 : Int} {v3 : Int} {v4 : Int} {out : (Int × jH)} (ho0 : isX12 T o0) (H : M_number_p129 h o0 v1 v2 v3 v4 = some out) (HY : ykI T y out) : jEv xs d (211, 129, [(2, Int.ofNat o0), (0, v1), (0, v2), (0, v3), (0, v4)], []) (T, h) y := by
  unfold M_number_p129 at H
  refine jEv.blk [(.aload_n 0, 1, []), (.aload_n 0, 1, [])] (by decide +kernel) (pc' := 131) (ls' := [(2, Int.ofNat o0), (0, v1), (0, v2), (0, v3), (0, v4)]) (st' := [(2, Int.ofNat o0), (2, Int.ofNat o0)]) rfl ?_
  refine jEv.gfI (show jfI 211 131 (.getfield 238) 3 [12, 2, 0, 0, 7038] = true by decide +kernel) (isX12_L ho0) (by decide) ?_
  refine jEv.pfI (show jfI 211 134 (.putfield 252) 3 [12, 4, 0, 0, 7040] = true by decide +kernel) (isX12_L ho0) (by decide) ?_
  refine jEv.blk [(.aload_n 0, 1, []), (.iload_n 3, 1, [])] (by decide +kernel) (pc' := 139) (ls' := [(2, Int.ofNat o0), (0, v1), (0, v2), (0, v3), (0, v4)]) (st' := [(0, v3), (2, Int.ofNat o0)]) rfl ?_
  refine jEv.pfI (show jfI 211 139 (.putfield 272) 3 [12, 10, 0, 0, 7046] = true by decide +kernel) (isX12_L ho0) (by decide) ?_
  refine jEv.blk [(.iload 4, 2, []), (.i2l, 1, []), (.iload_n 1, 1, []), (.i2l, 1, []), (.iload_n 2, 1, []), (.i2l, 1, [])] (by decide +kernel) (pc' := 149) (ls' := [(2, Int.ofNat o0), (0, v1), (0, v2), (0, v3), (0, v4)]) (st' := [(1, v2), (1, v1), (1, v4)]) rfl ?_
  refine jbind H (fun b14 Hb14 H => ?_)
  refine jEv.calS (st' := [(0, b14)]) (show jfI 211 149 (.invokestatic 275) 3 [3, 213, 3, 8176] = true by decide +kernel) rfl (Or.inl rfl) rfl (Nat.le_of_ble_eq_true rfl) ((t_M_isIn (T := T) (xs := xs)  Hb14).mono (jKle 1 hd)) rfl ?_
  refine jEv.if_ne (t := 164) (show jfI 211 152 (.ifCond .ne 12) 3 [] = true by decide +kernel) rfl H (fun c15 H => ?_) (fun c15 H => ?_)
  · refine jEv.blk [(.aload_n 0, 1, []), (.iconst 2, 1, []), (.aload_n 0, 1, [])] (by decide +kernel) (pc' := 158) (ls' := [(2, Int.ofNat o0), (0, v1), (0, v2), (0, v3), (0, v4)]) (st' := [(2, Int.ofNat o0), (0, 2), (2, Int.ofNat o0)]) rfl ?_
    refine jEv.gfI (show jfI 211 158 (.getfield 272) 3 [12, 10, 0, 0, 7046] = true by decide +kernel) (isX12_L ho0) (by decide) ?_
    refine jbind H (fun b16 Hb16 H => ?_)
    refine jEv.calV (st' := []) (show jfI 211 161 (.invokevirtual 262) 3 [1, 210, 2, 8165] = true by decide +kernel) rfl (Or.inl rfl) rfl (Nat.le_of_ble_eq_true rfl) (by decide +kernel) (by decide) (isX12_L ho0) ((t_M_fail (T := T) (xs := xs) ho0 Hb16).mono (jKle 1 hd)) rfl ?_
    refine jEv.blk [(.iload 4, 2, [])] (by decide +kernel) (pc' := 166) (ls' := [(2, Int.ofNat o0), (0, v1), (0, v2), (0, v3), (0, v4)]) (st' := [(0, v4)]) rfl ?_
    exact jEv.retI (show jfI 211 166 (.ireturn) 1 [] = true by decide +kernel) (by decide +kernel) (by cases H; exact HY)
  · refine jEv.blk [(.iload 4, 2, [])] (by decide +kernel) (pc' := 166) (ls' := [(2, Int.ofNat o0), (0, v1), (0, v2), (0, v3), (0, v4)]) (st' := [(0, v4)]) rfl ?_
    exact jEv.retI (show jfI 211 166 (.ireturn) 1 [] = true by decide +kernel) (by decide +kernel) (by cases H; exact HY)
set_option maxRecDepth 20000 in
noncomputable def M_number_B49  (h : jH) (o0 : Nat) (v1 : Int) (v2 : Int) (v3 : Int) (v4 : Int) : Option ((Int × jH) ⊕ (Int × jH)) := (if (h o0 2) < (h o0 3) then (if (0 : Int) ≤ (h o0 2) ∧ ((h o0 2) : Int).toNat < 1600 then Option.bind (M_isDigit (h (o0 + 1) ((h o0 2) : Int).toNat)) (fun b9 => (if b9 = 0 then Option.map Sum.inr (M_number_p129 h o0 v1 v2 v3 v4) else (if (wr ((h o0 2) - v3)) = 4 then Option.map Sum.inr (Option.bind (M_fail h o0 1 (h o0 2)) (fun b12 => some (0, b12))) else (if (0 : Int) ≤ (h o0 2) ∧ ((h o0 2) : Int).toNat < 1600 then some (.inl ((wr ((wr ((wr (10 * v4)) + (h (o0 + 1) ((h o0 2) : Int).toNat))) - 48)), (jup h o0 2 (wr ((h o0 2) + 1))))) else none)))) else none) else Option.map Sum.inr (M_number_p129 h o0 v1 v2 v3 v4))
noncomputable def M_number_L49  (h : jH) (o0 : Nat) (v1 : Int) (v2 : Int) (v3 : Int) (v4 : Int) : Option (Int × jH) := jloop (fun s : (Int × jH) => M_number_B49 s.2 o0 v1 v2 v3 s.1) (v4, h)
set_option maxRecDepth 20000 in
theorem t_M_number_B49 {T : jT} {xs : List Int} {d : Nat} {y : jV × jS} (hd : 1 ≤ d) {h : jH}  {o0 : Nat} {v1 : Int} {v2 : Int} {v3 : Int} {v4 : Int} {out : ((Int × jH) ⊕ (Int × jH))} (ho0 : isX12 T o0) (H : M_number_B49 h o0 v1 v2 v3 v4 = some out) (HY : yk_M_number_L49 T xs d y o0 v1 v2 v3 out) : jEv xs d (211, 49, [(2, Int.ofNat o0), (0, v1), (0, v2), (0, v3), (0, v4)], []) (T, h) y := by
  unfold M_number_B49 at H
  refine jEv.blk [(.aload_n 0, 1, [])] (by decide +kernel) (pc' := 50) (ls' := [(2, Int.ofNat o0), (0, v1), (0, v2), (0, v3), (0, v4)]) (st' := [(2, Int.ofNat o0)]) rfl ?_
  refine jEv.gfI (show jfI 211 50 (.getfield 238) 3 [12, 2, 0, 0, 7038] = true by decide +kernel) (isX12_L ho0) (by decide) ?_
  refine jEv.blk [(.aload_n 0, 1, [])] (by decide +kernel) (pc' := 54) (ls' := [(2, Int.ofNat o0), (0, v1), (0, v2), (0, v3), (0, v4)]) (st' := [(2, Int.ofNat o0), (0, (h o0 2))]) rfl ?_
  refine jEv.gfI (show jfI 211 54 (.getfield 241) 3 [12, 3, 0, 0, 7039] = true by decide +kernel) (isX12_L ho0) (by decide) ?_
  refine jEv.ic_ge (t := 129) (show jfI 211 57 (.if_icmp .ge 72) 3 [] = true by decide +kernel) rfl H (fun c7 H => ?_) (fun c7 H => ?_)
  · refine jEv.blk [(.aload_n 0, 1, [])] (by decide +kernel) (pc' := 61) (ls' := [(2, Int.ofNat o0), (0, v1), (0, v2), (0, v3), (0, v4)]) (st' := [(2, Int.ofNat o0)]) rfl ?_
    refine jEv.gfR (o' := (o0 + 1)) (show jfI 211 61 (.getfield 7) 3 [12, 0, 5, 0, 7036] = true by decide +kernel) (isX12_L ho0) (by decide) (isX12_r0 ho0) ?_
    refine jEv.blk [(.aload_n 0, 1, [])] (by decide +kernel) (pc' := 65) (ls' := [(2, Int.ofNat o0), (0, v1), (0, v2), (0, v3), (0, v4)]) (st' := [(2, Int.ofNat o0), (2, Int.ofNat (o0 + 1))]) rfl ?_
    refine jEv.gfI (show jfI 211 65 (.getfield 238) 3 [12, 2, 0, 0, 7038] = true by decide +kernel) (isX12_L ho0) (by decide) ?_
    refine jEv.ald (Or.inl ⟨rfl, rfl, rfl⟩) (show jfI 211 68 (.iaload) 1 [] = true by decide +kernel) (isX12_a0 ho0) H (fun c8 H => ?_)
    refine jbind H (fun b9 Hb9 H => ?_)
    refine jEv.calS (st' := [(0, b9)]) (show jfI 211 69 (.invokestatic 269) 3 [3, 212, 1, 8173] = true by decide +kernel) rfl (Or.inl rfl) rfl (Nat.le_of_ble_eq_true rfl) ((t_M_isDigit (T := T) (xs := xs)  Hb9).mono (jKle 1 hd)) rfl ?_
    refine jEv.if_eq (t := 129) (show jfI 211 72 (.ifCond .eq 57) 3 [] = true by decide +kernel) rfl H (fun c10 H => ?_) (fun c10 H => ?_)
    · refine jmapr H HY (fun out H (HY : ykI T y out) => ?_)
      exact t_M_number_p129 (T := T) (xs := xs) (y := y) hd ho0 H HY
    · refine jEv.blk [(.aload_n 0, 1, [])] (by decide +kernel) (pc' := 76) (ls' := [(2, Int.ofNat o0), (0, v1), (0, v2), (0, v3), (0, v4)]) (st' := [(2, Int.ofNat o0)]) rfl ?_
      refine jEv.gfI (show jfI 211 76 (.getfield 238) 3 [12, 2, 0, 0, 7038] = true by decide +kernel) (isX12_L ho0) (by decide) ?_
      refine jEv.blk [(.iload_n 3, 1, []), (.isub, 1, []), (.iconst 4, 1, [])] (by decide +kernel) (pc' := 82) (ls' := [(2, Int.ofNat o0), (0, v1), (0, v2), (0, v3), (0, v4)]) (st' := [(0, 4), (0, (wr ((h o0 2) - v3)))]) rfl ?_
      refine jEv.ic_ne (t := 96) (show jfI 211 82 (.if_icmp .ne 14) 3 [] = true by decide +kernel) rfl H (fun c11 H => ?_) (fun c11 H => ?_)
      · refine jmapr H HY (fun out H (HY : ykI T y out) => ?_)
        refine jEv.blk [(.aload_n 0, 1, []), (.iconst 1, 1, []), (.aload_n 0, 1, [])] (by decide +kernel) (pc' := 88) (ls' := [(2, Int.ofNat o0), (0, v1), (0, v2), (0, v3), (0, v4)]) (st' := [(2, Int.ofNat o0), (0, 1), (2, Int.ofNat o0)]) rfl ?_
        refine jEv.gfI (show jfI 211 88 (.getfield 238) 3 [12, 2, 0, 0, 7038] = true by decide +kernel) (isX12_L ho0) (by decide) ?_
        refine jbind H (fun b12 Hb12 H => ?_)
        refine jEv.calV (st' := []) (show jfI 211 91 (.invokevirtual 262) 3 [1, 210, 2, 8165] = true by decide +kernel) rfl (Or.inl rfl) rfl (Nat.le_of_ble_eq_true rfl) (by decide +kernel) (by decide) (isX12_L ho0) ((t_M_fail (T := T) (xs := xs) ho0 Hb12).mono (jKle 1 hd)) rfl ?_
        refine jEv.blk [(.iconst 0, 1, [])] (by decide +kernel) (pc' := 95) (ls' := [(2, Int.ofNat o0), (0, v1), (0, v2), (0, v3), (0, v4)]) (st' := [(0, 0)]) rfl ?_
        exact jEv.retI (show jfI 211 95 (.ireturn) 1 [] = true by decide +kernel) (by decide +kernel) (by cases H; exact HY)
      · refine jEv.blk [(.bipush 10, 2, []), (.iload 4, 2, []), (.imul, 1, []), (.aload_n 0, 1, [])] (by decide +kernel) (pc' := 102) (ls' := [(2, Int.ofNat o0), (0, v1), (0, v2), (0, v3), (0, v4)]) (st' := [(2, Int.ofNat o0), (0, (wr (10 * v4)))]) rfl ?_
        refine jEv.gfR (o' := (o0 + 1)) (show jfI 211 102 (.getfield 7) 3 [12, 0, 5, 0, 7036] = true by decide +kernel) (isX12_L ho0) (by decide) (isX12_r0 ho0) ?_
        refine jEv.blk [(.aload_n 0, 1, [])] (by decide +kernel) (pc' := 106) (ls' := [(2, Int.ofNat o0), (0, v1), (0, v2), (0, v3), (0, v4)]) (st' := [(2, Int.ofNat o0), (2, Int.ofNat (o0 + 1)), (0, (wr (10 * v4)))]) rfl ?_
        refine jEv.gfI (show jfI 211 106 (.getfield 238) 3 [12, 2, 0, 0, 7038] = true by decide +kernel) (isX12_L ho0) (by decide) ?_
        refine jEv.ald (Or.inl ⟨rfl, rfl, rfl⟩) (show jfI 211 109 (.iaload) 1 [] = true by decide +kernel) (isX12_a0 ho0) H (fun c13 H => ?_)
        refine jEv.blk [(.iadd, 1, []), (.bipush 48, 2, []), (.isub, 1, []), (.istore 4, 2, []), (.aload_n 0, 1, []), (.dup, 1, [])] (by decide +kernel) (pc' := 118) (ls' := [(2, Int.ofNat o0), (0, v1), (0, v2), (0, v3), (0, (wr ((wr ((wr (10 * v4)) + (h (o0 + 1) ((h o0 2) : Int).toNat))) - 48)))]) (st' := [(2, Int.ofNat o0), (2, Int.ofNat o0)]) rfl ?_
        refine jEv.gfI (show jfI 211 118 (.getfield 238) 3 [12, 2, 0, 0, 7038] = true by decide +kernel) (isX12_L ho0) (by decide) ?_
        refine jEv.blk [(.iconst 1, 1, []), (.iadd, 1, [])] (by decide +kernel) (pc' := 123) (ls' := [(2, Int.ofNat o0), (0, v1), (0, v2), (0, v3), (0, (wr ((wr ((wr (10 * v4)) + (h (o0 + 1) ((h o0 2) : Int).toNat))) - 48)))]) (st' := [(0, (wr ((h o0 2) + 1))), (2, Int.ofNat o0)]) rfl ?_
        refine jEv.pfI (show jfI 211 123 (.putfield 238) 3 [12, 2, 0, 0, 7038] = true by decide +kernel) (isX12_L ho0) (by decide) ?_
        refine jEv.goto (t := 49) (show jfI 211 126 (.goto (-77)) 3 [] = true by decide +kernel) rfl ?_
        exact (by cases H; exact HY)
  · refine jmapr H HY (fun out H (HY : ykI T y out) => ?_)
    exact t_M_number_p129 (T := T) (xs := xs) (y := y) hd ho0 H HY
theorem t_M_number_L49 {T : jT} {xs : List Int} {d : Nat} {y : jV × jS} (hd : 1 ≤ d) {h : jH}  {o0 : Nat} {v1 : Int} {v2 : Int} {v3 : Int} {v4 : Int} {out : (Int × jH)} (ho0 : isX12 T o0) (H : M_number_L49 h o0 v1 v2 v3 v4 = some out) (HY : ykI T y out) : jEv xs d (211, 49, [(2, Int.ofNat o0), (0, v1), (0, v2), (0, v3), (0, v4)], []) (T, h) y :=
  jloop_sound (G := fun s : (Int × jH) => jEv xs d (211, 49, [(2, Int.ofNat o0), (0, v1), (0, v2), (0, v3), (0, s.1)], []) (T, s.2) y) (K := yk_M_number_L49 T xs d y o0 v1 v2 v3) (fun s out H HY => t_M_number_B49 hd ho0 H HY) (fun s' hg => hg) (s := (v4, h)) H HY
set_option maxRecDepth 20000 in
noncomputable def M_number  (h : jH) (o0 : Nat) (v1 : Int) (v2 : Int) : Option (Int × jH) := (if (h o0 5) = 0 then Option.bind (M_look h o0) (fun b2 => Option.bind (M_isDigit b2.1) (fun b3 => (if b3 = 0 then M_number_p30 b2.2 o0 else (if (b2.2 o0 2) = (b2.2 o0 4) then M_number_p30 b2.2 o0 else M_number_L49 b2.2 o0 v1 v2 (b2.2 o0 2) 0)))) else some (0, h))
set_option maxRecDepth 20000 in
theorem t_M_number {T : jT} {xs : List Int} {h : jH}  {o0 : Nat} {v1 : Int} {v2 : Int} {out : (Int × jH)} (ho0 : isX12 T o0) (H : M_number h o0 v1 v2 = some out) : jEm xs 2 211 [(2, Int.ofNat o0), (0, v1), (0, v2)] (T, h) ((0, out.1), (T, out.2)) := by
  have hd : 1 ≤ 1 := Nat.le_refl _
  obtain ⟨y, ey⟩ : ∃ y : jV × jS, y = ((0, out.1), (T, out.2)) := ⟨_, rfl⟩
  rw [← ey]
  have HY : ykI T y out := ey
  refine jEm.ent (n := 5) (by decide +kernel) (Nat.le_of_ble_eq_true rfl) ?_
  show jEv xs 1 (211, 0, [(2, Int.ofNat o0), (0, v1), (0, v2), (3, 0), (3, 0)], []) (T, h) y
  unfold M_number at H
  refine jEv.blk [(.aload_n 0, 1, [])] (by decide +kernel) (pc' := 1) (ls' := [(2, Int.ofNat o0), (0, v1), (0, v2), (3, 0), (3, 0)]) (st' := [(2, Int.ofNat o0)]) rfl ?_
  refine jEv.gfI (show jfI 211 1 (.getfield 232) 3 [12, 5, 0, 0, 7041] = true by decide +kernel) (isX12_L ho0) (by decide) ?_
  refine jEv.if_eq (t := 9) (show jfI 211 4 (.ifCond .eq 5) 3 [] = true by decide +kernel) rfl H (fun c1 H => ?_) (fun c1 H => ?_)
  · refine jEv.blk [(.aload_n 0, 1, [])] (by decide +kernel) (pc' := 10) (ls' := [(2, Int.ofNat o0), (0, v1), (0, v2), (3, 0), (3, 0)]) (st' := [(2, Int.ofNat o0)]) rfl ?_
    refine jbind H (fun b2 Hb2 H => ?_)
    refine jEv.calV (st' := [(0, b2.1)]) (show jfI 211 10 (.invokevirtual 244) 3 [1, 208, 0, 8158] = true by decide +kernel) rfl (Or.inl rfl) rfl (Nat.le_of_ble_eq_true rfl) (by decide +kernel) (by decide) (isX12_L ho0) ((t_M_look (T := T) (xs := xs) ho0 Hb2).mono (jKle 1 hd)) rfl ?_
    refine jbind H (fun b3 Hb3 H => ?_)
    refine jEv.calS (st' := [(0, b3)]) (show jfI 211 13 (.invokestatic 269) 3 [3, 212, 1, 8173] = true by decide +kernel) rfl (Or.inl rfl) rfl (Nat.le_of_ble_eq_true rfl) ((t_M_isDigit (T := T) (xs := xs)  Hb3).mono (jKle 1 hd)) rfl ?_
    refine jEv.if_eq (t := 30) (show jfI 211 16 (.ifCond .eq 14) 3 [] = true by decide +kernel) rfl H (fun c4 H => ?_) (fun c4 H => ?_)
    · exact jEv.weak (a := [(2, Int.ofNat o0), (3, 0), (3, 0), (3, 0), (3, 0)]) (jles.c1 (jles.c0 (jles.c0 (jles.c0 (jles.c0 jles.nl))))) (t_M_number_p30 (T := T) (xs := xs) (y := y) hd ho0 H HY)
    · refine jEv.blk [(.aload_n 0, 1, [])] (by decide +kernel) (pc' := 20) (ls' := [(2, Int.ofNat o0), (0, v1), (0, v2), (3, 0), (3, 0)]) (st' := [(2, Int.ofNat o0)]) rfl ?_
      refine jEv.gfI (show jfI 211 20 (.getfield 238) 3 [12, 2, 0, 0, 7038] = true by decide +kernel) (isX12_L ho0) (by decide) ?_
      refine jEv.blk [(.aload_n 0, 1, [])] (by decide +kernel) (pc' := 24) (ls' := [(2, Int.ofNat o0), (0, v1), (0, v2), (3, 0), (3, 0)]) (st' := [(2, Int.ofNat o0), (0, (b2.2 o0 2))]) rfl ?_
      refine jEv.gfI (show jfI 211 24 (.getfield 252) 3 [12, 4, 0, 0, 7040] = true by decide +kernel) (isX12_L ho0) (by decide) ?_
      refine jEv.ic_ne (t := 41) (show jfI 211 27 (.if_icmp .ne 14) 3 [] = true by decide +kernel) rfl H (fun c5 H => ?_) (fun c5 H => ?_)
      · exact jEv.weak (a := [(2, Int.ofNat o0), (3, 0), (3, 0), (3, 0), (3, 0)]) (jles.c1 (jles.c0 (jles.c0 (jles.c0 (jles.c0 jles.nl))))) (t_M_number_p30 (T := T) (xs := xs) (y := y) hd ho0 H HY)
      · refine jEv.blk [(.aload_n 0, 1, [])] (by decide +kernel) (pc' := 42) (ls' := [(2, Int.ofNat o0), (0, v1), (0, v2), (3, 0), (3, 0)]) (st' := [(2, Int.ofNat o0)]) rfl ?_
        refine jEv.gfI (show jfI 211 42 (.getfield 238) 3 [12, 2, 0, 0, 7038] = true by decide +kernel) (isX12_L ho0) (by decide) ?_
        refine jEv.blk [(.istore_n 3, 1, []), (.iconst 0, 1, []), (.istore 4, 2, [])] (by decide +kernel) (pc' := 49) (ls' := [(2, Int.ofNat o0), (0, v1), (0, v2), (0, (b2.2 o0 2)), (0, 0)]) (st' := []) rfl ?_
        exact t_M_number_L49 (T := T) (xs := xs) (y := y) hd ho0 H HY
  · refine jEv.blk [(.iconst 0, 1, [])] (by decide +kernel) (pc' := 8) (ls' := [(2, Int.ofNat o0), (0, v1), (0, v2), (3, 0), (3, 0)]) (st' := [(0, 0)]) rfl ?_
    exact jEv.retI (show jfI 211 8 (.ireturn) 1 [] = true by decide +kernel) (by decide +kernel) (by cases H; exact HY)
set_option maxRecDepth 20000 in
noncomputable def M_takesSign  (h : jH) (o0 : Nat) (v1 : Int) : Option (Int × jH) := (if (h o0 5) = 0 then Option.bind (M_look h o0) (fun b2 => (if b2.1 = v1 then some (1, (jup b2.2 o0 2 (wr ((b2.2 o0 2) + 1)))) else some (0, b2.2))) else some (0, h))
set_option maxRecDepth 20000 in
theorem t_M_takesSign {T : jT} {xs : List Int} {h : jH}  {o0 : Nat} {v1 : Int} {out : (Int × jH)} (ho0 : isX12 T o0) (H : M_takesSign h o0 v1 = some out) : jEm xs 2 215 [(2, Int.ofNat o0), (0, v1)] (T, h) ((0, out.1), (T, out.2)) := by
  have hd : 1 ≤ 1 := Nat.le_refl _
  obtain ⟨y, ey⟩ : ∃ y : jV × jS, y = ((0, out.1), (T, out.2)) := ⟨_, rfl⟩
  rw [← ey]
  have HY : ykI T y out := ey
  refine jEm.ent (n := 2) (by decide +kernel) (Nat.le_of_ble_eq_true rfl) ?_
  show jEv xs 1 (215, 0, [(2, Int.ofNat o0), (0, v1)], []) (T, h) y
  unfold M_takesSign at H
  refine jEv.blk [(.aload_n 0, 1, [])] (by decide +kernel) (pc' := 1) (ls' := [(2, Int.ofNat o0), (0, v1)]) (st' := [(2, Int.ofNat o0)]) rfl ?_
  refine jEv.gfI (show jfI 215 1 (.getfield 232) 3 [12, 5, 0, 0, 7041] = true by decide +kernel) (isX12_L ho0) (by decide) ?_
  refine jEv.if_ne (t := 15) (show jfI 215 4 (.ifCond .ne 11) 3 [] = true by decide +kernel) rfl H (fun c1 H => ?_) (fun c1 H => ?_)
  · refine jEv.blk [(.aload_n 0, 1, [])] (by decide +kernel) (pc' := 8) (ls' := [(2, Int.ofNat o0), (0, v1)]) (st' := [(2, Int.ofNat o0)]) rfl ?_
    refine jbind H (fun b2 Hb2 H => ?_)
    refine jEv.calV (st' := [(0, b2.1)]) (show jfI 215 8 (.invokevirtual 244) 3 [1, 208, 0, 8158] = true by decide +kernel) rfl (Or.inl rfl) rfl (Nat.le_of_ble_eq_true rfl) (by decide +kernel) (by decide) (isX12_L ho0) ((t_M_look (T := T) (xs := xs) ho0 Hb2).mono (jKle 1 hd)) rfl ?_
    refine jEv.blk [(.iload_n 1, 1, [])] (by decide +kernel) (pc' := 12) (ls' := [(2, Int.ofNat o0), (0, v1)]) (st' := [(0, v1), (0, b2.1)]) rfl ?_
    refine jEv.ic_eq (t := 17) (show jfI 215 12 (.if_icmp .eq 5) 3 [] = true by decide +kernel) rfl H (fun c3 H => ?_) (fun c3 H => ?_)
    · refine jEv.blk [(.aload_n 0, 1, []), (.dup, 1, [])] (by decide +kernel) (pc' := 19) (ls' := [(2, Int.ofNat o0), (0, v1)]) (st' := [(2, Int.ofNat o0), (2, Int.ofNat o0)]) rfl ?_
      refine jEv.gfI (show jfI 215 19 (.getfield 238) 3 [12, 2, 0, 0, 7038] = true by decide +kernel) (isX12_L ho0) (by decide) ?_
      refine jEv.blk [(.iconst 1, 1, []), (.iadd, 1, [])] (by decide +kernel) (pc' := 24) (ls' := [(2, Int.ofNat o0), (0, v1)]) (st' := [(0, (wr ((b2.2 o0 2) + 1))), (2, Int.ofNat o0)]) rfl ?_
      refine jEv.pfI (show jfI 215 24 (.putfield 238) 3 [12, 2, 0, 0, 7038] = true by decide +kernel) (isX12_L ho0) (by decide) ?_
      refine jEv.blk [(.iconst 1, 1, [])] (by decide +kernel) (pc' := 28) (ls' := [(2, Int.ofNat o0), (0, v1)]) (st' := [(0, 1)]) rfl ?_
      exact jEv.retZ (show jfI 215 28 (.ireturn) 1 [] = true by decide +kernel) (by decide +kernel) (by decide) (by cases H; exact HY)
    · refine jEv.blk [(.iconst 0, 1, [])] (by decide +kernel) (pc' := 16) (ls' := [(2, Int.ofNat o0), (0, v1)]) (st' := [(0, 0)]) rfl ?_
      exact jEv.retZ (show jfI 215 16 (.ireturn) 1 [] = true by decide +kernel) (by decide +kernel) (by decide) (by cases H; exact HY)
  · refine jEv.blk [(.iconst 0, 1, [])] (by decide +kernel) (pc' := 16) (ls' := [(2, Int.ofNat o0), (0, v1)]) (st' := [(0, 0)]) rfl ?_
    exact jEv.retZ (show jfI 215 16 (.ireturn) 1 [] = true by decide +kernel) (by decide +kernel) (by decide) (by cases H; exact HY)
set_option maxRecDepth 20000 in
noncomputable def M_asksSign  (h : jH) (o0 : Nat) (v1 : Int) : Option jH := (if (h o0 5) = 0 then Option.bind (M_takesSign h o0 v1) (fun b2 => (if b2.1 = 0 then Option.bind (M_fail b2.2 o0 1 (b2.2 o0 2)) (fun b4 => some b4) else some b2.2)) else some h)
set_option maxRecDepth 20000 in
theorem t_M_asksSign {T : jT} {xs : List Int} {h : jH}  {o0 : Nat} {v1 : Int} {out : jH} (ho0 : isX12 T o0) (H : M_asksSign h o0 v1 = some out) : jEm xs 3 214 [(2, Int.ofNat o0), (0, v1)] (T, h) ((3, 0), (T, out)) := by
  have hd : 2 ≤ 2 := Nat.le_refl _
  obtain ⟨y, ey⟩ : ∃ y : jV × jS, y = ((3, 0), (T, out)) := ⟨_, rfl⟩
  rw [← ey]
  have HY : ykV T y out := ey
  refine jEm.ent (n := 2) (by decide +kernel) (Nat.le_of_ble_eq_true rfl) ?_
  show jEv xs 2 (214, 0, [(2, Int.ofNat o0), (0, v1)], []) (T, h) y
  unfold M_asksSign at H
  refine jEv.blk [(.aload_n 0, 1, [])] (by decide +kernel) (pc' := 1) (ls' := [(2, Int.ofNat o0), (0, v1)]) (st' := [(2, Int.ofNat o0)]) rfl ?_
  refine jEv.gfI (show jfI 214 1 (.getfield 232) 3 [12, 5, 0, 0, 7041] = true by decide +kernel) (isX12_L ho0) (by decide) ?_
  refine jEv.if_ne (t := 24) (show jfI 214 4 (.ifCond .ne 20) 3 [] = true by decide +kernel) rfl H (fun c1 H => ?_) (fun c1 H => ?_)
  · refine jEv.blk [(.aload_n 0, 1, []), (.iload_n 1, 1, [])] (by decide +kernel) (pc' := 9) (ls' := [(2, Int.ofNat o0), (0, v1)]) (st' := [(0, v1), (2, Int.ofNat o0)]) rfl ?_
    refine jbind H (fun b2 Hb2 H => ?_)
    refine jEv.calV (st' := [(0, b2.1)]) (show jfI 214 9 (.invokevirtual 266) 3 [1, 215, 1, 8183] = true by decide +kernel) rfl (Or.inl rfl) rfl (Nat.le_of_ble_eq_true rfl) (by decide +kernel) (by decide) (isX12_L ho0) ((t_M_takesSign (T := T) (xs := xs) ho0 Hb2).mono (jKle 2 hd)) rfl ?_
    refine jEv.if_ne (t := 24) (show jfI 214 12 (.ifCond .ne 12) 3 [] = true by decide +kernel) rfl H (fun c3 H => ?_) (fun c3 H => ?_)
    · refine jEv.blk [(.aload_n 0, 1, []), (.iconst 1, 1, []), (.aload_n 0, 1, [])] (by decide +kernel) (pc' := 18) (ls' := [(2, Int.ofNat o0), (0, v1)]) (st' := [(2, Int.ofNat o0), (0, 1), (2, Int.ofNat o0)]) rfl ?_
      refine jEv.gfI (show jfI 214 18 (.getfield 238) 3 [12, 2, 0, 0, 7038] = true by decide +kernel) (isX12_L ho0) (by decide) ?_
      refine jbind H (fun b4 Hb4 H => ?_)
      refine jEv.calV (st' := []) (show jfI 214 21 (.invokevirtual 262) 3 [1, 210, 2, 8165] = true by decide +kernel) rfl (Or.inl rfl) rfl (Nat.le_of_ble_eq_true rfl) (by decide +kernel) (by decide) (isX12_L ho0) ((t_M_fail (T := T) (xs := xs) ho0 Hb4).mono (jKle 1 hd)) rfl ?_
      exact jEv.retV (show jfI 214 24 (.return_) 1 [] = true by decide +kernel) (by decide +kernel) (by cases H; exact HY)
    · exact jEv.retV (show jfI 214 24 (.return_) 1 [] = true by decide +kernel) (by decide +kernel) (by cases H; exact HY)
  · exact jEv.retV (show jfI 214 24 (.return_) 1 [] = true by decide +kernel) (by decide +kernel) (by cases H; exact HY)
set_option maxRecDepth 20000 in
noncomputable def M_journalTold  (h : jH) (o0 : Nat) : Option jH := Option.bind (M_asks h o0 (o0 + 3) 7) (fun b1 => Option.bind (M_number b1 o0 2 4) (fun b2 => (if (0 : Int) ≤ 0 ∧ (0 : Int).toNat < 10 then Option.bind (M_asks (jup b2.2 (o0 + 28) (0 : Int).toNat b2.1) o0 (o0 + 4) 6) (fun b4 => Option.bind (M_number b4 o0 2 4) (fun b5 => (if (0 : Int) ≤ 1 ∧ (1 : Int).toNat < 10 then Option.bind (M_asks (jup b5.2 (o0 + 28) (1 : Int).toNat b5.1) o0 (o0 + 5) 5) (fun b7 => Option.bind (M_number b7 o0 16 32) (fun b8 => (if (0 : Int) ≤ 2 ∧ (2 : Int).toNat < 10 then Option.bind (M_asksSign (jup b8.2 (o0 + 28) (2 : Int).toNat b8.1) o0 59) (fun b10 => some b10) else none))) else none))) else none)))
set_option maxRecDepth 20000 in
theorem t_M_journalTold {T : jT} {xs : List Int} {h : jH}  {o0 : Nat} {out : jH} (ho0 : isX12 T o0) (H : M_journalTold h o0 = some out) : jEm xs 5 204 [(2, Int.ofNat o0)] (T, h) ((3, 0), (T, out)) := by
  have hd : 4 ≤ 4 := Nat.le_refl _
  obtain ⟨y, ey⟩ : ∃ y : jV × jS, y = ((3, 0), (T, out)) := ⟨_, rfl⟩
  rw [← ey]
  have HY : ykV T y out := ey
  refine jEm.ent (n := 1) (by decide +kernel) (Nat.le_of_ble_eq_true rfl) ?_
  show jEv xs 4 (204, 0, [(2, Int.ofNat o0)], []) (T, h) y
  unfold M_journalTold at H
  refine jEv.blk [(.aload_n 0, 1, []), (.aload_n 0, 1, [])] (by decide +kernel) (pc' := 2) (ls' := [(2, Int.ofNat o0)]) (st' := [(2, Int.ofNat o0), (2, Int.ofNat o0)]) rfl ?_
  refine jEv.gfR (o' := (o0 + 3)) (show jfI 204 2 (.getfield 20) 3 [12, 11, 5, 0, 7047] = true by decide +kernel) (isX12_L ho0) (by decide) (isX12_r11 ho0) ?_
  refine jbind H (fun b1 Hb1 H => ?_)
  refine jEv.calV (st' := []) (show jfI 204 5 (.invokevirtual 282) 3 [1, 205, 1, 8146] = true by decide +kernel) rfl (Or.inl rfl) rfl (Nat.le_of_ble_eq_true rfl) (by decide +kernel) (by decide) (isX12_L ho0) ((t_M_asks (T := T) (xs := xs) ho0 (isX12_a11 ho0) Hb1).mono (jKle 4 hd)) rfl ?_
  refine jEv.blk [(.aload_n 0, 1, [])] (by decide +kernel) (pc' := 9) (ls' := [(2, Int.ofNat o0)]) (st' := [(2, Int.ofNat o0)]) rfl ?_
  refine jEv.gfR (o' := (o0 + 28)) (show jfI 204 9 (.getfield 96) 3 [12, 36, 5, 0, 7072] = true by decide +kernel) (isX12_L ho0) (by decide) (isX12_r36 ho0) ?_
  refine jEv.blk [(.iconst 0, 1, []), (.aload_n 0, 1, []), (.iconst 2, 1, []), (.iconst 4, 1, [])] (by decide +kernel) (pc' := 16) (ls' := [(2, Int.ofNat o0)]) (st' := [(0, 4), (0, 2), (2, Int.ofNat o0), (0, 0), (2, Int.ofNat (o0 + 28))]) rfl ?_
  refine jbind H (fun b2 Hb2 H => ?_)
  refine jEv.calV (st' := [(0, b2.1), (0, 0), (2, Int.ofNat (o0 + 28))]) (show jfI 204 16 (.invokevirtual 286) 3 [1, 211, 2, 8169] = true by decide +kernel) rfl (Or.inl rfl) rfl (Nat.le_of_ble_eq_true rfl) (by decide +kernel) (by decide) (isX12_L ho0) ((t_M_number (T := T) (xs := xs) ho0 Hb2).mono (jKle 2 hd)) rfl ?_
  refine jEv.ast (Or.inl ⟨rfl, rfl, rfl⟩) (show jfI 204 19 (.iastore) 1 [] = true by decide +kernel) (isX12_a36 ho0) rfl H (fun c3 H => ?_)
  refine jEv.blk [(.aload_n 0, 1, []), (.aload_n 0, 1, [])] (by decide +kernel) (pc' := 22) (ls' := [(2, Int.ofNat o0)]) (st' := [(2, Int.ofNat o0), (2, Int.ofNat o0)]) rfl ?_
  refine jEv.gfR (o' := (o0 + 4)) (show jfI 204 22 (.getfield 24) 3 [12, 12, 5, 0, 7048] = true by decide +kernel) (isX12_L ho0) (by decide) (isX12_r12 ho0) ?_
  refine jbind H (fun b4 Hb4 H => ?_)
  refine jEv.calV (st' := []) (show jfI 204 25 (.invokevirtual 282) 3 [1, 205, 1, 8146] = true by decide +kernel) rfl (Or.inl rfl) rfl (Nat.le_of_ble_eq_true rfl) (by decide +kernel) (by decide) (isX12_L ho0) ((t_M_asks (T := T) (xs := xs) ho0 (isX12_a12 ho0) Hb4).mono (jKle 4 hd)) rfl ?_
  refine jEv.blk [(.aload_n 0, 1, [])] (by decide +kernel) (pc' := 29) (ls' := [(2, Int.ofNat o0)]) (st' := [(2, Int.ofNat o0)]) rfl ?_
  refine jEv.gfR (o' := (o0 + 28)) (show jfI 204 29 (.getfield 96) 3 [12, 36, 5, 0, 7072] = true by decide +kernel) (isX12_L ho0) (by decide) (isX12_r36 ho0) ?_
  refine jEv.blk [(.iconst 1, 1, []), (.aload_n 0, 1, []), (.iconst 2, 1, []), (.iconst 4, 1, [])] (by decide +kernel) (pc' := 36) (ls' := [(2, Int.ofNat o0)]) (st' := [(0, 4), (0, 2), (2, Int.ofNat o0), (0, 1), (2, Int.ofNat (o0 + 28))]) rfl ?_
  refine jbind H (fun b5 Hb5 H => ?_)
  refine jEv.calV (st' := [(0, b5.1), (0, 1), (2, Int.ofNat (o0 + 28))]) (show jfI 204 36 (.invokevirtual 286) 3 [1, 211, 2, 8169] = true by decide +kernel) rfl (Or.inl rfl) rfl (Nat.le_of_ble_eq_true rfl) (by decide +kernel) (by decide) (isX12_L ho0) ((t_M_number (T := T) (xs := xs) ho0 Hb5).mono (jKle 2 hd)) rfl ?_
  refine jEv.ast (Or.inl ⟨rfl, rfl, rfl⟩) (show jfI 204 39 (.iastore) 1 [] = true by decide +kernel) (isX12_a36 ho0) rfl H (fun c6 H => ?_)
  refine jEv.blk [(.aload_n 0, 1, []), (.aload_n 0, 1, [])] (by decide +kernel) (pc' := 42) (ls' := [(2, Int.ofNat o0)]) (st' := [(2, Int.ofNat o0), (2, Int.ofNat o0)]) rfl ?_
  refine jEv.gfR (o' := (o0 + 5)) (show jfI 204 42 (.getfield 27) 3 [12, 13, 5, 0, 7049] = true by decide +kernel) (isX12_L ho0) (by decide) (isX12_r13 ho0) ?_
  refine jbind H (fun b7 Hb7 H => ?_)
  refine jEv.calV (st' := []) (show jfI 204 45 (.invokevirtual 282) 3 [1, 205, 1, 8146] = true by decide +kernel) rfl (Or.inl rfl) rfl (Nat.le_of_ble_eq_true rfl) (by decide +kernel) (by decide) (isX12_L ho0) ((t_M_asks (T := T) (xs := xs) ho0 (isX12_a13 ho0) Hb7).mono (jKle 4 hd)) rfl ?_
  refine jEv.blk [(.aload_n 0, 1, [])] (by decide +kernel) (pc' := 49) (ls' := [(2, Int.ofNat o0)]) (st' := [(2, Int.ofNat o0)]) rfl ?_
  refine jEv.gfR (o' := (o0 + 28)) (show jfI 204 49 (.getfield 96) 3 [12, 36, 5, 0, 7072] = true by decide +kernel) (isX12_L ho0) (by decide) (isX12_r36 ho0) ?_
  refine jEv.blk [(.iconst 2, 1, []), (.aload_n 0, 1, []), (.bipush 16, 2, []), (.bipush 32, 2, [])] (by decide +kernel) (pc' := 58) (ls' := [(2, Int.ofNat o0)]) (st' := [(0, 32), (0, 16), (2, Int.ofNat o0), (0, 2), (2, Int.ofNat (o0 + 28))]) rfl ?_
  refine jbind H (fun b8 Hb8 H => ?_)
  refine jEv.calV (st' := [(0, b8.1), (0, 2), (2, Int.ofNat (o0 + 28))]) (show jfI 204 58 (.invokevirtual 286) 3 [1, 211, 2, 8169] = true by decide +kernel) rfl (Or.inl rfl) rfl (Nat.le_of_ble_eq_true rfl) (by decide +kernel) (by decide) (isX12_L ho0) ((t_M_number (T := T) (xs := xs) ho0 Hb8).mono (jKle 2 hd)) rfl ?_
  refine jEv.ast (Or.inl ⟨rfl, rfl, rfl⟩) (show jfI 204 61 (.iastore) 1 [] = true by decide +kernel) (isX12_a36 ho0) rfl H (fun c9 H => ?_)
  refine jEv.blk [(.aload_n 0, 1, []), (.bipush 59, 2, [])] (by decide +kernel) (pc' := 65) (ls' := [(2, Int.ofNat o0)]) (st' := [(0, 59), (2, Int.ofNat o0)]) rfl ?_
  refine jbind H (fun b10 Hb10 H => ?_)
  refine jEv.calV (st' := []) (show jfI 204 65 (.invokevirtual 290) 3 [1, 214, 1, 8179] = true by decide +kernel) rfl (Or.inl rfl) rfl (Nat.le_of_ble_eq_true rfl) (by decide +kernel) (by decide) (isX12_L ho0) ((t_M_asksSign (T := T) (xs := xs) ho0 Hb10).mono (jKle 3 hd)) rfl ?_
  exact jEv.retV (show jfI 204 68 (.return_) 1 [] = true by decide +kernel) (by decide +kernel) (by cases H; exact HY)
set_option maxRecDepth 20000 in
noncomputable def M_putTold  (h : jH) (o0 : Nat) : Option jH := Option.bind (M_number h o0 0 15) (fun b1 => Option.bind (M_number b1.2 o0 0 999) (fun b2 => Option.bind (M_asks b2.2 o0 (o0 + 7) 4) (fun b3 => Option.bind (M_number b3 o0 0 40) (fun b4 => (if (b4.2 o0 5) = 0 then (if (0 : Int) ≤ 3 ∧ (3 : Int).toNat < 10 then (if (0 : Int) ≤ (wr (3 * (b4.2 (o0 + 28) (3 : Int).toNat))) ∧ ((wr (3 * (b4.2 (o0 + 28) (3 : Int).toNat))) : Int).toNat < 120 then (if (0 : Int) ≤ 3 ∧ (3 : Int).toNat < 10 then (if (0 : Int) ≤ (wr ((wr (3 * ((jup b4.2 (o0 + 29) ((wr (3 * (b4.2 (o0 + 28) (3 : Int).toNat))) : Int).toNat b1.1) (o0 + 28) (3 : Int).toNat))) + 1)) ∧ ((wr ((wr (3 * ((jup b4.2 (o0 + 29) ((wr (3 * (b4.2 (o0 + 28) (3 : Int).toNat))) : Int).toNat b1.1) (o0 + 28) (3 : Int).toNat))) + 1)) : Int).toNat < 120 then (if (0 : Int) ≤ 3 ∧ (3 : Int).toNat < 10 then (if (0 : Int) ≤ (wr ((wr (3 * ((jup (jup b4.2 (o0 + 29) ((wr (3 * (b4.2 (o0 + 28) (3 : Int).toNat))) : Int).toNat b1.1) (o0 + 29) ((wr ((wr (3 * ((jup b4.2 (o0 + 29) ((wr (3 * (b4.2 (o0 + 28) (3 : Int).toNat))) : Int).toNat b1.1) (o0 + 28) (3 : Int).toNat))) + 1)) : Int).toNat b2.1) (o0 + 28) (3 : Int).toNat))) + 2)) ∧ ((wr ((wr (3 * ((jup (jup b4.2 (o0 + 29) ((wr (3 * (b4.2 (o0 + 28) (3 : Int).toNat))) : Int).toNat b1.1) (o0 + 29) ((wr ((wr (3 * ((jup b4.2 (o0 + 29) ((wr (3 * (b4.2 (o0 + 28) (3 : Int).toNat))) : Int).toNat b1.1) (o0 + 28) (3 : Int).toNat))) + 1)) : Int).toNat b2.1) (o0 + 28) (3 : Int).toNat))) + 2)) : Int).toNat < 120 then (if (0 : Int) ≤ 3 ∧ (3 : Int).toNat < 10 then (if (0 : Int) ≤ 3 ∧ (3 : Int).toNat < 10 then some (jup (jup (jup (jup b4.2 (o0 + 29) ((wr (3 * (b4.2 (o0 + 28) (3 : Int).toNat))) : Int).toNat b1.1) (o0 + 29) ((wr ((wr (3 * ((jup b4.2 (o0 + 29) ((wr (3 * (b4.2 (o0 + 28) (3 : Int).toNat))) : Int).toNat b1.1) (o0 + 28) (3 : Int).toNat))) + 1)) : Int).toNat b2.1) (o0 + 29) ((wr ((wr (3 * ((jup (jup b4.2 (o0 + 29) ((wr (3 * (b4.2 (o0 + 28) (3 : Int).toNat))) : Int).toNat b1.1) (o0 + 29) ((wr ((wr (3 * ((jup b4.2 (o0 + 29) ((wr (3 * (b4.2 (o0 + 28) (3 : Int).toNat))) : Int).toNat b1.1) (o0 + 28) (3 : Int).toNat))) + 1)) : Int).toNat b2.1) (o0 + 28) (3 : Int).toNat))) + 2)) : Int).toNat b4.1) (o0 + 28) (3 : Int).toNat (wr (((jup (jup (jup b4.2 (o0 + 29) ((wr (3 * (b4.2 (o0 + 28) (3 : Int).toNat))) : Int).toNat b1.1) (o0 + 29) ((wr ((wr (3 * ((jup b4.2 (o0 + 29) ((wr (3 * (b4.2 (o0 + 28) (3 : Int).toNat))) : Int).toNat b1.1) (o0 + 28) (3 : Int).toNat))) + 1)) : Int).toNat b2.1) (o0 + 29) ((wr ((wr (3 * ((jup (jup b4.2 (o0 + 29) ((wr (3 * (b4.2 (o0 + 28) (3 : Int).toNat))) : Int).toNat b1.1) (o0 + 29) ((wr ((wr (3 * ((jup b4.2 (o0 + 29) ((wr (3 * (b4.2 (o0 + 28) (3 : Int).toNat))) : Int).toNat b1.1) (o0 + 28) (3 : Int).toNat))) + 1)) : Int).toNat b2.1) (o0 + 28) (3 : Int).toNat))) + 2)) : Int).toNat b4.1) (o0 + 28) (3 : Int).toNat) + 1))) else none) else none) else none) else none) else none) else none) else none) else none) else some b4.2)))))
set_option maxRecDepth 20000 in
theorem t_M_putTold {T : jT} {xs : List Int} {h : jH}  {o0 : Nat} {out : jH} (ho0 : isX12 T o0) (H : M_putTold h o0 = some out) : jEm xs 5 217 [(2, Int.ofNat o0)] (T, h) ((3, 0), (T, out)) := by
  have hd : 4 ≤ 4 := Nat.le_refl _
  obtain ⟨y, ey⟩ : ∃ y : jV × jS, y = ((3, 0), (T, out)) := ⟨_, rfl⟩
  rw [← ey]
  have HY : ykV T y out := ey
  refine jEm.ent (n := 4) (by decide +kernel) (Nat.le_of_ble_eq_true rfl) ?_
  show jEv xs 4 (217, 0, [(2, Int.ofNat o0), (3, 0), (3, 0), (3, 0)], []) (T, h) y
  unfold M_putTold at H
  refine jEv.blk [(.aload_n 0, 1, []), (.iconst 0, 1, []), (.bipush 15, 2, [])] (by decide +kernel) (pc' := 4) (ls' := [(2, Int.ofNat o0), (3, 0), (3, 0), (3, 0)]) (st' := [(0, 15), (0, 0), (2, Int.ofNat o0)]) rfl ?_
  refine jbind H (fun b1 Hb1 H => ?_)
  refine jEv.calV (st' := [(0, b1.1)]) (show jfI 217 4 (.invokevirtual 286) 3 [1, 211, 2, 8169] = true by decide +kernel) rfl (Or.inl rfl) rfl (Nat.le_of_ble_eq_true rfl) (by decide +kernel) (by decide) (isX12_L ho0) ((t_M_number (T := T) (xs := xs) ho0 Hb1).mono (jKle 2 hd)) rfl ?_
  refine jEv.blk [(.istore_n 1, 1, []), (.aload_n 0, 1, []), (.iconst 0, 1, []), (.sipush 999, 3, [])] (by decide +kernel) (pc' := 13) (ls' := [(2, Int.ofNat o0), (0, b1.1), (3, 0), (3, 0)]) (st' := [(0, 999), (0, 0), (2, Int.ofNat o0)]) rfl ?_
  refine jbind H (fun b2 Hb2 H => ?_)
  refine jEv.calV (st' := [(0, b2.1)]) (show jfI 217 13 (.invokevirtual 286) 3 [1, 211, 2, 8169] = true by decide +kernel) rfl (Or.inl rfl) rfl (Nat.le_of_ble_eq_true rfl) (by decide +kernel) (by decide) (isX12_L ho0) ((t_M_number (T := T) (xs := xs) ho0 Hb2).mono (jKle 2 hd)) rfl ?_
  refine jEv.blk [(.istore_n 2, 1, []), (.aload_n 0, 1, []), (.aload_n 0, 1, [])] (by decide +kernel) (pc' := 19) (ls' := [(2, Int.ofNat o0), (0, b1.1), (0, b2.1), (3, 0)]) (st' := [(2, Int.ofNat o0), (2, Int.ofNat o0)]) rfl ?_
  refine jEv.gfR (o' := (o0 + 7)) (show jfI 217 19 (.getfield 33) 3 [12, 15, 5, 0, 7051] = true by decide +kernel) (isX12_L ho0) (by decide) (isX12_r15 ho0) ?_
  refine jbind H (fun b3 Hb3 H => ?_)
  refine jEv.calV (st' := []) (show jfI 217 22 (.invokevirtual 282) 3 [1, 205, 1, 8146] = true by decide +kernel) rfl (Or.inl rfl) rfl (Nat.le_of_ble_eq_true rfl) (by decide +kernel) (by decide) (isX12_L ho0) ((t_M_asks (T := T) (xs := xs) ho0 (isX12_a15 ho0) Hb3).mono (jKle 4 hd)) rfl ?_
  refine jEv.blk [(.aload_n 0, 1, []), (.iconst 0, 1, []), (.bipush 40, 2, [])] (by decide +kernel) (pc' := 29) (ls' := [(2, Int.ofNat o0), (0, b1.1), (0, b2.1), (3, 0)]) (st' := [(0, 40), (0, 0), (2, Int.ofNat o0)]) rfl ?_
  refine jbind H (fun b4 Hb4 H => ?_)
  refine jEv.calV (st' := [(0, b4.1)]) (show jfI 217 29 (.invokevirtual 286) 3 [1, 211, 2, 8169] = true by decide +kernel) rfl (Or.inl rfl) rfl (Nat.le_of_ble_eq_true rfl) (by decide +kernel) (by decide) (isX12_L ho0) ((t_M_number (T := T) (xs := xs) ho0 Hb4).mono (jKle 2 hd)) rfl ?_
  refine jEv.blk [(.istore_n 3, 1, []), (.aload_n 0, 1, [])] (by decide +kernel) (pc' := 34) (ls' := [(2, Int.ofNat o0), (0, b1.1), (0, b2.1), (0, b4.1)]) (st' := [(2, Int.ofNat o0)]) rfl ?_
  refine jEv.gfI (show jfI 217 34 (.getfield 232) 3 [12, 5, 0, 0, 7041] = true by decide +kernel) (isX12_L ho0) (by decide) ?_
  refine jEv.if_eq (t := 41) (show jfI 217 37 (.ifCond .eq 4) 3 [] = true by decide +kernel) rfl H (fun c5 H => ?_) (fun c5 H => ?_)
  · refine jEv.blk [(.aload_n 0, 1, [])] (by decide +kernel) (pc' := 42) (ls' := [(2, Int.ofNat o0), (0, b1.1), (0, b2.1), (0, b4.1)]) (st' := [(2, Int.ofNat o0)]) rfl ?_
    refine jEv.gfR (o' := (o0 + 29)) (show jfI 217 42 (.getfield 99) 3 [12, 37, 5, 0, 7073] = true by decide +kernel) (isX12_L ho0) (by decide) (isX12_r37 ho0) ?_
    refine jEv.blk [(.iconst 3, 1, []), (.aload_n 0, 1, [])] (by decide +kernel) (pc' := 47) (ls' := [(2, Int.ofNat o0), (0, b1.1), (0, b2.1), (0, b4.1)]) (st' := [(2, Int.ofNat o0), (0, 3), (2, Int.ofNat (o0 + 29))]) rfl ?_
    refine jEv.gfR (o' := (o0 + 28)) (show jfI 217 47 (.getfield 96) 3 [12, 36, 5, 0, 7072] = true by decide +kernel) (isX12_L ho0) (by decide) (isX12_r36 ho0) ?_
    refine jEv.blk [(.iconst 3, 1, [])] (by decide +kernel) (pc' := 51) (ls' := [(2, Int.ofNat o0), (0, b1.1), (0, b2.1), (0, b4.1)]) (st' := [(0, 3), (2, Int.ofNat (o0 + 28)), (0, 3), (2, Int.ofNat (o0 + 29))]) rfl ?_
    refine jEv.ald (Or.inl ⟨rfl, rfl, rfl⟩) (show jfI 217 51 (.iaload) 1 [] = true by decide +kernel) (isX12_a36 ho0) H (fun c6 H => ?_)
    refine jEv.blk [(.imul, 1, []), (.iload_n 1, 1, [])] (by decide +kernel) (pc' := 54) (ls' := [(2, Int.ofNat o0), (0, b1.1), (0, b2.1), (0, b4.1)]) (st' := [(0, b1.1), (0, (wr (3 * (b4.2 (o0 + 28) (3 : Int).toNat)))), (2, Int.ofNat (o0 + 29))]) rfl ?_
    refine jEv.ast (Or.inl ⟨rfl, rfl, rfl⟩) (show jfI 217 54 (.iastore) 1 [] = true by decide +kernel) (isX12_a37 ho0) rfl H (fun c7 H => ?_)
    refine jEv.blk [(.aload_n 0, 1, [])] (by decide +kernel) (pc' := 56) (ls' := [(2, Int.ofNat o0), (0, b1.1), (0, b2.1), (0, b4.1)]) (st' := [(2, Int.ofNat o0)]) rfl ?_
    refine jEv.gfR (o' := (o0 + 29)) (show jfI 217 56 (.getfield 99) 3 [12, 37, 5, 0, 7073] = true by decide +kernel) (isX12_L ho0) (by decide) (isX12_r37 ho0) ?_
    refine jEv.blk [(.iconst 3, 1, []), (.aload_n 0, 1, [])] (by decide +kernel) (pc' := 61) (ls' := [(2, Int.ofNat o0), (0, b1.1), (0, b2.1), (0, b4.1)]) (st' := [(2, Int.ofNat o0), (0, 3), (2, Int.ofNat (o0 + 29))]) rfl ?_
    refine jEv.gfR (o' := (o0 + 28)) (show jfI 217 61 (.getfield 96) 3 [12, 36, 5, 0, 7072] = true by decide +kernel) (isX12_L ho0) (by decide) (isX12_r36 ho0) ?_
    refine jEv.blk [(.iconst 3, 1, [])] (by decide +kernel) (pc' := 65) (ls' := [(2, Int.ofNat o0), (0, b1.1), (0, b2.1), (0, b4.1)]) (st' := [(0, 3), (2, Int.ofNat (o0 + 28)), (0, 3), (2, Int.ofNat (o0 + 29))]) rfl ?_
    refine jEv.ald (Or.inl ⟨rfl, rfl, rfl⟩) (show jfI 217 65 (.iaload) 1 [] = true by decide +kernel) (isX12_a36 ho0) H (fun c8 H => ?_)
    refine jEv.blk [(.imul, 1, []), (.iconst 1, 1, []), (.iadd, 1, []), (.iload_n 2, 1, [])] (by decide +kernel) (pc' := 70) (ls' := [(2, Int.ofNat o0), (0, b1.1), (0, b2.1), (0, b4.1)]) (st' := [(0, b2.1), (0, (wr ((wr (3 * ((jup b4.2 (o0 + 29) ((wr (3 * (b4.2 (o0 + 28) (3 : Int).toNat))) : Int).toNat b1.1) (o0 + 28) (3 : Int).toNat))) + 1))), (2, Int.ofNat (o0 + 29))]) rfl ?_
    refine jEv.ast (Or.inl ⟨rfl, rfl, rfl⟩) (show jfI 217 70 (.iastore) 1 [] = true by decide +kernel) (isX12_a37 ho0) rfl H (fun c9 H => ?_)
    refine jEv.blk [(.aload_n 0, 1, [])] (by decide +kernel) (pc' := 72) (ls' := [(2, Int.ofNat o0), (0, b1.1), (0, b2.1), (0, b4.1)]) (st' := [(2, Int.ofNat o0)]) rfl ?_
    refine jEv.gfR (o' := (o0 + 29)) (show jfI 217 72 (.getfield 99) 3 [12, 37, 5, 0, 7073] = true by decide +kernel) (isX12_L ho0) (by decide) (isX12_r37 ho0) ?_
    refine jEv.blk [(.iconst 3, 1, []), (.aload_n 0, 1, [])] (by decide +kernel) (pc' := 77) (ls' := [(2, Int.ofNat o0), (0, b1.1), (0, b2.1), (0, b4.1)]) (st' := [(2, Int.ofNat o0), (0, 3), (2, Int.ofNat (o0 + 29))]) rfl ?_
    refine jEv.gfR (o' := (o0 + 28)) (show jfI 217 77 (.getfield 96) 3 [12, 36, 5, 0, 7072] = true by decide +kernel) (isX12_L ho0) (by decide) (isX12_r36 ho0) ?_
    refine jEv.blk [(.iconst 3, 1, [])] (by decide +kernel) (pc' := 81) (ls' := [(2, Int.ofNat o0), (0, b1.1), (0, b2.1), (0, b4.1)]) (st' := [(0, 3), (2, Int.ofNat (o0 + 28)), (0, 3), (2, Int.ofNat (o0 + 29))]) rfl ?_
    refine jEv.ald (Or.inl ⟨rfl, rfl, rfl⟩) (show jfI 217 81 (.iaload) 1 [] = true by decide +kernel) (isX12_a36 ho0) H (fun c10 H => ?_)
    refine jEv.blk [(.imul, 1, []), (.iconst 2, 1, []), (.iadd, 1, []), (.iload_n 3, 1, [])] (by decide +kernel) (pc' := 86) (ls' := [(2, Int.ofNat o0), (0, b1.1), (0, b2.1), (0, b4.1)]) (st' := [(0, b4.1), (0, (wr ((wr (3 * ((jup (jup b4.2 (o0 + 29) ((wr (3 * (b4.2 (o0 + 28) (3 : Int).toNat))) : Int).toNat b1.1) (o0 + 29) ((wr ((wr (3 * ((jup b4.2 (o0 + 29) ((wr (3 * (b4.2 (o0 + 28) (3 : Int).toNat))) : Int).toNat b1.1) (o0 + 28) (3 : Int).toNat))) + 1)) : Int).toNat b2.1) (o0 + 28) (3 : Int).toNat))) + 2))), (2, Int.ofNat (o0 + 29))]) rfl ?_
    refine jEv.ast (Or.inl ⟨rfl, rfl, rfl⟩) (show jfI 217 86 (.iastore) 1 [] = true by decide +kernel) (isX12_a37 ho0) rfl H (fun c11 H => ?_)
    refine jEv.blk [(.aload_n 0, 1, [])] (by decide +kernel) (pc' := 88) (ls' := [(2, Int.ofNat o0), (0, b1.1), (0, b2.1), (0, b4.1)]) (st' := [(2, Int.ofNat o0)]) rfl ?_
    refine jEv.gfR (o' := (o0 + 28)) (show jfI 217 88 (.getfield 96) 3 [12, 36, 5, 0, 7072] = true by decide +kernel) (isX12_L ho0) (by decide) (isX12_r36 ho0) ?_
    refine jEv.blk [(.iconst 3, 1, []), (.dup2, 1, [])] (by decide +kernel) (pc' := 93) (ls' := [(2, Int.ofNat o0), (0, b1.1), (0, b2.1), (0, b4.1)]) (st' := [(0, 3), (2, Int.ofNat (o0 + 28)), (0, 3), (2, Int.ofNat (o0 + 28))]) rfl ?_
    refine jEv.ald (Or.inl ⟨rfl, rfl, rfl⟩) (show jfI 217 93 (.iaload) 1 [] = true by decide +kernel) (isX12_a36 ho0) H (fun c12 H => ?_)
    refine jEv.blk [(.iconst 1, 1, []), (.iadd, 1, [])] (by decide +kernel) (pc' := 96) (ls' := [(2, Int.ofNat o0), (0, b1.1), (0, b2.1), (0, b4.1)]) (st' := [(0, (wr (((jup (jup (jup b4.2 (o0 + 29) ((wr (3 * (b4.2 (o0 + 28) (3 : Int).toNat))) : Int).toNat b1.1) (o0 + 29) ((wr ((wr (3 * ((jup b4.2 (o0 + 29) ((wr (3 * (b4.2 (o0 + 28) (3 : Int).toNat))) : Int).toNat b1.1) (o0 + 28) (3 : Int).toNat))) + 1)) : Int).toNat b2.1) (o0 + 29) ((wr ((wr (3 * ((jup (jup b4.2 (o0 + 29) ((wr (3 * (b4.2 (o0 + 28) (3 : Int).toNat))) : Int).toNat b1.1) (o0 + 29) ((wr ((wr (3 * ((jup b4.2 (o0 + 29) ((wr (3 * (b4.2 (o0 + 28) (3 : Int).toNat))) : Int).toNat b1.1) (o0 + 28) (3 : Int).toNat))) + 1)) : Int).toNat b2.1) (o0 + 28) (3 : Int).toNat))) + 2)) : Int).toNat b4.1) (o0 + 28) (3 : Int).toNat) + 1))), (0, 3), (2, Int.ofNat (o0 + 28))]) rfl ?_
    refine jEv.ast (Or.inl ⟨rfl, rfl, rfl⟩) (show jfI 217 96 (.iastore) 1 [] = true by decide +kernel) (isX12_a36 ho0) rfl H (fun c13 H => ?_)
    exact jEv.retV (show jfI 217 97 (.return_) 1 [] = true by decide +kernel) (by decide +kernel) (by cases H; exact HY)
  · exact jEv.retV (show jfI 217 40 (.return_) 1 [] = true by decide +kernel) (by decide +kernel) (by cases H; exact HY)
set_option maxRecDepth 20000 in
noncomputable def M_qOpens  (h : jH) (o0 : Nat) (v1 : Int) (v2 : Int) : Option jH := (if (h o0 5) = 0 then (if (h o0 102) = 6 then Option.bind (M_fail h o0 4 v2) (fun b3 => some b3) else (if (0 : Int) ≤ ((jup h o0 102 (wr ((h o0 102) + 1))) o0 101) ∧ (((jup h o0 102 (wr ((h o0 102) + 1))) o0 101) : Int).toNat < 1700 then some (jup (jup (jup h o0 102 (wr ((h o0 102) + 1))) (o0 + 66) (((jup h o0 102 (wr ((h o0 102) + 1))) o0 101) : Int).toNat v1) o0 101 (wr (((jup (jup h o0 102 (wr ((h o0 102) + 1))) (o0 + 66) (((jup h o0 102 (wr ((h o0 102) + 1))) o0 101) : Int).toNat v1) o0 101) + 1))) else none)) else some h)
set_option maxRecDepth 20000 in
theorem t_M_qOpens {T : jT} {xs : List Int} {h : jH}  {o0 : Nat} {v1 : Int} {v2 : Int} {out : jH} (ho0 : isX12 T o0) (H : M_qOpens h o0 v1 v2 = some out) : jEm xs 2 220 [(2, Int.ofNat o0), (0, v1), (0, v2)] (T, h) ((3, 0), (T, out)) := by
  have hd : 1 ≤ 1 := Nat.le_refl _
  obtain ⟨y, ey⟩ : ∃ y : jV × jS, y = ((3, 0), (T, out)) := ⟨_, rfl⟩
  rw [← ey]
  have HY : ykV T y out := ey
  refine jEm.ent (n := 3) (by decide +kernel) (Nat.le_of_ble_eq_true rfl) ?_
  show jEv xs 1 (220, 0, [(2, Int.ofNat o0), (0, v1), (0, v2)], []) (T, h) y
  unfold M_qOpens at H
  refine jEv.blk [(.aload_n 0, 1, [])] (by decide +kernel) (pc' := 1) (ls' := [(2, Int.ofNat o0), (0, v1), (0, v2)]) (st' := [(2, Int.ofNat o0)]) rfl ?_
  refine jEv.gfI (show jfI 220 1 (.getfield 232) 3 [12, 5, 0, 0, 7041] = true by decide +kernel) (isX12_L ho0) (by decide) ?_
  refine jEv.if_eq (t := 8) (show jfI 220 4 (.ifCond .eq 4) 3 [] = true by decide +kernel) rfl H (fun c1 H => ?_) (fun c1 H => ?_)
  · refine jEv.blk [(.aload_n 0, 1, [])] (by decide +kernel) (pc' := 9) (ls' := [(2, Int.ofNat o0), (0, v1), (0, v2)]) (st' := [(2, Int.ofNat o0)]) rfl ?_
    refine jEv.gfI (show jfI 220 9 (.getfield 300) 3 [12, 102, 0, 0, 7138] = true by decide +kernel) (isX12_L ho0) (by decide) ?_
    refine jEv.blk [(.bipush 6, 2, [])] (by decide +kernel) (pc' := 14) (ls' := [(2, Int.ofNat o0), (0, v1), (0, v2)]) (st' := [(0, 6), (0, (h o0 102))]) rfl ?_
    refine jEv.ic_ne (t := 24) (show jfI 220 14 (.if_icmp .ne 10) 3 [] = true by decide +kernel) rfl H (fun c2 H => ?_) (fun c2 H => ?_)
    · refine jEv.blk [(.aload_n 0, 1, []), (.iconst 4, 1, []), (.iload_n 2, 1, [])] (by decide +kernel) (pc' := 20) (ls' := [(2, Int.ofNat o0), (0, v1), (0, v2)]) (st' := [(0, v2), (0, 4), (2, Int.ofNat o0)]) rfl ?_
      refine jbind H (fun b3 Hb3 H => ?_)
      refine jEv.calV (st' := []) (show jfI 220 20 (.invokevirtual 262) 3 [1, 210, 2, 8165] = true by decide +kernel) rfl (Or.inl rfl) rfl (Nat.le_of_ble_eq_true rfl) (by decide +kernel) (by decide) (isX12_L ho0) ((t_M_fail (T := T) (xs := xs) ho0 Hb3).mono (jKle 1 hd)) rfl ?_
      exact jEv.retV (show jfI 220 23 (.return_) 1 [] = true by decide +kernel) (by decide +kernel) (by cases H; exact HY)
    · refine jEv.blk [(.aload_n 0, 1, []), (.dup, 1, [])] (by decide +kernel) (pc' := 26) (ls' := [(2, Int.ofNat o0), (0, v1), (0, v2)]) (st' := [(2, Int.ofNat o0), (2, Int.ofNat o0)]) rfl ?_
      refine jEv.gfI (show jfI 220 26 (.getfield 300) 3 [12, 102, 0, 0, 7138] = true by decide +kernel) (isX12_L ho0) (by decide) ?_
      refine jEv.blk [(.iconst 1, 1, []), (.iadd, 1, [])] (by decide +kernel) (pc' := 31) (ls' := [(2, Int.ofNat o0), (0, v1), (0, v2)]) (st' := [(0, (wr ((h o0 102) + 1))), (2, Int.ofNat o0)]) rfl ?_
      refine jEv.pfI (show jfI 220 31 (.putfield 300) 3 [12, 102, 0, 0, 7138] = true by decide +kernel) (isX12_L ho0) (by decide) ?_
      refine jEv.blk [(.aload_n 0, 1, [])] (by decide +kernel) (pc' := 35) (ls' := [(2, Int.ofNat o0), (0, v1), (0, v2)]) (st' := [(2, Int.ofNat o0)]) rfl ?_
      refine jEv.gfR (o' := (o0 + 66)) (show jfI 220 35 (.getfield 219) 3 [12, 100, 5, 0, 7136] = true by decide +kernel) (isX12_L ho0) (by decide) (isX12_r100 ho0) ?_
      refine jEv.blk [(.aload_n 0, 1, [])] (by decide +kernel) (pc' := 39) (ls' := [(2, Int.ofNat o0), (0, v1), (0, v2)]) (st' := [(2, Int.ofNat o0), (2, Int.ofNat (o0 + 66))]) rfl ?_
      refine jEv.gfI (show jfI 220 39 (.getfield 297) 3 [12, 101, 0, 0, 7137] = true by decide +kernel) (isX12_L ho0) (by decide) ?_
      refine jEv.blk [(.iload_n 1, 1, [])] (by decide +kernel) (pc' := 43) (ls' := [(2, Int.ofNat o0), (0, v1), (0, v2)]) (st' := [(0, v1), (0, ((jup h o0 102 (wr ((h o0 102) + 1))) o0 101)), (2, Int.ofNat (o0 + 66))]) rfl ?_
      refine jEv.ast (Or.inl ⟨rfl, rfl, rfl⟩) (show jfI 220 43 (.iastore) 1 [] = true by decide +kernel) (isX12_a100 ho0) rfl H (fun c4 H => ?_)
      refine jEv.blk [(.aload_n 0, 1, []), (.dup, 1, [])] (by decide +kernel) (pc' := 46) (ls' := [(2, Int.ofNat o0), (0, v1), (0, v2)]) (st' := [(2, Int.ofNat o0), (2, Int.ofNat o0)]) rfl ?_
      refine jEv.gfI (show jfI 220 46 (.getfield 297) 3 [12, 101, 0, 0, 7137] = true by decide +kernel) (isX12_L ho0) (by decide) ?_
      refine jEv.blk [(.iconst 1, 1, []), (.iadd, 1, [])] (by decide +kernel) (pc' := 51) (ls' := [(2, Int.ofNat o0), (0, v1), (0, v2)]) (st' := [(0, (wr (((jup (jup h o0 102 (wr ((h o0 102) + 1))) (o0 + 66) (((jup h o0 102 (wr ((h o0 102) + 1))) o0 101) : Int).toNat v1) o0 101) + 1))), (2, Int.ofNat o0)]) rfl ?_
      refine jEv.pfI (show jfI 220 51 (.putfield 297) 3 [12, 101, 0, 0, 7137] = true by decide +kernel) (isX12_L ho0) (by decide) ?_
      exact jEv.retV (show jfI 220 54 (.return_) 1 [] = true by decide +kernel) (by decide +kernel) (by cases H; exact HY)
  · exact jEv.retV (show jfI 220 7 (.return_) 1 [] = true by decide +kernel) (by decide +kernel) (by cases H; exact HY)
set_option maxRecDepth 20000 in
noncomputable def M_qCode  (h : jH) (o0 : Nat) (v1 : Int) : Option jH := (if (0 : Int) ≤ (h o0 99) ∧ ((h o0 99) : Int).toNat < 1700 then some (jup (jup h (o0 + 65) ((h o0 99) : Int).toNat v1) o0 99 (wr (((jup h (o0 + 65) ((h o0 99) : Int).toNat v1) o0 99) + 1))) else none)
set_option maxRecDepth 20000 in
theorem t_M_qCode {T : jT} {xs : List Int} {h : jH}  {o0 : Nat} {v1 : Int} {out : jH} (ho0 : isX12 T o0) (H : M_qCode h o0 v1 = some out) : jEm xs 1 222 [(2, Int.ofNat o0), (0, v1)] (T, h) ((3, 0), (T, out)) := by
  have hd : 0 ≤ 0 := Nat.le_refl _
  obtain ⟨y, ey⟩ : ∃ y : jV × jS, y = ((3, 0), (T, out)) := ⟨_, rfl⟩
  rw [← ey]
  have HY : ykV T y out := ey
  refine jEm.ent (n := 2) (by decide +kernel) (Nat.le_of_ble_eq_true rfl) ?_
  show jEv xs 0 (222, 0, [(2, Int.ofNat o0), (0, v1)], []) (T, h) y
  unfold M_qCode at H
  refine jEv.blk [(.aload_n 0, 1, [])] (by decide +kernel) (pc' := 1) (ls' := [(2, Int.ofNat o0), (0, v1)]) (st' := [(2, Int.ofNat o0)]) rfl ?_
  refine jEv.gfR (o' := (o0 + 65)) (show jfI 222 1 (.getfield 216) 3 [12, 98, 5, 0, 7134] = true by decide +kernel) (isX12_L ho0) (by decide) (isX12_r98 ho0) ?_
  refine jEv.blk [(.aload_n 0, 1, [])] (by decide +kernel) (pc' := 5) (ls' := [(2, Int.ofNat o0), (0, v1)]) (st' := [(2, Int.ofNat o0), (2, Int.ofNat (o0 + 65))]) rfl ?_
  refine jEv.gfI (show jfI 222 5 (.getfield 294) 3 [12, 99, 0, 0, 7135] = true by decide +kernel) (isX12_L ho0) (by decide) ?_
  refine jEv.blk [(.iload_n 1, 1, [])] (by decide +kernel) (pc' := 9) (ls' := [(2, Int.ofNat o0), (0, v1)]) (st' := [(0, v1), (0, (h o0 99)), (2, Int.ofNat (o0 + 65))]) rfl ?_
  refine jEv.ast (Or.inl ⟨rfl, rfl, rfl⟩) (show jfI 222 9 (.iastore) 1 [] = true by decide +kernel) (isX12_a98 ho0) rfl H (fun c1 H => ?_)
  refine jEv.blk [(.aload_n 0, 1, []), (.dup, 1, [])] (by decide +kernel) (pc' := 12) (ls' := [(2, Int.ofNat o0), (0, v1)]) (st' := [(2, Int.ofNat o0), (2, Int.ofNat o0)]) rfl ?_
  refine jEv.gfI (show jfI 222 12 (.getfield 294) 3 [12, 99, 0, 0, 7135] = true by decide +kernel) (isX12_L ho0) (by decide) ?_
  refine jEv.blk [(.iconst 1, 1, []), (.iadd, 1, [])] (by decide +kernel) (pc' := 17) (ls' := [(2, Int.ofNat o0), (0, v1)]) (st' := [(0, (wr (((jup h (o0 + 65) ((h o0 99) : Int).toNat v1) o0 99) + 1))), (2, Int.ofNat o0)]) rfl ?_
  refine jEv.pfI (show jfI 222 17 (.putfield 294) 3 [12, 99, 0, 0, 7135] = true by decide +kernel) (isX12_L ho0) (by decide) ?_
  exact jEv.retV (show jfI 222 20 (.return_) 1 [] = true by decide +kernel) (by decide +kernel) (by cases H; exact HY)
set_option maxRecDepth 20000 in
noncomputable def M_qWordHere  (h : jH) (o0 : Nat) : Option (Int × jH) := Option.bind (M_isHere h o0 (o0 + 55) 4) (fun b1 => (if b1.1 = 0 then Option.bind (M_isHere b1.2 o0 (o0 + 56) 7) (fun b3 => (if b3.1 = 0 then Option.bind (M_isHere b3.2 o0 (o0 + 57) 7) (fun b5 => (if b5.1 = 0 then Option.bind (M_isHere b5.2 o0 (o0 + 58) 3) (fun b7 => (if b7.1 = 0 then Option.bind (M_isHere b7.2 o0 (o0 + 59) 7) (fun b9 => (if b9.1 = 0 then Option.bind (M_isHere b9.2 o0 (o0 + 60) 6) (fun b11 => (if b11.1 = 0 then Option.bind (M_isHere b11.2 o0 (o0 + 61) 6) (fun b13 => (if b13.1 = 0 then Option.bind (M_isHere b13.2 o0 (o0 + 43) 5) (fun b15 => (if b15.1 = 0 then Option.bind (M_isHere b15.2 o0 (o0 + 62) 6) (fun b17 => (if b17.1 = 0 then Option.bind (M_isHere b17.2 o0 (o0 + 63) 5) (fun b19 => (if b19.1 = 0 then Option.bind (M_isHere b19.2 o0 (o0 + 64) 5) (fun b21 => (if b21.1 = 0 then some ((-1), b21.2) else some (10, b21.2))) else some (9, b19.2))) else some (8, b17.2))) else some (7, b15.2))) else some (6, b13.2))) else some (5, b11.2))) else some (4, b9.2))) else some (3, b7.2))) else some (2, b5.2))) else some (1, b3.2))) else some (0, b1.2)))
set_option maxRecDepth 20000 in
theorem t_M_qWordHere {T : jT} {xs : List Int} {h : jH}  {o0 : Nat} {out : (Int × jH)} (ho0 : isX12 T o0) (H : M_qWordHere h o0 = some out) : jEm xs 3 226 [(2, Int.ofNat o0)] (T, h) ((0, out.1), (T, out.2)) := by
  have hd : 2 ≤ 2 := Nat.le_refl _
  obtain ⟨y, ey⟩ : ∃ y : jV × jS, y = ((0, out.1), (T, out.2)) := ⟨_, rfl⟩
  rw [← ey]
  have HY : ykI T y out := ey
  refine jEm.ent (n := 1) (by decide +kernel) (Nat.le_of_ble_eq_true rfl) ?_
  show jEv xs 2 (226, 0, [(2, Int.ofNat o0)], []) (T, h) y
  unfold M_qWordHere at H
  refine jEv.blk [(.aload_n 0, 1, []), (.aload_n 0, 1, [])] (by decide +kernel) (pc' := 2) (ls' := [(2, Int.ofNat o0)]) (st' := [(2, Int.ofNat o0), (2, Int.ofNat o0)]) rfl ?_
  refine jEv.gfR (o' := (o0 + 55)) (show jfI 226 2 (.getfield 186) 3 [12, 88, 5, 0, 7124] = true by decide +kernel) (isX12_L ho0) (by decide) (isX12_r88 ho0) ?_
  refine jbind H (fun b1 Hb1 H => ?_)
  refine jEv.calV (st' := [(0, b1.1)]) (show jfI 226 5 (.invokevirtual 255) 3 [1, 207, 1, 8154] = true by decide +kernel) rfl (Or.inl rfl) rfl (Nat.le_of_ble_eq_true rfl) (by decide +kernel) (by decide) (isX12_L ho0) ((t_M_isHere (T := T) (xs := xs) ho0 (isX12_a88 ho0) Hb1).mono (jKle 2 hd)) rfl ?_
  refine jEv.if_eq (t := 13) (show jfI 226 8 (.ifCond .eq 5) 3 [] = true by decide +kernel) rfl H (fun c2 H => ?_) (fun c2 H => ?_)
  · refine jEv.blk [(.aload_n 0, 1, []), (.aload_n 0, 1, [])] (by decide +kernel) (pc' := 15) (ls' := [(2, Int.ofNat o0)]) (st' := [(2, Int.ofNat o0), (2, Int.ofNat o0)]) rfl ?_
    refine jEv.gfR (o' := (o0 + 56)) (show jfI 226 15 (.getfield 189) 3 [12, 89, 5, 0, 7125] = true by decide +kernel) (isX12_L ho0) (by decide) (isX12_r89 ho0) ?_
    refine jbind H (fun b3 Hb3 H => ?_)
    refine jEv.calV (st' := [(0, b3.1)]) (show jfI 226 18 (.invokevirtual 255) 3 [1, 207, 1, 8154] = true by decide +kernel) rfl (Or.inl rfl) rfl (Nat.le_of_ble_eq_true rfl) (by decide +kernel) (by decide) (isX12_L ho0) ((t_M_isHere (T := T) (xs := xs) ho0 (isX12_a89 ho0) Hb3).mono (jKle 2 hd)) rfl ?_
    refine jEv.if_eq (t := 26) (show jfI 226 21 (.ifCond .eq 5) 3 [] = true by decide +kernel) rfl H (fun c4 H => ?_) (fun c4 H => ?_)
    · refine jEv.blk [(.aload_n 0, 1, []), (.aload_n 0, 1, [])] (by decide +kernel) (pc' := 28) (ls' := [(2, Int.ofNat o0)]) (st' := [(2, Int.ofNat o0), (2, Int.ofNat o0)]) rfl ?_
      refine jEv.gfR (o' := (o0 + 57)) (show jfI 226 28 (.getfield 192) 3 [12, 90, 5, 0, 7126] = true by decide +kernel) (isX12_L ho0) (by decide) (isX12_r90 ho0) ?_
      refine jbind H (fun b5 Hb5 H => ?_)
      refine jEv.calV (st' := [(0, b5.1)]) (show jfI 226 31 (.invokevirtual 255) 3 [1, 207, 1, 8154] = true by decide +kernel) rfl (Or.inl rfl) rfl (Nat.le_of_ble_eq_true rfl) (by decide +kernel) (by decide) (isX12_L ho0) ((t_M_isHere (T := T) (xs := xs) ho0 (isX12_a90 ho0) Hb5).mono (jKle 2 hd)) rfl ?_
      refine jEv.if_eq (t := 39) (show jfI 226 34 (.ifCond .eq 5) 3 [] = true by decide +kernel) rfl H (fun c6 H => ?_) (fun c6 H => ?_)
      · refine jEv.blk [(.aload_n 0, 1, []), (.aload_n 0, 1, [])] (by decide +kernel) (pc' := 41) (ls' := [(2, Int.ofNat o0)]) (st' := [(2, Int.ofNat o0), (2, Int.ofNat o0)]) rfl ?_
        refine jEv.gfR (o' := (o0 + 58)) (show jfI 226 41 (.getfield 195) 3 [12, 91, 5, 0, 7127] = true by decide +kernel) (isX12_L ho0) (by decide) (isX12_r91 ho0) ?_
        refine jbind H (fun b7 Hb7 H => ?_)
        refine jEv.calV (st' := [(0, b7.1)]) (show jfI 226 44 (.invokevirtual 255) 3 [1, 207, 1, 8154] = true by decide +kernel) rfl (Or.inl rfl) rfl (Nat.le_of_ble_eq_true rfl) (by decide +kernel) (by decide) (isX12_L ho0) ((t_M_isHere (T := T) (xs := xs) ho0 (isX12_a91 ho0) Hb7).mono (jKle 2 hd)) rfl ?_
        refine jEv.if_eq (t := 52) (show jfI 226 47 (.ifCond .eq 5) 3 [] = true by decide +kernel) rfl H (fun c8 H => ?_) (fun c8 H => ?_)
        · refine jEv.blk [(.aload_n 0, 1, []), (.aload_n 0, 1, [])] (by decide +kernel) (pc' := 54) (ls' := [(2, Int.ofNat o0)]) (st' := [(2, Int.ofNat o0), (2, Int.ofNat o0)]) rfl ?_
          refine jEv.gfR (o' := (o0 + 59)) (show jfI 226 54 (.getfield 198) 3 [12, 92, 5, 0, 7128] = true by decide +kernel) (isX12_L ho0) (by decide) (isX12_r92 ho0) ?_
          refine jbind H (fun b9 Hb9 H => ?_)
          refine jEv.calV (st' := [(0, b9.1)]) (show jfI 226 57 (.invokevirtual 255) 3 [1, 207, 1, 8154] = true by decide +kernel) rfl (Or.inl rfl) rfl (Nat.le_of_ble_eq_true rfl) (by decide +kernel) (by decide) (isX12_L ho0) ((t_M_isHere (T := T) (xs := xs) ho0 (isX12_a92 ho0) Hb9).mono (jKle 2 hd)) rfl ?_
          refine jEv.if_eq (t := 65) (show jfI 226 60 (.ifCond .eq 5) 3 [] = true by decide +kernel) rfl H (fun c10 H => ?_) (fun c10 H => ?_)
          · refine jEv.blk [(.aload_n 0, 1, []), (.aload_n 0, 1, [])] (by decide +kernel) (pc' := 67) (ls' := [(2, Int.ofNat o0)]) (st' := [(2, Int.ofNat o0), (2, Int.ofNat o0)]) rfl ?_
            refine jEv.gfR (o' := (o0 + 60)) (show jfI 226 67 (.getfield 201) 3 [12, 93, 5, 0, 7129] = true by decide +kernel) (isX12_L ho0) (by decide) (isX12_r93 ho0) ?_
            refine jbind H (fun b11 Hb11 H => ?_)
            refine jEv.calV (st' := [(0, b11.1)]) (show jfI 226 70 (.invokevirtual 255) 3 [1, 207, 1, 8154] = true by decide +kernel) rfl (Or.inl rfl) rfl (Nat.le_of_ble_eq_true rfl) (by decide +kernel) (by decide) (isX12_L ho0) ((t_M_isHere (T := T) (xs := xs) ho0 (isX12_a93 ho0) Hb11).mono (jKle 2 hd)) rfl ?_
            refine jEv.if_eq (t := 78) (show jfI 226 73 (.ifCond .eq 5) 3 [] = true by decide +kernel) rfl H (fun c12 H => ?_) (fun c12 H => ?_)
            · refine jEv.blk [(.aload_n 0, 1, []), (.aload_n 0, 1, [])] (by decide +kernel) (pc' := 80) (ls' := [(2, Int.ofNat o0)]) (st' := [(2, Int.ofNat o0), (2, Int.ofNat o0)]) rfl ?_
              refine jEv.gfR (o' := (o0 + 61)) (show jfI 226 80 (.getfield 204) 3 [12, 94, 5, 0, 7130] = true by decide +kernel) (isX12_L ho0) (by decide) (isX12_r94 ho0) ?_
              refine jbind H (fun b13 Hb13 H => ?_)
              refine jEv.calV (st' := [(0, b13.1)]) (show jfI 226 83 (.invokevirtual 255) 3 [1, 207, 1, 8154] = true by decide +kernel) rfl (Or.inl rfl) rfl (Nat.le_of_ble_eq_true rfl) (by decide +kernel) (by decide) (isX12_L ho0) ((t_M_isHere (T := T) (xs := xs) ho0 (isX12_a94 ho0) Hb13).mono (jKle 2 hd)) rfl ?_
              refine jEv.if_eq (t := 92) (show jfI 226 86 (.ifCond .eq 6) 3 [] = true by decide +kernel) rfl H (fun c14 H => ?_) (fun c14 H => ?_)
              · refine jEv.blk [(.aload_n 0, 1, []), (.aload_n 0, 1, [])] (by decide +kernel) (pc' := 94) (ls' := [(2, Int.ofNat o0)]) (st' := [(2, Int.ofNat o0), (2, Int.ofNat o0)]) rfl ?_
                refine jEv.gfR (o' := (o0 + 43)) (show jfI 226 94 (.getfield 150) 3 [12, 76, 5, 0, 7112] = true by decide +kernel) (isX12_L ho0) (by decide) (isX12_r76 ho0) ?_
                refine jbind H (fun b15 Hb15 H => ?_)
                refine jEv.calV (st' := [(0, b15.1)]) (show jfI 226 97 (.invokevirtual 255) 3 [1, 207, 1, 8154] = true by decide +kernel) rfl (Or.inl rfl) rfl (Nat.le_of_ble_eq_true rfl) (by decide +kernel) (by decide) (isX12_L ho0) ((t_M_isHere (T := T) (xs := xs) ho0 (isX12_a76 ho0) Hb15).mono (jKle 2 hd)) rfl ?_
                refine jEv.if_eq (t := 106) (show jfI 226 100 (.ifCond .eq 6) 3 [] = true by decide +kernel) rfl H (fun c16 H => ?_) (fun c16 H => ?_)
                · refine jEv.blk [(.aload_n 0, 1, []), (.aload_n 0, 1, [])] (by decide +kernel) (pc' := 108) (ls' := [(2, Int.ofNat o0)]) (st' := [(2, Int.ofNat o0), (2, Int.ofNat o0)]) rfl ?_
                  refine jEv.gfR (o' := (o0 + 62)) (show jfI 226 108 (.getfield 207) 3 [12, 95, 5, 0, 7131] = true by decide +kernel) (isX12_L ho0) (by decide) (isX12_r95 ho0) ?_
                  refine jbind H (fun b17 Hb17 H => ?_)
                  refine jEv.calV (st' := [(0, b17.1)]) (show jfI 226 111 (.invokevirtual 255) 3 [1, 207, 1, 8154] = true by decide +kernel) rfl (Or.inl rfl) rfl (Nat.le_of_ble_eq_true rfl) (by decide +kernel) (by decide) (isX12_L ho0) ((t_M_isHere (T := T) (xs := xs) ho0 (isX12_a95 ho0) Hb17).mono (jKle 2 hd)) rfl ?_
                  refine jEv.if_eq (t := 120) (show jfI 226 114 (.ifCond .eq 6) 3 [] = true by decide +kernel) rfl H (fun c18 H => ?_) (fun c18 H => ?_)
                  · refine jEv.blk [(.aload_n 0, 1, []), (.aload_n 0, 1, [])] (by decide +kernel) (pc' := 122) (ls' := [(2, Int.ofNat o0)]) (st' := [(2, Int.ofNat o0), (2, Int.ofNat o0)]) rfl ?_
                    refine jEv.gfR (o' := (o0 + 63)) (show jfI 226 122 (.getfield 210) 3 [12, 96, 5, 0, 7132] = true by decide +kernel) (isX12_L ho0) (by decide) (isX12_r96 ho0) ?_
                    refine jbind H (fun b19 Hb19 H => ?_)
                    refine jEv.calV (st' := [(0, b19.1)]) (show jfI 226 125 (.invokevirtual 255) 3 [1, 207, 1, 8154] = true by decide +kernel) rfl (Or.inl rfl) rfl (Nat.le_of_ble_eq_true rfl) (by decide +kernel) (by decide) (isX12_L ho0) ((t_M_isHere (T := T) (xs := xs) ho0 (isX12_a96 ho0) Hb19).mono (jKle 2 hd)) rfl ?_
                    refine jEv.if_eq (t := 134) (show jfI 226 128 (.ifCond .eq 6) 3 [] = true by decide +kernel) rfl H (fun c20 H => ?_) (fun c20 H => ?_)
                    · refine jEv.blk [(.aload_n 0, 1, []), (.aload_n 0, 1, [])] (by decide +kernel) (pc' := 136) (ls' := [(2, Int.ofNat o0)]) (st' := [(2, Int.ofNat o0), (2, Int.ofNat o0)]) rfl ?_
                      refine jEv.gfR (o' := (o0 + 64)) (show jfI 226 136 (.getfield 213) 3 [12, 97, 5, 0, 7133] = true by decide +kernel) (isX12_L ho0) (by decide) (isX12_r97 ho0) ?_
                      refine jbind H (fun b21 Hb21 H => ?_)
                      refine jEv.calV (st' := [(0, b21.1)]) (show jfI 226 139 (.invokevirtual 255) 3 [1, 207, 1, 8154] = true by decide +kernel) rfl (Or.inl rfl) rfl (Nat.le_of_ble_eq_true rfl) (by decide +kernel) (by decide) (isX12_L ho0) ((t_M_isHere (T := T) (xs := xs) ho0 (isX12_a97 ho0) Hb21).mono (jKle 2 hd)) rfl ?_
                      refine jEv.if_eq (t := 148) (show jfI 226 142 (.ifCond .eq 6) 3 [] = true by decide +kernel) rfl H (fun c22 H => ?_) (fun c22 H => ?_)
                      · refine jEv.blk [(.iconst (-1), 1, [])] (by decide +kernel) (pc' := 149) (ls' := [(2, Int.ofNat o0)]) (st' := [(0, (-1))]) rfl ?_
                        exact jEv.retI (show jfI 226 149 (.ireturn) 1 [] = true by decide +kernel) (by decide +kernel) (by cases H; exact HY)
                      · refine jEv.blk [(.bipush 10, 2, [])] (by decide +kernel) (pc' := 147) (ls' := [(2, Int.ofNat o0)]) (st' := [(0, 10)]) rfl ?_
                        exact jEv.retI (show jfI 226 147 (.ireturn) 1 [] = true by decide +kernel) (by decide +kernel) (by cases H; exact HY)
                    · refine jEv.blk [(.bipush 9, 2, [])] (by decide +kernel) (pc' := 133) (ls' := [(2, Int.ofNat o0)]) (st' := [(0, 9)]) rfl ?_
                      exact jEv.retI (show jfI 226 133 (.ireturn) 1 [] = true by decide +kernel) (by decide +kernel) (by cases H; exact HY)
                  · refine jEv.blk [(.bipush 8, 2, [])] (by decide +kernel) (pc' := 119) (ls' := [(2, Int.ofNat o0)]) (st' := [(0, 8)]) rfl ?_
                    exact jEv.retI (show jfI 226 119 (.ireturn) 1 [] = true by decide +kernel) (by decide +kernel) (by cases H; exact HY)
                · refine jEv.blk [(.bipush 7, 2, [])] (by decide +kernel) (pc' := 105) (ls' := [(2, Int.ofNat o0)]) (st' := [(0, 7)]) rfl ?_
                  exact jEv.retI (show jfI 226 105 (.ireturn) 1 [] = true by decide +kernel) (by decide +kernel) (by cases H; exact HY)
              · refine jEv.blk [(.bipush 6, 2, [])] (by decide +kernel) (pc' := 91) (ls' := [(2, Int.ofNat o0)]) (st' := [(0, 6)]) rfl ?_
                exact jEv.retI (show jfI 226 91 (.ireturn) 1 [] = true by decide +kernel) (by decide +kernel) (by cases H; exact HY)
            · refine jEv.blk [(.iconst 5, 1, [])] (by decide +kernel) (pc' := 77) (ls' := [(2, Int.ofNat o0)]) (st' := [(0, 5)]) rfl ?_
              exact jEv.retI (show jfI 226 77 (.ireturn) 1 [] = true by decide +kernel) (by decide +kernel) (by cases H; exact HY)
          · refine jEv.blk [(.iconst 4, 1, [])] (by decide +kernel) (pc' := 64) (ls' := [(2, Int.ofNat o0)]) (st' := [(0, 4)]) rfl ?_
            exact jEv.retI (show jfI 226 64 (.ireturn) 1 [] = true by decide +kernel) (by decide +kernel) (by cases H; exact HY)
        · refine jEv.blk [(.iconst 3, 1, [])] (by decide +kernel) (pc' := 51) (ls' := [(2, Int.ofNat o0)]) (st' := [(0, 3)]) rfl ?_
          exact jEv.retI (show jfI 226 51 (.ireturn) 1 [] = true by decide +kernel) (by decide +kernel) (by cases H; exact HY)
      · refine jEv.blk [(.iconst 2, 1, [])] (by decide +kernel) (pc' := 38) (ls' := [(2, Int.ofNat o0)]) (st' := [(0, 2)]) rfl ?_
        exact jEv.retI (show jfI 226 38 (.ireturn) 1 [] = true by decide +kernel) (by decide +kernel) (by cases H; exact HY)
    · refine jEv.blk [(.iconst 1, 1, [])] (by decide +kernel) (pc' := 25) (ls' := [(2, Int.ofNat o0)]) (st' := [(0, 1)]) rfl ?_
      exact jEv.retI (show jfI 226 25 (.ireturn) 1 [] = true by decide +kernel) (by decide +kernel) (by cases H; exact HY)
  · refine jEv.blk [(.iconst 0, 1, [])] (by decide +kernel) (pc' := 12) (ls' := [(2, Int.ofNat o0)]) (st' := [(0, 0)]) rfl ?_
    exact jEv.retI (show jfI 226 12 (.ireturn) 1 [] = true by decide +kernel) (by decide +kernel) (by cases H; exact HY)
