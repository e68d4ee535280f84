/-! methods as functions -/
def yk_FR_anyBehind_L7 (T : jT) (xs : List Int) (d : Nat) (y : jV × jS) (h : jH)  (o0 : Nat) (o1 : Nat) : (Int ⊕ Int) → Prop
  | .inl v2 => jEv xs d (46, 7, [(2, Int.ofNat o0), (2, Int.ofNat o1), (0, v2)], []) (T, h) y
  | .inr o => ykIp T h y o
set_option maxRecDepth 20000 in
noncomputable def FR_anyBehind_B7  (h : jH) (o0 : Nat) (o1 : Nat) (v2 : Int) : Option (Int ⊕ Int) := (if v2 < (h o1 3) then Option.bind (Di_frameStands h o1 (h o0 6) v2 (h o0 7)) (fun b2 => (if b2 = 0 then some (.inl ((wr (v2 + 1)))) else Option.map Sum.inr (some 1))) else Option.map Sum.inr (some 0))
noncomputable def FR_anyBehind_L7  (h : jH) (o0 : Nat) (o1 : Nat) (v2 : Int) : Option Int := jloop (fun s : Int => FR_anyBehind_B7 h o0 o1 s) (v2)
set_option maxRecDepth 20000 in
theorem t_FR_anyBehind_B7 {T : jT} {xs : List Int} {d : Nat} {y : jV × jS} (hd : 2 ≤ d) {h : jH}  {o0 : Nat} {o1 : Nat} {v2 : Int} {out : (Int ⊕ Int)} (ho0 : isX3 T o0) (ho1 : isX0 T o1) (H : FR_anyBehind_B7 h o0 o1 v2 = some out) (HY : yk_FR_anyBehind_L7 T xs d y h o0 o1 out) : jEv xs d (46, 7, [(2, Int.ofNat o0), (2, Int.ofNat o1), (0, v2)], []) (T, h) y := by
  unfold FR_anyBehind_B7 at H
  refine jEv.blk [(.iload_n 2, 1, []), (.aload_n 1, 1, [])] (by decide +kernel) (pc' := 9) (ls' := [(2, Int.ofNat o0), (2, Int.ofNat o1), (0, v2)]) (st' := [(2, Int.ofNat o1), (0, v2)]) rfl ?_
  refine jEv.gfI (show jfI 46 9 (.getfield 80) 3 [0, 3, 0, 0, 1189] = true by decide +kernel) (isX0_L ho1) (by decide) ?_
  refine jEv.ic_ge (t := 39) (show jfI 46 12 (.if_icmp .ge 27) 3 [] = true by decide +kernel) rfl H (fun c1 H => ?_) (fun c1 H => ?_)
  · refine jEv.blk [(.aload_n 1, 1, []), (.aload_n 0, 1, [])] (by decide +kernel) (pc' := 17) (ls' := [(2, Int.ofNat o0), (2, Int.ofNat o1), (0, v2)]) (st' := [(2, Int.ofNat o0), (2, Int.ofNat o1)]) rfl ?_
    refine jEv.gfI (show jfI 46 17 (.getfield 9) 3 [3, 6, 0, 0, 2178] = true by decide +kernel) (isX3_L ho0) (by decide) ?_
    refine jEv.blk [(.iload_n 2, 1, []), (.aload_n 0, 1, [])] (by decide +kernel) (pc' := 22) (ls' := [(2, Int.ofNat o0), (2, Int.ofNat o1), (0, v2)]) (st' := [(2, Int.ofNat o0), (0, v2), (0, (h o0 6)), (2, Int.ofNat o1)]) rfl ?_
    refine jEv.gfI (show jfI 46 22 (.getfield 21) 3 [3, 7, 0, 0, 2179] = true by decide +kernel) (isX3_L ho0) (by decide) ?_
    refine jbind H (fun b2 Hb2 H => ?_)
    refine jEv.calV (st' := [(0, b2)]) (show jfI 46 25 (.invokevirtual 34) 3 [1, 13, 3, 4201] = true by decide +kernel) rfl (Or.inl rfl) rfl (Nat.le_of_ble_eq_true rfl) (by decide +kernel) (by decide) (isX0_L ho1) ((t_Di_frameStands (T := T) (xs := xs) ho1 Hb2).mono (jKle 2 hd)) rfl ?_
    refine jEv.if_eq (t := 33) (show jfI 46 28 (.ifCond .eq 5) 3 [] = true by decide +kernel) rfl H (fun c3 H => ?_) (fun c3 H => ?_)
    · refine jEv.blk [(.iinc 2 1, 3, [])] (by decide +kernel) (pc' := 36) (ls' := [(2, Int.ofNat o0), (2, Int.ofNat o1), (0, (wr (v2 + 1)))]) (st' := []) rfl ?_
      refine jEv.goto (t := 7) (show jfI 46 36 (.goto (-29)) 3 [] = true by decide +kernel) rfl ?_
      exact (by cases H; exact HY)
    · refine jmapr H HY (fun out H (HY : ykIp T h y out) => ?_)
      refine jEv.blk [(.iconst 1, 1, [])] (by decide +kernel) (pc' := 32) (ls' := [(2, Int.ofNat o0), (2, Int.ofNat o1), (0, v2)]) (st' := [(0, 1)]) rfl ?_
      exact jEv.retZ (show jfI 46 32 (.ireturn) 1 [] = true by decide +kernel) (by decide +kernel) (by decide) (by cases H; exact HY)
  · refine jmapr H HY (fun out H (HY : ykIp T h y out) => ?_)
    refine jEv.blk [(.iconst 0, 1, [])] (by decide +kernel) (pc' := 40) (ls' := [(2, Int.ofNat o0), (2, Int.ofNat o1), (0, v2)]) (st' := [(0, 0)]) rfl ?_
    exact jEv.retZ (show jfI 46 40 (.ireturn) 1 [] = true by decide +kernel) (by decide +kernel) (by decide) (by cases H; exact HY)
theorem t_FR_anyBehind_L7 {T : jT} {xs : List Int} {d : Nat} {y : jV × jS} (hd : 2 ≤ d) {h : jH}  {o0 : Nat} {o1 : Nat} {v2 : Int} {out : Int} (ho0 : isX3 T o0) (ho1 : isX0 T o1) (H : FR_anyBehind_L7 h o0 o1 v2 = some out) (HY : ykIp T h y out) : jEv xs d (46, 7, [(2, Int.ofNat o0), (2, Int.ofNat o1), (0, v2)], []) (T, h) y :=
  jloop_sound (G := fun s : Int => jEv xs d (46, 7, [(2, Int.ofNat o0), (2, Int.ofNat o1), (0, s)], []) (T, h) y) (K := yk_FR_anyBehind_L7 T xs d y h o0 o1) (fun s out H HY => t_FR_anyBehind_B7 hd ho0 ho1 H HY) (fun s' hg => hg) (s := (v2)) H HY
set_option maxRecDepth 20000 in
noncomputable def FR_anyBehind  (h : jH) (o0 : Nat) (o1 : Nat) : Option Int := FR_anyBehind_L7 h o0 o1 (wr ((h o0 3) + 1))
set_option maxRecDepth 20000 in
theorem t_FR_anyBehind {T : jT} {xs : List Int} {h : jH}  {o0 : Nat} {o1 : Nat} {out : Int} (ho0 : isX3 T o0) (ho1 : isX0 T o1) (H : FR_anyBehind h o0 o1 = some out) : jEm xs 3 46 [(2, Int.ofNat o0), (2, Int.ofNat o1)] (T, h) ((0, out), (T, h)) := by
  have hd : 2 ≤ 2 := Nat.le_refl _
  obtain ⟨y, ey⟩ : ∃ y : jV × jS, y = ((0, out), (T, h)) := ⟨_, rfl⟩
  rw [← ey]
  have HY : ykIp T h y out := ey
  refine jEm.ent (n := 3) (by decide +kernel) (Nat.le_of_ble_eq_true rfl) ?_
  show jEv xs 2 (46, 0, [(2, Int.ofNat o0), (2, Int.ofNat o1), (3, 0)], []) (T, h) y
  unfold FR_anyBehind at H
  refine jEv.blk [(.aload_n 0, 1, [])] (by decide +kernel) (pc' := 1) (ls' := [(2, Int.ofNat o0), (2, Int.ofNat o1), (3, 0)]) (st' := [(2, Int.ofNat o0)]) rfl ?_
  refine jEv.gfI (show jfI 46 1 (.getfield 24) 3 [3, 3, 0, 0, 2172] = true by decide +kernel) (isX3_L ho0) (by decide) ?_
  refine jEv.blk [(.iconst 1, 1, []), (.iadd, 1, []), (.istore_n 2, 1, [])] (by decide +kernel) (pc' := 7) (ls' := [(2, Int.ofNat o0), (2, Int.ofNat o1), (0, (wr ((h o0 3) + 1)))]) (st' := []) rfl ?_
  exact t_FR_anyBehind_L7 (T := T) (xs := xs) (y := y) hd ho0 ho1 H HY
set_option maxRecDepth 20000 in
noncomputable def Pa_begin  (h : jH) (o0 : Nat) (r1 : Nat) (n1 : Nat) (v2 : Int) : Option jH := some (jup (jup (jup (jup (jup (jup h o0 5 (Int.ofNat r1)) o0 6 (min v2 ((n1 : Nat) : Int))) o0 7 0) o0 8 (-1)) o0 3 0) o0 4 (-1))
set_option maxRecDepth 20000 in
theorem t_Pa_begin {T : jT} {xs : List Int} {h : jH}  {o0 : Nat} {r1 : Nat} {n1 : Nat} {v2 : Int} {out : jH} (ho0 : isX4 T o0) (hr1 : T.1[r1]? = some (20, n1)) (H : Pa_begin h o0 r1 n1 v2 = some out) : jEm xs 2 49 [(2, Int.ofNat o0), (2, Int.ofNat r1), (0, v2)] (T, h) ((3, 0), (T, out)) := by
  have hd : 1 ≤ 1 := Nat.le_refl _
  obtain ⟨y, ey⟩ : ∃ y : jV × jS, y = ((3, 0), (T, out)) := ⟨_, rfl⟩
  rw [← ey]
  have HY : ykV T y out := ey
  refine jEm.ent (n := 3) (by decide +kernel) (Nat.le_of_ble_eq_true rfl) ?_
  show jEv xs 1 (49, 0, [(2, Int.ofNat o0), (2, Int.ofNat r1), (0, v2)], []) (T, h) y
  unfold Pa_begin at H
  refine jEv.blk [(.aload_n 0, 1, []), (.aload_n 1, 1, [])] (by decide +kernel) (pc' := 2) (ls' := [(2, Int.ofNat o0), (2, Int.ofNat r1), (0, v2)]) (st' := [(2, Int.ofNat r1), (2, Int.ofNat o0)]) rfl ?_
  refine jEv.pfD (show jfI 49 2 (.putfield 29) 3 [4, 5, 2, 0, 1136] = true by decide +kernel) (isX4_L ho0) (by decide) ?_
  refine jEv.blk [(.aload_n 0, 1, []), (.iload_n 2, 1, []), (.aload_n 1, 1, [])] (by decide +kernel) (pc' := 8) (ls' := [(2, Int.ofNat o0), (2, Int.ofNat r1), (0, v2)]) (st' := [(2, Int.ofNat r1), (0, v2), (2, Int.ofNat o0)]) rfl ?_
  refine jEv.alen (show jfI 49 8 (.arraylength) 1 [] = true by decide +kernel) hr1 (by decide) ?_
  refine jEv.calS (st' := [(0, (min v2 ((n1 : Nat) : Int))), (2, Int.ofNat o0)]) (show jfI 49 9 (.invokestatic 84) 3 [3, 360, 2, 3104] = true by decide +kernel) rfl (Or.inl rfl) rfl (Nat.le_of_ble_eq_true rfl) ((t_JMath_min_0 (T := T) (xs := xs)).mono (jKle 1 hd)) rfl ?_
  refine jEv.pfI (show jfI 49 12 (.putfield 90) 3 [4, 6, 0, 0, 1137] = true by decide +kernel) (isX4_L ho0) (by decide) ?_
  refine jEv.blk [(.aload_n 0, 1, []), (.iconst 0, 1, [])] (by decide +kernel) (pc' := 17) (ls' := [(2, Int.ofNat o0), (2, Int.ofNat r1), (0, v2)]) (st' := [(0, 0), (2, Int.ofNat o0)]) rfl ?_
  refine jEv.pfI (show jfI 49 17 (.putfield 58) 3 [4, 7, 0, 0, 1138] = true by decide +kernel) (isX4_L ho0) (by decide) ?_
  refine jEv.blk [(.aload_n 0, 1, []), (.iconst (-1), 1, [])] (by decide +kernel) (pc' := 22) (ls' := [(2, Int.ofNat o0), (2, Int.ofNat r1), (0, v2)]) (st' := [(0, (-1)), (2, Int.ofNat o0)]) rfl ?_
  refine jEv.pfI (show jfI 49 22 (.putfield 93) 3 [4, 8, 0, 0, 1139] = true by decide +kernel) (isX4_L ho0) (by decide) ?_
  refine jEv.blk [(.aload_n 0, 1, []), (.iconst 0, 1, [])] (by decide +kernel) (pc' := 27) (ls' := [(2, Int.ofNat o0), (2, Int.ofNat r1), (0, v2)]) (st' := [(0, 0), (2, Int.ofNat o0)]) rfl ?_
  refine jEv.pfI (show jfI 49 27 (.putfield 96) 3 [4, 3, 0, 0, 1132] = true by decide +kernel) (isX4_L ho0) (by decide) ?_
  refine jEv.blk [(.aload_n 0, 1, []), (.iconst (-1), 1, [])] (by decide +kernel) (pc' := 32) (ls' := [(2, Int.ofNat o0), (2, Int.ofNat r1), (0, v2)]) (st' := [(0, (-1)), (2, Int.ofNat o0)]) rfl ?_
  refine jEv.pfI (show jfI 49 32 (.putfield 25) 3 [4, 4, 0, 0, 1134] = true by decide +kernel) (isX4_L ho0) (by decide) ?_
  exact jEv.retV (show jfI 49 35 (.return_) 1 [] = true by decide +kernel) (by decide +kernel) (by cases H; exact HY)
def yk_Pa_peek_L0 (T : jT) (xs : List Int) (d : Nat) (y : jV × jS)  (o0 : Nat) : (jH ⊕ (Int × jH)) → Prop
  | .inl h => jEv xs d (53, 0, [(2, Int.ofNat o0)], []) (T, h) y
  | .inr o => ykI T y o
set_option maxRecDepth 20000 in
noncomputable def Pa_peek_p113 (T : jT) (h : jH)  : Option (Int × jH) := some ((-1), h)
set_option maxRecDepth 20000 in
theorem t_Pa_peek_p113 {T : jT} {xs : List Int} {d : Nat} {y : jV × jS} (hd : 0 ≤ d) {h : jH}   {out : (Int × jH)}  (H : Pa_peek_p113 T h = some out) (HY : ykI T y out) : jEv xs d (53, 113, [(3, 0)], []) (T, h) y := by
  unfold Pa_peek_p113 at H
  refine jEv.blk [(.iconst (-1), 1, [])] (by decide +kernel) (pc' := 114) (ls' := [(3, 0)]) (st' := [(0, (-1))]) rfl ?_
  exact jEv.retI (show jfI 53 114 (.ireturn) 1 [] = true by decide +kernel) (by decide +kernel) (by cases H; exact HY)
set_option maxRecDepth 20000 in
noncomputable def Pa_peek_p71 (T : jT) (h : jH) (o0 : Nat) : Option (Int × jH) := (if (h o0 7) < 0 then Pa_peek_p113 T h else (if (h o0 7) < (h o0 6) then Option.bind (jdyn (jIsA T) (h o0 5)) (fun q13 => (if (h o0 7) < (((T.1.getD q13 (0, 0)).2 : Nat) : Int) then Option.bind (jdyn (jIsA T) (h o0 5)) (fun q15 => (if (0 : Int) ≤ (h o0 7) ∧ ((h o0 7) : Int).toNat < (T.1.getD q15 (0, 0)).2 then some ((h q15 ((h o0 7) : Int).toNat), h) else none)) else Pa_peek_p113 T h)) else Pa_peek_p113 T h))
set_option maxRecDepth 20000 in
theorem t_Pa_peek_p71 {T : jT} {xs : List Int} {d : Nat} {y : jV × jS} (hd : 0 ≤ d) {h : jH}  {o0 : Nat} {out : (Int × jH)} (ho0 : isX4 T o0) (H : Pa_peek_p71 T h o0 = some out) (HY : ykI T y out) : jEv xs d (53, 71, [(2, Int.ofNat o0)], []) (T, h) y := by
  unfold Pa_peek_p71 at H
  refine jEv.blk [(.aload_n 0, 1, [])] (by decide +kernel) (pc' := 72) (ls' := [(2, Int.ofNat o0)]) (st' := [(2, Int.ofNat o0)]) rfl ?_
  refine jEv.gfI (show jfI 53 72 (.getfield 58) 3 [4, 7, 0, 0, 1138] = true by decide +kernel) (isX4_L ho0) (by decide) ?_
  refine jEv.if_lt (t := 113) (show jfI 53 75 (.ifCond .lt 38) 3 [] = true by decide +kernel) rfl H (fun c11 H => ?_) (fun c11 H => ?_)
  · exact jEv.weak (a := [(3, 0)]) (jles.c0 jles.nl) (t_Pa_peek_p113 (T := T) (xs := xs) (y := y) hd H HY)
  · refine jEv.blk [(.aload_n 0, 1, [])] (by decide +kernel) (pc' := 79) (ls' := [(2, Int.ofNat o0)]) (st' := [(2, Int.ofNat o0)]) rfl ?_
    refine jEv.gfI (show jfI 53 79 (.getfield 58) 3 [4, 7, 0, 0, 1138] = true by decide +kernel) (isX4_L ho0) (by decide) ?_
    refine jEv.blk [(.aload_n 0, 1, [])] (by decide +kernel) (pc' := 83) (ls' := [(2, Int.ofNat o0)]) (st' := [(2, Int.ofNat o0), (0, (h o0 7))]) rfl ?_
    refine jEv.gfI (show jfI 53 83 (.getfield 90) 3 [4, 6, 0, 0, 1137] = true by decide +kernel) (isX4_L ho0) (by decide) ?_
    refine jEv.ic_ge (t := 113) (show jfI 53 86 (.if_icmp .ge 27) 3 [] = true by decide +kernel) rfl H (fun c12 H => ?_) (fun c12 H => ?_)
    · refine jEv.blk [(.aload_n 0, 1, [])] (by decide +kernel) (pc' := 90) (ls' := [(2, Int.ofNat o0)]) (st' := [(2, Int.ofNat o0)]) rfl ?_
      refine jEv.gfI (show jfI 53 90 (.getfield 58) 3 [4, 7, 0, 0, 1138] = true by decide +kernel) (isX4_L ho0) (by decide) ?_
      refine jEv.blk [(.aload_n 0, 1, [])] (by decide +kernel) (pc' := 94) (ls' := [(2, Int.ofNat o0)]) (st' := [(2, Int.ofNat o0), (0, (h o0 7))]) rfl ?_
      refine jEv.gfD (show jfI 53 94 (.getfield 29) 3 [4, 5, 2, 0, 1136] = true by decide +kernel) (isX4_L ho0) (by decide) H (fun q13 hq13 H => ?_)
      refine jEv.alen (show jfI 53 97 (.arraylength) 1 [] = true by decide +kernel) (jIsA_at hq13) (by decide) ?_
      refine jEv.ic_ge (t := 113) (show jfI 53 98 (.if_icmp .ge 15) 3 [] = true by decide +kernel) rfl H (fun c14 H => ?_) (fun c14 H => ?_)
      · refine jEv.blk [(.aload_n 0, 1, [])] (by decide +kernel) (pc' := 102) (ls' := [(2, Int.ofNat o0)]) (st' := [(2, Int.ofNat o0)]) rfl ?_
        refine jEv.gfD (show jfI 53 102 (.getfield 29) 3 [4, 5, 2, 0, 1136] = true by decide +kernel) (isX4_L ho0) (by decide) H (fun q15 hq15 H => ?_)
        refine jEv.blk [(.aload_n 0, 1, [])] (by decide +kernel) (pc' := 106) (ls' := [(2, Int.ofNat o0)]) (st' := [(2, Int.ofNat o0), (2, Int.ofNat q15)]) rfl ?_
        refine jEv.gfI (show jfI 53 106 (.getfield 58) 3 [4, 7, 0, 0, 1138] = true by decide +kernel) (isX4_L ho0) (by decide) ?_
        refine jEv.ald (Or.inl ⟨rfl, rfl, rfl⟩) (show jfI 53 109 (.iaload) 1 [] = true by decide +kernel) (jIsA_at hq15) H (fun c16 H => ?_)
        refine jEv.goto (t := 114) (show jfI 53 110 (.goto 4) 3 [] = true by decide +kernel) rfl ?_
        exact jEv.retI (show jfI 53 114 (.ireturn) 1 [] = true by decide +kernel) (by decide +kernel) (by cases H; exact HY)
      · exact jEv.weak (a := [(3, 0)]) (jles.c0 jles.nl) (t_Pa_peek_p113 (T := T) (xs := xs) (y := y) hd H HY)
    · exact jEv.weak (a := [(3, 0)]) (jles.c0 jles.nl) (t_Pa_peek_p113 (T := T) (xs := xs) (y := y) hd H HY)
set_option maxRecDepth 20000 in
noncomputable def Pa_peek_p58 (T : jT) (h : jH) (o0 : Nat) : Option (jH ⊕ (Int × jH)) := some (.inl ((jup h o0 7 (wr ((h o0 7) + 1)))))
set_option maxRecDepth 20000 in
theorem t_Pa_peek_p58 {T : jT} {xs : List Int} {d : Nat} {y : jV × jS} (hd : 0 ≤ d) {h : jH}  {o0 : Nat} {out : (jH ⊕ (Int × jH))} (ho0 : isX4 T o0) (H : Pa_peek_p58 T h o0 = some out) (HY : yk_Pa_peek_L0 T xs d y o0 out) : jEv xs d (53, 58, [(2, Int.ofNat o0)], []) (T, h) y := by
  unfold Pa_peek_p58 at H
  refine jEv.blk [(.aload_n 0, 1, []), (.dup, 1, [])] (by decide +kernel) (pc' := 60) (ls' := [(2, Int.ofNat o0)]) (st' := [(2, Int.ofNat o0), (2, Int.ofNat o0)]) rfl ?_
  refine jEv.gfI (show jfI 53 60 (.getfield 58) 3 [4, 7, 0, 0, 1138] = true by decide +kernel) (isX4_L ho0) (by decide) ?_
  refine jEv.blk [(.iconst 1, 1, []), (.iadd, 1, [])] (by decide +kernel) (pc' := 65) (ls' := [(2, Int.ofNat o0)]) (st' := [(0, (wr ((h o0 7) + 1))), (2, Int.ofNat o0)]) rfl ?_
  refine jEv.pfI (show jfI 53 65 (.putfield 58) 3 [4, 7, 0, 0, 1138] = true by decide +kernel) (isX4_L ho0) (by decide) ?_
  refine jEv.goto (t := 0) (show jfI 53 68 (.goto (-68)) 3 [] = true by decide +kernel) rfl ?_
  exact (by cases H; exact HY)
set_option maxRecDepth 20000 in
noncomputable def Pa_peek_B0 (T : jT) (h : jH) (o0 : Nat) : Option (jH ⊕ (Int × jH)) := (if (h o0 7) < 0 then Option.map Sum.inr (Pa_peek_p71 T h o0) else (if (h o0 7) < (h o0 6) then Option.bind (jdyn (jIsA T) (h o0 5)) (fun q3 => (if (h o0 7) < (((T.1.getD q3 (0, 0)).2 : Nat) : Int) then Option.bind (jdyn (jIsA T) (h o0 5)) (fun q5 => (if (0 : Int) ≤ (h o0 7) ∧ ((h o0 7) : Int).toNat < (T.1.getD q5 (0, 0)).2 then (if (h q5 ((h o0 7) : Int).toNat) = 32 then Pa_peek_p58 T h o0 else Option.bind (jdyn (jIsA T) (h o0 5)) (fun q8 => (if (0 : Int) ≤ (h o0 7) ∧ ((h o0 7) : Int).toNat < (T.1.getD q8 (0, 0)).2 then (if (h q8 ((h o0 7) : Int).toNat) = 10 then Pa_peek_p58 T h o0 else Option.map Sum.inr (Pa_peek_p71 T h o0)) else none))) else none)) else Option.map Sum.inr (Pa_peek_p71 T h o0))) else Option.map Sum.inr (Pa_peek_p71 T h o0)))
noncomputable def Pa_peek_L0 (T : jT) (h : jH) (o0 : Nat) : Option (Int × jH) := jloop (fun s : jH => Pa_peek_B0 T s o0) (h)
set_option maxRecDepth 20000 in
theorem t_Pa_peek_B0 {T : jT} {xs : List Int} {d : Nat} {y : jV × jS} (hd : 0 ≤ d) {h : jH}  {o0 : Nat} {out : (jH ⊕ (Int × jH))} (ho0 : isX4 T o0) (H : Pa_peek_B0 T h o0 = some out) (HY : yk_Pa_peek_L0 T xs d y o0 out) : jEv xs d (53, 0, [(2, Int.ofNat o0)], []) (T, h) y := by
  unfold Pa_peek_B0 at H
  refine jEv.blk [(.aload_n 0, 1, [])] (by decide +kernel) (pc' := 1) (ls' := [(2, Int.ofNat o0)]) (st' := [(2, Int.ofNat o0)]) rfl ?_
  refine jEv.gfI (show jfI 53 1 (.getfield 58) 3 [4, 7, 0, 0, 1138] = true by decide +kernel) (isX4_L ho0) (by decide) ?_
  refine jEv.if_lt (t := 71) (show jfI 53 4 (.ifCond .lt 67) 3 [] = true by decide +kernel) rfl H (fun c1 H => ?_) (fun c1 H => ?_)
  · refine jmapr H HY (fun out H (HY : ykI T y out) => ?_)
    exact t_Pa_peek_p71 (T := T) (xs := xs) (y := y) hd ho0 H HY
  · refine jEv.blk [(.aload_n 0, 1, [])] (by decide +kernel) (pc' := 8) (ls' := [(2, Int.ofNat o0)]) (st' := [(2, Int.ofNat o0)]) rfl ?_
    refine jEv.gfI (show jfI 53 8 (.getfield 58) 3 [4, 7, 0, 0, 1138] = true by decide +kernel) (isX4_L ho0) (by decide) ?_
    refine jEv.blk [(.aload_n 0, 1, [])] (by decide +kernel) (pc' := 12) (ls' := [(2, Int.ofNat o0)]) (st' := [(2, Int.ofNat o0), (0, (h o0 7))]) rfl ?_
    refine jEv.gfI (show jfI 53 12 (.getfield 90) 3 [4, 6, 0, 0, 1137] = true by decide +kernel) (isX4_L ho0) (by decide) ?_
    refine jEv.ic_ge (t := 71) (show jfI 53 15 (.if_icmp .ge 56) 3 [] = true by decide +kernel) rfl H (fun c2 H => ?_) (fun c2 H => ?_)
    · refine jEv.blk [(.aload_n 0, 1, [])] (by decide +kernel) (pc' := 19) (ls' := [(2, Int.ofNat o0)]) (st' := [(2, Int.ofNat o0)]) rfl ?_
      refine jEv.gfI (show jfI 53 19 (.getfield 58) 3 [4, 7, 0, 0, 1138] = true by decide +kernel) (isX4_L ho0) (by decide) ?_
      refine jEv.blk [(.aload_n 0, 1, [])] (by decide +kernel) (pc' := 23) (ls' := [(2, Int.ofNat o0)]) (st' := [(2, Int.ofNat o0), (0, (h o0 7))]) rfl ?_
      refine jEv.gfD (show jfI 53 23 (.getfield 29) 3 [4, 5, 2, 0, 1136] = true by decide +kernel) (isX4_L ho0) (by decide) H (fun q3 hq3 H => ?_)
      refine jEv.alen (show jfI 53 26 (.arraylength) 1 [] = true by decide +kernel) (jIsA_at hq3) (by decide) ?_
      refine jEv.ic_ge (t := 71) (show jfI 53 27 (.if_icmp .ge 44) 3 [] = true by decide +kernel) rfl H (fun c4 H => ?_) (fun c4 H => ?_)
      · refine jEv.blk [(.aload_n 0, 1, [])] (by decide +kernel) (pc' := 31) (ls' := [(2, Int.ofNat o0)]) (st' := [(2, Int.ofNat o0)]) rfl ?_
        refine jEv.gfD (show jfI 53 31 (.getfield 29) 3 [4, 5, 2, 0, 1136] = true by decide +kernel) (isX4_L ho0) (by decide) H (fun q5 hq5 H => ?_)
        refine jEv.blk [(.aload_n 0, 1, [])] (by decide +kernel) (pc' := 35) (ls' := [(2, Int.ofNat o0)]) (st' := [(2, Int.ofNat o0), (2, Int.ofNat q5)]) rfl ?_
        refine jEv.gfI (show jfI 53 35 (.getfield 58) 3 [4, 7, 0, 0, 1138] = true by decide +kernel) (isX4_L ho0) (by decide) ?_
        refine jEv.ald (Or.inl ⟨rfl, rfl, rfl⟩) (show jfI 53 38 (.iaload) 1 [] = true by decide +kernel) (jIsA_at hq5) H (fun c6 H => ?_)
        refine jEv.blk [(.bipush 32, 2, [])] (by decide +kernel) (pc' := 41) (ls' := [(2, Int.ofNat o0)]) (st' := [(0, 32), (0, (h q5 ((h o0 7) : Int).toNat))]) rfl ?_
        refine jEv.ic_eq (t := 58) (show jfI 53 41 (.if_icmp .eq 17) 3 [] = true by decide +kernel) rfl H (fun c7 H => ?_) (fun c7 H => ?_)
        · exact t_Pa_peek_p58 (T := T) (xs := xs) (y := y) hd ho0 H HY
        · refine jEv.blk [(.aload_n 0, 1, [])] (by decide +kernel) (pc' := 45) (ls' := [(2, Int.ofNat o0)]) (st' := [(2, Int.ofNat o0)]) rfl ?_
          refine jEv.gfD (show jfI 53 45 (.getfield 29) 3 [4, 5, 2, 0, 1136] = true by decide +kernel) (isX4_L ho0) (by decide) H (fun q8 hq8 H => ?_)
          refine jEv.blk [(.aload_n 0, 1, [])] (by decide +kernel) (pc' := 49) (ls' := [(2, Int.ofNat o0)]) (st' := [(2, Int.ofNat o0), (2, Int.ofNat q8)]) rfl ?_
          refine jEv.gfI (show jfI 53 49 (.getfield 58) 3 [4, 7, 0, 0, 1138] = true by decide +kernel) (isX4_L ho0) (by decide) ?_
          refine jEv.ald (Or.inl ⟨rfl, rfl, rfl⟩) (show jfI 53 52 (.iaload) 1 [] = true by decide +kernel) (jIsA_at hq8) H (fun c9 H => ?_)
          refine jEv.blk [(.bipush 10, 2, [])] (by decide +kernel) (pc' := 55) (ls' := [(2, Int.ofNat o0)]) (st' := [(0, 10), (0, (h q8 ((h o0 7) : Int).toNat))]) rfl ?_
          refine jEv.ic_ne (t := 71) (show jfI 53 55 (.if_icmp .ne 16) 3 [] = true by decide +kernel) rfl H (fun c10 H => ?_) (fun c10 H => ?_)
          · exact t_Pa_peek_p58 (T := T) (xs := xs) (y := y) hd ho0 H HY
          · refine jmapr H HY (fun out H (HY : ykI T y out) => ?_)
            exact t_Pa_peek_p71 (T := T) (xs := xs) (y := y) hd ho0 H HY
      · refine jmapr H HY (fun out H (HY : ykI T y out) => ?_)
        exact t_Pa_peek_p71 (T := T) (xs := xs) (y := y) hd ho0 H HY
    · refine jmapr H HY (fun out H (HY : ykI T y out) => ?_)
      exact t_Pa_peek_p71 (T := T) (xs := xs) (y := y) hd ho0 H HY
theorem t_Pa_peek_L0 {T : jT} {xs : List Int} {d : Nat} {y : jV × jS} (hd : 0 ≤ d) {h : jH}  {o0 : Nat} {out : (Int × jH)} (ho0 : isX4 T o0) (H : Pa_peek_L0 T h o0 = some out) (HY : ykI T y out) : jEv xs d (53, 0, [(2, Int.ofNat o0)], []) (T, h) y :=
  jloop_sound (G := fun s : jH => jEv xs d (53, 0, [(2, Int.ofNat o0)], []) (T, s) y) (K := yk_Pa_peek_L0 T xs d y o0) (fun s out H HY => t_Pa_peek_B0 hd ho0 H HY) (fun s' hg => hg) (s := (h)) H HY
set_option maxRecDepth 20000 in
noncomputable def Pa_peek (T : jT) (h : jH) (o0 : Nat) : Option (Int × jH) := Pa_peek_L0 T h o0
set_option maxRecDepth 20000 in
theorem t_Pa_peek {T : jT} {xs : List Int} {h : jH}  {o0 : Nat} {out : (Int × jH)} (ho0 : isX4 T o0) (H : Pa_peek T h o0 = some out) : jEm xs 1 53 [(2, Int.ofNat o0)] (T, h) ((0, out.1), (T, out.2)) := by
  have hd : 0 ≤ 0 := Nat.le_refl _
  obtain ⟨y, ey⟩ : ∃ y : jV × jS, y = ((0, out.1), (T, out.2)) := ⟨_, rfl⟩
  rw [← ey]
  have HY : ykI T y out := ey
  refine jEm.ent (n := 1) (by decide +kernel) (Nat.le_of_ble_eq_true rfl) ?_
  show jEv xs 0 (53, 0, [(2, Int.ofNat o0)], []) (T, h) y
  unfold Pa_peek at H
  exact t_Pa_peek_L0 (T := T) (xs := xs) (y := y) hd ho0 H HY
set_option maxRecDepth 20000 in
noncomputable def Pa_octetAt_p30 (T : jT) (h : jH)  : Option Int := some (-1)
set_option maxRecDepth 20000 in
theorem t_Pa_octetAt_p30 {T : jT} {xs : List Int} {d : Nat} {y : jV × jS} (hd : 0 ≤ d) {h : jH}   {out : Int}  (H : Pa_octetAt_p30 T h = some out) (HY : ykIp T h y out) : jEv xs d (54, 30, [(3, 0), (3, 0)], []) (T, h) y := by
  unfold Pa_octetAt_p30 at H
  refine jEv.blk [(.iconst (-1), 1, [])] (by decide +kernel) (pc' := 31) (ls' := [(3, 0), (3, 0)]) (st' := [(0, (-1))]) rfl ?_
  exact jEv.retI (show jfI 54 31 (.ireturn) 1 [] = true by decide +kernel) (by decide +kernel) (by cases H; exact HY)
set_option maxRecDepth 20000 in
noncomputable def Pa_octetAt (T : jT) (h : jH) (o0 : Nat) (v1 : Int) : Option Int := (if v1 < 0 then Pa_octetAt_p30 T h else (if v1 < (h o0 6) then Option.bind (jdyn (jIsA T) (h o0 5)) (fun q3 => (if v1 < (((T.1.getD q3 (0, 0)).2 : Nat) : Int) then Option.bind (jdyn (jIsA T) (h o0 5)) (fun q5 => (if (0 : Int) ≤ v1 ∧ (v1 : Int).toNat < (T.1.getD q5 (0, 0)).2 then some (h q5 (v1 : Int).toNat) else none)) else Pa_octetAt_p30 T h)) else Pa_octetAt_p30 T h))
set_option maxRecDepth 20000 in
theorem t_Pa_octetAt {T : jT} {xs : List Int} {h : jH}  {o0 : Nat} {v1 : Int} {out : Int} (ho0 : isX4 T o0) (H : Pa_octetAt T h o0 v1 = some out) : jEm xs 1 54 [(2, Int.ofNat o0), (0, v1)] (T, h) ((0, out), (T, h)) := by
  have hd : 0 ≤ 0 := Nat.le_refl _
  obtain ⟨y, ey⟩ : ∃ y : jV × jS, y = ((0, out), (T, h)) := ⟨_, rfl⟩
  rw [← ey]
  have HY : ykIp T h y out := ey
  refine jEm.ent (n := 2) (by decide +kernel) (Nat.le_of_ble_eq_true rfl) ?_
  show jEv xs 0 (54, 0, [(2, Int.ofNat o0), (0, v1)], []) (T, h) y
  unfold Pa_octetAt at H
  refine jEv.blk [(.iload_n 1, 1, [])] (by decide +kernel) (pc' := 1) (ls' := [(2, Int.ofNat o0), (0, v1)]) (st' := [(0, v1)]) rfl ?_
  refine jEv.if_lt (t := 30) (show jfI 54 1 (.ifCond .lt 29) 3 [] = true by decide +kernel) rfl H (fun c1 H => ?_) (fun c1 H => ?_)
  · exact jEv.weak (a := [(3, 0), (3, 0)]) (jles.c0 (jles.c0 jles.nl)) (t_Pa_octetAt_p30 (T := T) (xs := xs) (y := y) hd H HY)
  · refine jEv.blk [(.iload_n 1, 1, []), (.aload_n 0, 1, [])] (by decide +kernel) (pc' := 6) (ls' := [(2, Int.ofNat o0), (0, v1)]) (st' := [(2, Int.ofNat o0), (0, v1)]) rfl ?_
    refine jEv.gfI (show jfI 54 6 (.getfield 90) 3 [4, 6, 0, 0, 1137] = true by decide +kernel) (isX4_L ho0) (by decide) ?_
    refine jEv.ic_ge (t := 30) (show jfI 54 9 (.if_icmp .ge 21) 3 [] = true by decide +kernel) rfl H (fun c2 H => ?_) (fun c2 H => ?_)
    · refine jEv.blk [(.iload_n 1, 1, []), (.aload_n 0, 1, [])] (by decide +kernel) (pc' := 14) (ls' := [(2, Int.ofNat o0), (0, v1)]) (st' := [(2, Int.ofNat o0), (0, v1)]) rfl ?_
      refine jEv.gfD (show jfI 54 14 (.getfield 29) 3 [4, 5, 2, 0, 1136] = true by decide +kernel) (isX4_L ho0) (by decide) H (fun q3 hq3 H => ?_)
      refine jEv.alen (show jfI 54 17 (.arraylength) 1 [] = true by decide +kernel) (jIsA_at hq3) (by decide) ?_
      refine jEv.ic_ge (t := 30) (show jfI 54 18 (.if_icmp .ge 12) 3 [] = true by decide +kernel) rfl H (fun c4 H => ?_) (fun c4 H => ?_)
      · refine jEv.blk [(.aload_n 0, 1, [])] (by decide +kernel) (pc' := 22) (ls' := [(2, Int.ofNat o0), (0, v1)]) (st' := [(2, Int.ofNat o0)]) rfl ?_
        refine jEv.gfD (show jfI 54 22 (.getfield 29) 3 [4, 5, 2, 0, 1136] = true by decide +kernel) (isX4_L ho0) (by decide) H (fun q5 hq5 H => ?_)
        refine jEv.blk [(.iload_n 1, 1, [])] (by decide +kernel) (pc' := 26) (ls' := [(2, Int.ofNat o0), (0, v1)]) (st' := [(0, v1), (2, Int.ofNat q5)]) rfl ?_
        refine jEv.ald (Or.inl ⟨rfl, rfl, rfl⟩) (show jfI 54 26 (.iaload) 1 [] = true by decide +kernel) (jIsA_at hq5) H (fun c6 H => ?_)
        refine jEv.goto (t := 31) (show jfI 54 27 (.goto 4) 3 [] = true by decide +kernel) rfl ?_
        exact jEv.retI (show jfI 54 31 (.ireturn) 1 [] = true by decide +kernel) (by decide +kernel) (by cases H; exact HY)
      · exact jEv.weak (a := [(3, 0), (3, 0)]) (jles.c0 (jles.c0 jles.nl)) (t_Pa_octetAt_p30 (T := T) (xs := xs) (y := y) hd H HY)
    · exact jEv.weak (a := [(3, 0), (3, 0)]) (jles.c0 (jles.c0 jles.nl)) (t_Pa_octetAt_p30 (T := T) (xs := xs) (y := y) hd H HY)
def yk_Pa_word_L72 (T : jT) (xs : List Int) (d : Nat) (y : jV × jS) (h : jH) (z1 : Int) (o0 : Nat) (l1 : List Int) (v2 : Int) : (Int ⊕ (Int × jH)) → Prop
  | .inl v3 => jEv xs d (52, 72, [(2, Int.ofNat o0), (4, z1), (0, v2), (0, v3)], []) (T, h) y
  | .inr o => ykI T y o
def yk_Pa_word_L10 (T : jT) (xs : List Int) (d : Nat) (y : jV × jS) (h : jH) (z1 : Int) (o0 : Nat) (l1 : List Int) : (Int ⊕ (Int × jH)) → Prop
  | .inl v2 => jEv xs d (52, 10, [(2, Int.ofNat o0), (4, z1), (0, v2), (3, 0)], []) (T, h) y
  | .inr o => ykI T y o
set_option maxRecDepth 20000 in
noncomputable def Pa_word_B72 (T : jT) (h : jH) (o0 : Nat) (l1 : List Int) (v2 : Int) (v3 : Int) : Option (Int ⊕ (Int × jH)) := (if v3 < ((l1).length : Int) then Option.bind (Pa_octetAt T h o0 (wr ((h o0 7) + v3))) (fun b10 => (if (0 : Int) ≤ v3 ∧ (v3 : Int).toNat < (l1).length then (if b10 = ((l1).getD (v3 : Int).toNat 0) then some (.inl ((wr (v3 + 1)))) else Option.map Sum.inr (some (0, h))) else none)) else Option.map Sum.inr (some (1, (jup (jup h o0 7 v2) o0 8 v2))))
noncomputable def Pa_word_L72 (T : jT) (h : jH) (o0 : Nat) (l1 : List Int) (v2 : Int) (v3 : Int) : Option (Int × jH) := jloop (fun s : Int => Pa_word_B72 T h o0 l1 v2 s) (v3)
set_option maxRecDepth 20000 in
theorem t_Pa_word_B72 {T : jT} {xs : List Int} {d : Nat} {y : jV × jS} (hd : 4 ≤ d) {h : jH} {z1 : Int} {o0 : Nat} {l1 : List Int} {v2 : Int} {v3 : Int} {out : (Int ⊕ (Int × jH))} (ho0 : isX4 T o0) (hs1 : jIsS z1 l1) (H : Pa_word_B72 T h o0 l1 v2 v3 = some out) (HY : yk_Pa_word_L72 T xs d y h z1 o0 l1 v2 out) : jEv xs d (52, 72, [(2, Int.ofNat o0), (4, z1), (0, v2), (0, v3)], []) (T, h) y := by
  unfold Pa_word_B72 at H
  refine jEv.blk [(.iload_n 3, 1, []), (.aload_n 1, 1, [])] (by decide +kernel) (pc' := 74) (ls' := [(2, Int.ofNat o0), (4, z1), (0, v2), (0, v3)]) (st' := [(4, z1), (0, v3)]) rfl ?_
  refine jEv.calX (st' := [(0, ((l1).length : Int)), (0, v3)]) (show jfI 52 74 (.invokevirtual 106) 3 [1, 361, 0, 3145] = true by decide +kernel) rfl rfl rfl (Nat.le_of_ble_eq_true rfl) (by decide +kernel) (jIsS_in hs1) ((t_JStr_length (xs := xs) hs1).mono (jKle 2 hd)) rfl ?_
  refine jEv.ic_ge (t := 106) (show jfI 52 77 (.if_icmp .ge 29) 3 [] = true by decide +kernel) rfl H (fun c9 H => ?_) (fun c9 H => ?_)
  · refine jEv.blk [(.aload_n 0, 1, []), (.aload_n 0, 1, [])] (by decide +kernel) (pc' := 82) (ls' := [(2, Int.ofNat o0), (4, z1), (0, v2), (0, v3)]) (st' := [(2, Int.ofNat o0), (2, Int.ofNat o0)]) rfl ?_
    refine jEv.gfI (show jfI 52 82 (.getfield 58) 3 [4, 7, 0, 0, 1138] = true by decide +kernel) (isX4_L ho0) (by decide) ?_
    refine jEv.blk [(.iload_n 3, 1, []), (.iadd, 1, [])] (by decide +kernel) (pc' := 87) (ls' := [(2, Int.ofNat o0), (4, z1), (0, v2), (0, v3)]) (st' := [(0, (wr ((h o0 7) + v3))), (2, Int.ofNat o0)]) rfl ?_
    refine jbind H (fun b10 Hb10 H => ?_)
    refine jEv.calV (st' := [(0, b10)]) (show jfI 52 87 (.invokevirtual 102) 3 [1, 54, 1, 3141] = true by decide +kernel) rfl (Or.inl rfl) rfl (Nat.le_of_ble_eq_true rfl) (by decide +kernel) (by decide) (isX4_L ho0) ((t_Pa_octetAt (T := T) (xs := xs) ho0 Hb10).mono (jKle 1 hd)) rfl ?_
    refine jEv.blk [(.aload_n 1, 1, []), (.iload_n 3, 1, [])] (by decide +kernel) (pc' := 92) (ls' := [(2, Int.ofNat o0), (4, z1), (0, v2), (0, v3)]) (st' := [(0, v3), (4, z1), (0, b10)]) rfl ?_
    refine jchk H (fun c11 H => ?_)
    refine jEv.calX (st' := [(0, ((l1).getD (v3 : Int).toNat 0)), (0, b10)]) (show jfI 52 92 (.invokevirtual 110) 3 [1, 363, 1, 3155] = true by decide +kernel) rfl rfl rfl (Nat.le_of_ble_eq_true rfl) (by decide +kernel) (jIsS_in hs1) ((t_JStr_charAt (xs := xs) hs1 c11).mono (jKle 4 hd)) rfl ?_
    refine jEv.ic_eq (t := 100) (show jfI 52 95 (.if_icmp .eq 5) 3 [] = true by decide +kernel) rfl H (fun c12 H => ?_) (fun c12 H => ?_)
    · refine jEv.blk [(.iinc 3 1, 3, [])] (by decide +kernel) (pc' := 103) (ls' := [(2, Int.ofNat o0), (4, z1), (0, v2), (0, (wr (v3 + 1)))]) (st' := []) rfl ?_
      refine jEv.goto (t := 72) (show jfI 52 103 (.goto (-31)) 3 [] = true by decide +kernel) rfl ?_
      exact (by cases H; exact HY)
    · refine jmapr H HY (fun out H (HY : ykI T y out) => ?_)
      refine jEv.blk [(.iconst 0, 1, [])] (by decide +kernel) (pc' := 99) (ls' := [(2, Int.ofNat o0), (4, z1), (0, v2), (0, v3)]) (st' := [(0, 0)]) rfl ?_
      exact jEv.retZ (show jfI 52 99 (.ireturn) 1 [] = true by decide +kernel) (by decide +kernel) (by decide) (by cases H; exact HY)
  · refine jmapr H HY (fun out H (HY : ykI T y out) => ?_)
    refine jEv.blk [(.aload_n 0, 1, []), (.iload_n 2, 1, [])] (by decide +kernel) (pc' := 108) (ls' := [(2, Int.ofNat o0), (4, z1), (0, v2), (0, v3)]) (st' := [(0, v2), (2, Int.ofNat o0)]) rfl ?_
    refine jEv.pfI (show jfI 52 108 (.putfield 58) 3 [4, 7, 0, 0, 1138] = true by decide +kernel) (isX4_L ho0) (by decide) ?_
    refine jEv.blk [(.aload_n 0, 1, []), (.iload_n 2, 1, [])] (by decide +kernel) (pc' := 113) (ls' := [(2, Int.ofNat o0), (4, z1), (0, v2), (0, v3)]) (st' := [(0, v2), (2, Int.ofNat o0)]) rfl ?_
    refine jEv.pfI (show jfI 52 113 (.putfield 93) 3 [4, 8, 0, 0, 1139] = true by decide +kernel) (isX4_L ho0) (by decide) ?_
    refine jEv.blk [(.iconst 1, 1, [])] (by decide +kernel) (pc' := 117) (ls' := [(2, Int.ofNat o0), (4, z1), (0, v2), (0, v3)]) (st' := [(0, 1)]) rfl ?_
    exact jEv.retZ (show jfI 52 117 (.ireturn) 1 [] = true by decide +kernel) (by decide +kernel) (by decide) (by cases H; exact HY)
theorem t_Pa_word_L72 {T : jT} {xs : List Int} {d : Nat} {y : jV × jS} (hd : 4 ≤ d) {h : jH} {z1 : Int} {o0 : Nat} {l1 : List Int} {v2 : Int} {v3 : Int} {out : (Int × jH)} (ho0 : isX4 T o0) (hs1 : jIsS z1 l1) (H : Pa_word_L72 T h o0 l1 v2 v3 = some out) (HY : ykI T y out) : jEv xs d (52, 72, [(2, Int.ofNat o0), (4, z1), (0, v2), (0, v3)], []) (T, h) y :=
  jloop_sound (G := fun s : Int => jEv xs d (52, 72, [(2, Int.ofNat o0), (4, z1), (0, v2), (0, s)], []) (T, h) y) (K := yk_Pa_word_L72 T xs d y h z1 o0 l1 v2) (fun s out H HY => t_Pa_word_B72 hd ho0 hs1 H HY) (fun s' hg => hg) (s := (v3)) H HY
set_option maxRecDepth 20000 in
noncomputable def Pa_word_p44 (T : jT) (h : jH) (o0 : Nat) (l1 : List Int) (v2 : Int) : Option (Int × jH) := (if (h o0 7) = (h o0 8) then some (0, h) else (if (wr (v2 - (h o0 7))) = ((l1).length : Int) then Pa_word_L72 T h o0 l1 v2 0 else some (0, h)))
set_option maxRecDepth 20000 in
theorem t_Pa_word_p44 {T : jT} {xs : List Int} {d : Nat} {y : jV × jS} (hd : 4 ≤ d) {h : jH} {z1 : Int} {o0 : Nat} {l1 : List Int} {v2 : Int} {out : (Int × jH)} (ho0 : isX4 T o0) (hs1 : jIsS z1 l1) (H : Pa_word_p44 T h o0 l1 v2 = some out) (HY : ykI T y out) : jEv xs d (52, 44, [(2, Int.ofNat o0), (4, z1), (0, v2), (3, 0)], []) (T, h) y := by
  unfold Pa_word_p44 at H
  refine jEv.blk [(.aload_n 0, 1, [])] (by decide +kernel) (pc' := 45) (ls' := [(2, Int.ofNat o0), (4, z1), (0, v2), (3, 0)]) (st' := [(2, Int.ofNat o0)]) rfl ?_
  refine jEv.gfI (show jfI 52 45 (.getfield 58) 3 [4, 7, 0, 0, 1138] = true by decide +kernel) (isX4_L ho0) (by decide) ?_
  refine jEv.blk [(.aload_n 0, 1, [])] (by decide +kernel) (pc' := 49) (ls' := [(2, Int.ofNat o0), (4, z1), (0, v2), (3, 0)]) (st' := [(2, Int.ofNat o0), (0, (h o0 7))]) rfl ?_
  refine jEv.gfI (show jfI 52 49 (.getfield 93) 3 [4, 8, 0, 0, 1139] = true by decide +kernel) (isX4_L ho0) (by decide) ?_
  refine jEv.ic_eq (t := 68) (show jfI 52 52 (.if_icmp .eq 16) 3 [] = true by decide +kernel) rfl H (fun c7 H => ?_) (fun c7 H => ?_)
  · refine jEv.blk [(.iconst 0, 1, [])] (by decide +kernel) (pc' := 69) (ls' := [(2, Int.ofNat o0), (4, z1), (0, v2), (3, 0)]) (st' := [(0, 0)]) rfl ?_
    exact jEv.retZ (show jfI 52 69 (.ireturn) 1 [] = true by decide +kernel) (by decide +kernel) (by decide) (by cases H; exact HY)
  · refine jEv.blk [(.iload_n 2, 1, []), (.aload_n 0, 1, [])] (by decide +kernel) (pc' := 57) (ls' := [(2, Int.ofNat o0), (4, z1), (0, v2), (3, 0)]) (st' := [(2, Int.ofNat o0), (0, v2)]) rfl ?_
    refine jEv.gfI (show jfI 52 57 (.getfield 58) 3 [4, 7, 0, 0, 1138] = true by decide +kernel) (isX4_L ho0) (by decide) ?_
    refine jEv.blk [(.isub, 1, []), (.aload_n 1, 1, [])] (by decide +kernel) (pc' := 62) (ls' := [(2, Int.ofNat o0), (4, z1), (0, v2), (3, 0)]) (st' := [(4, z1), (0, (wr (v2 - (h o0 7))))]) rfl ?_
    refine jEv.calX (st' := [(0, ((l1).length : Int)), (0, (wr (v2 - (h o0 7))))]) (show jfI 52 62 (.invokevirtual 106) 3 [1, 361, 0, 3145] = true by decide +kernel) rfl rfl rfl (Nat.le_of_ble_eq_true rfl) (by decide +kernel) (jIsS_in hs1) ((t_JStr_length (xs := xs) hs1).mono (jKle 2 hd)) rfl ?_
    refine jEv.ic_eq (t := 70) (show jfI 52 65 (.if_icmp .eq 5) 3 [] = true by decide +kernel) rfl H (fun c8 H => ?_) (fun c8 H => ?_)
    · refine jEv.blk [(.iconst 0, 1, []), (.istore_n 3, 1, [])] (by decide +kernel) (pc' := 72) (ls' := [(2, Int.ofNat o0), (4, z1), (0, v2), (0, 0)]) (st' := []) rfl ?_
      exact t_Pa_word_L72 (T := T) (xs := xs) (y := y) hd ho0 hs1 H HY
    · refine jEv.blk [(.iconst 0, 1, [])] (by decide +kernel) (pc' := 69) (ls' := [(2, Int.ofNat o0), (4, z1), (0, v2), (3, 0)]) (st' := [(0, 0)]) rfl ?_
      exact jEv.retZ (show jfI 52 69 (.ireturn) 1 [] = true by decide +kernel) (by decide +kernel) (by decide) (by cases H; exact HY)
set_option maxRecDepth 20000 in
noncomputable def Pa_word_B10 (T : jT) (h : jH) (o0 : Nat) (l1 : List Int) (v2 : Int) : Option (Int ⊕ (Int × jH)) := (if v2 < (h o0 6) then Option.bind (Pa_octetAt T h o0 v2) (fun b3 => (if b3 < 97 then Option.map Sum.inr (Pa_word_p44 T h o0 l1 v2) else Option.bind (Pa_octetAt T h o0 v2) (fun b5 => (if 122 < b5 then Option.map Sum.inr (Pa_word_p44 T h o0 l1 v2) else some (.inl ((wr (v2 + 1)))))))) else Option.map Sum.inr (Pa_word_p44 T h o0 l1 v2))
noncomputable def Pa_word_L10 (T : jT) (h : jH) (o0 : Nat) (l1 : List Int) (v2 : Int) : Option (Int × jH) := jloop (fun s : Int => Pa_word_B10 T h o0 l1 s) (v2)
set_option maxRecDepth 20000 in
theorem t_Pa_word_B10 {T : jT} {xs : List Int} {d : Nat} {y : jV × jS} (hd : 4 ≤ d) {h : jH} {z1 : Int} {o0 : Nat} {l1 : List Int} {v2 : Int} {out : (Int ⊕ (Int × jH))} (ho0 : isX4 T o0) (hs1 : jIsS z1 l1) (H : Pa_word_B10 T h o0 l1 v2 = some out) (HY : yk_Pa_word_L10 T xs d y h z1 o0 l1 out) : jEv xs d (52, 10, [(2, Int.ofNat o0), (4, z1), (0, v2), (3, 0)], []) (T, h) y := by
  unfold Pa_word_B10 at H
  refine jEv.blk [(.iload_n 2, 1, []), (.aload_n 0, 1, [])] (by decide +kernel) (pc' := 12) (ls' := [(2, Int.ofNat o0), (4, z1), (0, v2), (3, 0)]) (st' := [(2, Int.ofNat o0), (0, v2)]) rfl ?_
  refine jEv.gfI (show jfI 52 12 (.getfield 90) 3 [4, 6, 0, 0, 1137] = true by decide +kernel) (isX4_L ho0) (by decide) ?_
  refine jEv.ic_ge (t := 44) (show jfI 52 15 (.if_icmp .ge 29) 3 [] = true by decide +kernel) rfl H (fun c2 H => ?_) (fun c2 H => ?_)
  · refine jEv.blk [(.aload_n 0, 1, []), (.iload_n 2, 1, [])] (by decide +kernel) (pc' := 20) (ls' := [(2, Int.ofNat o0), (4, z1), (0, v2), (3, 0)]) (st' := [(0, v2), (2, Int.ofNat o0)]) rfl ?_
    refine jbind H (fun b3 Hb3 H => ?_)
    refine jEv.calV (st' := [(0, b3)]) (show jfI 52 20 (.invokevirtual 102) 3 [1, 54, 1, 3141] = true by decide +kernel) rfl (Or.inl rfl) rfl (Nat.le_of_ble_eq_true rfl) (by decide +kernel) (by decide) (isX4_L ho0) ((t_Pa_octetAt (T := T) (xs := xs) ho0 Hb3).mono (jKle 1 hd)) rfl ?_
    refine jEv.blk [(.bipush 97, 2, [])] (by decide +kernel) (pc' := 25) (ls' := [(2, Int.ofNat o0), (4, z1), (0, v2), (3, 0)]) (st' := [(0, 97), (0, b3)]) rfl ?_
    refine jEv.ic_lt (t := 44) (show jfI 52 25 (.if_icmp .lt 19) 3 [] = true by decide +kernel) rfl H (fun c4 H => ?_) (fun c4 H => ?_)
    · refine jmapr H HY (fun out H (HY : ykI T y out) => ?_)
      exact t_Pa_word_p44 (T := T) (xs := xs) (y := y) hd ho0 hs1 H HY
    · refine jEv.blk [(.aload_n 0, 1, []), (.iload_n 2, 1, [])] (by decide +kernel) (pc' := 30) (ls' := [(2, Int.ofNat o0), (4, z1), (0, v2), (3, 0)]) (st' := [(0, v2), (2, Int.ofNat o0)]) rfl ?_
      refine jbind H (fun b5 Hb5 H => ?_)
      refine jEv.calV (st' := [(0, b5)]) (show jfI 52 30 (.invokevirtual 102) 3 [1, 54, 1, 3141] = true by decide +kernel) rfl (Or.inl rfl) rfl (Nat.le_of_ble_eq_true rfl) (by decide +kernel) (by decide) (isX4_L ho0) ((t_Pa_octetAt (T := T) (xs := xs) ho0 Hb5).mono (jKle 1 hd)) rfl ?_
      refine jEv.blk [(.bipush 122, 2, [])] (by decide +kernel) (pc' := 35) (ls' := [(2, Int.ofNat o0), (4, z1), (0, v2), (3, 0)]) (st' := [(0, 122), (0, b5)]) rfl ?_
      refine jEv.ic_gt (t := 44) (show jfI 52 35 (.if_icmp .gt 9) 3 [] = true by decide +kernel) rfl H (fun c6 H => ?_) (fun c6 H => ?_)
      · refine jmapr H HY (fun out H (HY : ykI T y out) => ?_)
        exact t_Pa_word_p44 (T := T) (xs := xs) (y := y) hd ho0 hs1 H HY
      · refine jEv.blk [(.iinc 2 1, 3, [])] (by decide +kernel) (pc' := 41) (ls' := [(2, Int.ofNat o0), (4, z1), (0, (wr (v2 + 1))), (3, 0)]) (st' := []) rfl ?_
        refine jEv.goto (t := 10) (show jfI 52 41 (.goto (-31)) 3 [] = true by decide +kernel) rfl ?_
        exact (by cases H; exact HY)
  · refine jmapr H HY (fun out H (HY : ykI T y out) => ?_)
    exact t_Pa_word_p44 (T := T) (xs := xs) (y := y) hd ho0 hs1 H HY
theorem t_Pa_word_L10 {T : jT} {xs : List Int} {d : Nat} {y : jV × jS} (hd : 4 ≤ d) {h : jH} {z1 : Int} {o0 : Nat} {l1 : List Int} {v2 : Int} {out : (Int × jH)} (ho0 : isX4 T o0) (hs1 : jIsS z1 l1) (H : Pa_word_L10 T h o0 l1 v2 = some out) (HY : ykI T y out) : jEv xs d (52, 10, [(2, Int.ofNat o0), (4, z1), (0, v2), (3, 0)], []) (T, h) y :=
  jloop_sound (G := fun s : Int => jEv xs d (52, 10, [(2, Int.ofNat o0), (4, z1), (0, s), (3, 0)], []) (T, h) y) (K := yk_Pa_word_L10 T xs d y h z1 o0 l1) (fun s out H HY => t_Pa_word_B10 hd ho0 hs1 H HY) (fun s' hg => hg) (s := (v2)) H HY
set_option maxRecDepth 20000 in
noncomputable def Pa_word (T : jT) (h : jH) (o0 : Nat) (l1 : List Int) : Option (Int × jH) := Option.bind (Pa_peek T h o0) (fun b1 => Pa_word_L10 T b1.2 o0 l1 (b1.2 o0 7))
set_option maxRecDepth 20000 in
theorem t_Pa_word {T : jT} {xs : List Int} {h : jH} {z1 : Int} {o0 : Nat} {l1 : List Int} {out : (Int × jH)} (ho0 : isX4 T o0) (hs1 : jIsS z1 l1) (H : Pa_word T h o0 l1 = some out) : jEm xs 5 52 [(2, Int.ofNat o0), (4, z1)] (T, h) ((0, out.1), (T, out.2)) := by
  have hd : 4 ≤ 4 := Nat.le_refl _
  obtain ⟨y, ey⟩ : ∃ y : jV × jS, y = ((0, out.1), (T, out.2)) := ⟨_, rfl⟩
  rw [← ey]
  have HY : ykI T y out := ey
  refine jEm.ent (n := 4) (by decide +kernel) (Nat.le_of_ble_eq_true rfl) ?_
  show jEv xs 4 (52, 0, [(2, Int.ofNat o0), (4, z1), (3, 0), (3, 0)], []) (T, h) y
  unfold Pa_word at H
  refine jEv.blk [(.aload_n 0, 1, [])] (by decide +kernel) (pc' := 1) (ls' := [(2, Int.ofNat o0), (4, z1), (3, 0), (3, 0)]) (st' := [(2, Int.ofNat o0)]) rfl ?_
  refine jbind H (fun b1 Hb1 H => ?_)
  refine jEv.calV (st' := [(0, b1.1)]) (show jfI 52 1 (.invokevirtual 54) 3 [1, 53, 0, 3137] = true by decide +kernel) rfl (Or.inl rfl) rfl (Nat.le_of_ble_eq_true rfl) (by decide +kernel) (by decide) (isX4_L ho0) ((t_Pa_peek (T := T) (xs := xs) ho0 Hb1).mono (jKle 1 hd)) rfl ?_
  refine jEv.blk [(.pop, 1, []), (.aload_n 0, 1, [])] (by decide +kernel) (pc' := 6) (ls' := [(2, Int.ofNat o0), (4, z1), (3, 0), (3, 0)]) (st' := [(2, Int.ofNat o0)]) rfl ?_
  refine jEv.gfI (show jfI 52 6 (.getfield 58) 3 [4, 7, 0, 0, 1138] = true by decide +kernel) (isX4_L ho0) (by decide) ?_
  refine jEv.blk [(.istore_n 2, 1, [])] (by decide +kernel) (pc' := 10) (ls' := [(2, Int.ofNat o0), (4, z1), (0, (b1.2 o0 7)), (3, 0)]) (st' := []) rfl ?_
  exact t_Pa_word_L10 (T := T) (xs := xs) (y := y) hd ho0 hs1 H HY
set_option maxRecDepth 20000 in
noncomputable def Pa_fail  (h : jH) (o0 : Nat) (v1 : Int) (v2 : Int) : Option (Int × jH) := some (0, (jup (jup h o0 3 v1) o0 4 v2))
set_option maxRecDepth 20000 in
theorem t_Pa_fail {T : jT} {xs : List Int} {h : jH}  {o0 : Nat} {v1 : Int} {v2 : Int} {out : (Int × jH)} (ho0 : isX4 T o0) (H : Pa_fail h o0 v1 v2 = some out) : jEm xs 1 55 [(2, Int.ofNat o0), (0, v1), (0, v2)] (T, h) ((0, out.1), (T, out.2)) := by
  have hd : 0 ≤ 0 := Nat.le_refl _
  obtain ⟨y, ey⟩ : ∃ y : jV × jS, y = ((0, out.1), (T, out.2)) := ⟨_, rfl⟩
  rw [← ey]
  have HY : ykI T y out := ey
  refine jEm.ent (n := 3) (by decide +kernel) (Nat.le_of_ble_eq_true rfl) ?_
  show jEv xs 0 (55, 0, [(2, Int.ofNat o0), (0, v1), (0, v2)], []) (T, h) y
  unfold Pa_fail at H
  refine jEv.blk [(.aload_n 0, 1, []), (.iload_n 1, 1, [])] (by decide +kernel) (pc' := 2) (ls' := [(2, Int.ofNat o0), (0, v1), (0, v2)]) (st' := [(0, v1), (2, Int.ofNat o0)]) rfl ?_
  refine jEv.pfI (show jfI 55 2 (.putfield 96) 3 [4, 3, 0, 0, 1132] = true by decide +kernel) (isX4_L ho0) (by decide) ?_
  refine jEv.blk [(.aload_n 0, 1, []), (.iload_n 2, 1, [])] (by decide +kernel) (pc' := 7) (ls' := [(2, Int.ofNat o0), (0, v1), (0, v2)]) (st' := [(0, v2), (2, Int.ofNat o0)]) rfl ?_
  refine jEv.pfI (show jfI 55 7 (.putfield 25) 3 [4, 4, 0, 0, 1134] = true by decide +kernel) (isX4_L ho0) (by decide) ?_
  refine jEv.blk [(.iconst 0, 1, [])] (by decide +kernel) (pc' := 11) (ls' := [(2, Int.ofNat o0), (0, v1), (0, v2)]) (st' := [(0, 0)]) rfl ?_
  exact jEv.retZ (show jfI 55 11 (.ireturn) 1 [] = true by decide +kernel) (by decide +kernel) (by decide) (by cases H; exact HY)
set_option maxRecDepth 20000 in
noncomputable def Pa_expectWord_p20 (T : jT) (h : jH)  : Option (Int × jH) := some (1, h)
set_option maxRecDepth 20000 in
theorem t_Pa_expectWord_p20 {T : jT} {xs : List Int} {d : Nat} {y : jV × jS} (hd : 5 ≤ d) {h : jH}   {out : (Int × jH)}  (H : Pa_expectWord_p20 T h = some out) (HY : ykI T y out) : jEv xs d (51, 20, [(3, 0), (3, 0)], []) (T, h) y := by
  unfold Pa_expectWord_p20 at H
  refine jEv.blk [(.iconst 1, 1, [])] (by decide +kernel) (pc' := 21) (ls' := [(3, 0), (3, 0)]) (st' := [(0, 1)]) rfl ?_
  refine jEv.goto (t := 25) (show jfI 51 21 (.goto 4) 3 [] = true by decide +kernel) rfl ?_
  exact jEv.retZ (show jfI 51 25 (.ireturn) 1 [] = true by decide +kernel) (by decide +kernel) (by decide) (by cases H; exact HY)
set_option maxRecDepth 20000 in
noncomputable def Pa_expectWord (T : jT) (h : jH) (o0 : Nat) (l1 : List Int) : Option (Int × jH) := Option.bind (Pa_word T h o0 l1) (fun b1 => (if b1.1 = 0 then Option.bind (Pa_fail b1.2 o0 1 (b1.2 o0 7)) (fun b3 => (if b3.1 = 0 then some (0, b3.2) else Pa_expectWord_p20 T b3.2)) else Pa_expectWord_p20 T b1.2))
set_option maxRecDepth 20000 in
theorem t_Pa_expectWord {T : jT} {xs : List Int} {h : jH} {z1 : Int} {o0 : Nat} {l1 : List Int} {out : (Int × jH)} (ho0 : isX4 T o0) (hs1 : jIsS z1 l1) (H : Pa_expectWord T h o0 l1 = some out) : jEm xs 6 51 [(2, Int.ofNat o0), (4, z1)] (T, h) ((0, out.1), (T, out.2)) := by
  have hd : 5 ≤ 5 := Nat.le_refl _
  obtain ⟨y, ey⟩ : ∃ y : jV × jS, y = ((0, out.1), (T, out.2)) := ⟨_, rfl⟩
  rw [← ey]
  have HY : ykI T y out := ey
  refine jEm.ent (n := 2) (by decide +kernel) (Nat.le_of_ble_eq_true rfl) ?_
  show jEv xs 5 (51, 0, [(2, Int.ofNat o0), (4, z1)], []) (T, h) y
  unfold Pa_expectWord at H
  refine jEv.blk [(.aload_n 0, 1, []), (.aload_n 1, 1, [])] (by decide +kernel) (pc' := 2) (ls' := [(2, Int.ofNat o0), (4, z1)]) (st' := [(4, z1), (2, Int.ofNat o0)]) rfl ?_
  refine jbind H (fun b1 Hb1 H => ?_)
  refine jEv.calV (st' := [(0, b1.1)]) (show jfI 51 2 (.invokevirtual 114) 3 [1, 52, 1, 3133] = true by decide +kernel) rfl (Or.inl rfl) rfl (Nat.le_of_ble_eq_true rfl) (by decide +kernel) (by decide) (isX4_L ho0) ((t_Pa_word (T := T) (xs := xs) ho0 hs1 Hb1).mono (jKle 5 hd)) rfl ?_
  refine jEv.if_ne (t := 20) (show jfI 51 5 (.ifCond .ne 15) 3 [] = true by decide +kernel) rfl H (fun c2 H => ?_) (fun c2 H => ?_)
  · refine jEv.blk [(.aload_n 0, 1, []), (.iconst 1, 1, []), (.aload_n 0, 1, [])] (by decide +kernel) (pc' := 11) (ls' := [(2, Int.ofNat o0), (4, z1)]) (st' := [(2, Int.ofNat o0), (0, 1), (2, Int.ofNat o0)]) rfl ?_
    refine jEv.gfI (show jfI 51 11 (.getfield 58) 3 [4, 7, 0, 0, 1138] = true by decide +kernel) (isX4_L ho0) (by decide) ?_
    refine jbind H (fun b3 Hb3 H => ?_)
    refine jEv.calV (st' := [(0, b3.1)]) (show jfI 51 14 (.invokevirtual 61) 3 [1, 55, 2, 3193] = true by decide +kernel) rfl (Or.inl rfl) rfl (Nat.le_of_ble_eq_true rfl) (by decide +kernel) (by decide) (isX4_L ho0) ((t_Pa_fail (T := T) (xs := xs) ho0 Hb3).mono (jKle 1 hd)) rfl ?_
    refine jEv.if_eq (t := 24) (show jfI 51 17 (.ifCond .eq 7) 3 [] = true by decide +kernel) rfl H (fun c4 H => ?_) (fun c4 H => ?_)
    · refine jEv.blk [(.iconst 0, 1, [])] (by decide +kernel) (pc' := 25) (ls' := [(2, Int.ofNat o0), (4, z1)]) (st' := [(0, 0)]) rfl ?_
      exact jEv.retZ (show jfI 51 25 (.ireturn) 1 [] = true by decide +kernel) (by decide +kernel) (by decide) (by cases H; exact HY)
    · exact jEv.weak (a := [(3, 0), (3, 0)]) (jles.c0 (jles.c0 jles.nl)) (t_Pa_expectWord_p20 (T := T) (xs := xs) (y := y) hd H HY)
  · exact jEv.weak (a := [(3, 0), (3, 0)]) (jles.c0 (jles.c0 jles.nl)) (t_Pa_expectWord_p20 (T := T) (xs := xs) (y := y) hd H HY)
set_option maxRecDepth 20000 in
noncomputable def Pa_isDigit_p16   : Option Int := some 0
set_option maxRecDepth 20000 in
theorem t_Pa_isDigit_p16 {T : jT} {xs : List Int} {d : Nat} {y : jV × jS} (hd : 0 ≤ d) {h : jH}   {out : Int}  (H : Pa_isDigit_p16 = some out) (HY : ykIp T h y out) : jEv xs d (57, 16, [(3, 0)], []) (T, h) y := by
  unfold Pa_isDigit_p16 at H
  refine jEv.blk [(.iconst 0, 1, [])] (by decide +kernel) (pc' := 17) (ls' := [(3, 0)]) (st' := [(0, 0)]) rfl ?_
  exact jEv.retZ (show jfI 57 17 (.ireturn) 1 [] = true by decide +kernel) (by decide +kernel) (by decide) (by cases H; exact HY)
set_option maxRecDepth 20000 in
noncomputable def Pa_isDigit  (v0 : Int) : Option Int := (if v0 < 48 then Pa_isDigit_p16 else (if 57 < v0 then Pa_isDigit_p16 else some 1))
set_option maxRecDepth 20000 in
theorem t_Pa_isDigit {T : jT} {xs : List Int} {h : jH}  {v0 : Int} {out : Int}  (H : Pa_isDigit v0 = some out) : jEm xs 1 57 [(0, v0)] (T, h) ((0, out), (T, h)) := by
  have hd : 0 ≤ 0 := Nat.le_refl _
  obtain ⟨y, ey⟩ : ∃ y : jV × jS, y = ((0, out), (T, h)) := ⟨_, rfl⟩
  rw [← ey]
  have HY : ykIp T h y out := ey
  refine jEm.ent (n := 1) (by decide +kernel) (Nat.le_of_ble_eq_true rfl) ?_
  show jEv xs 0 (57, 0, [(0, v0)], []) (T, h) y
  unfold Pa_isDigit at H
  refine jEv.blk [(.iload_n 0, 1, []), (.bipush 48, 2, [])] (by decide +kernel) (pc' := 3) (ls' := [(0, v0)]) (st' := [(0, 48), (0, v0)]) rfl ?_
  refine jEv.ic_lt (t := 16) (show jfI 57 3 (.if_icmp .lt 13) 3 [] = true by decide +kernel) rfl H (fun c1 H => ?_) (fun c1 H => ?_)
  · exact jEv.weak (a := [(3, 0)]) (jles.c0 jles.nl) (t_Pa_isDigit_p16 (T := T) (xs := xs) (y := y) hd H HY)
  · refine jEv.blk [(.iload_n 0, 1, []), (.bipush 57, 2, [])] (by decide +kernel) (pc' := 9) (ls' := [(0, v0)]) (st' := [(0, 57), (0, v0)]) rfl ?_
    refine jEv.ic_gt (t := 16) (show jfI 57 9 (.if_icmp .gt 7) 3 [] = true by decide +kernel) rfl H (fun c2 H => ?_) (fun c2 H => ?_)
    · exact jEv.weak (a := [(3, 0)]) (jles.c0 jles.nl) (t_Pa_isDigit_p16 (T := T) (xs := xs) (y := y) hd H HY)
    · refine jEv.blk [(.iconst 1, 1, [])] (by decide +kernel) (pc' := 13) (ls' := [(0, v0)]) (st' := [(0, 1)]) rfl ?_
      refine jEv.goto (t := 17) (show jfI 57 13 (.goto 4) 3 [] = true by decide +kernel) rfl ?_
      exact jEv.retZ (show jfI 57 17 (.ireturn) 1 [] = true by decide +kernel) (by decide +kernel) (by decide) (by cases H; exact HY)
def yk_Pa_number_L41 (T : jT) (xs : List Int) (d : Nat) (y : jV × jS)  (o0 : Nat) (v1 : Int) (v2 : Int) (v3 : Int) : ((Int × jH) ⊕ (Int × jH)) → Prop
  | .inl (v4, h) => jEv xs d (56, 41, [(2, Int.ofNat o0), (0, v1), (0, v2), (0, v3), (0, v4)], []) (T, h) y
  | .inr o => ykI T y o
set_option maxRecDepth 20000 in
noncomputable def Pa_number_p21 (T : jT) (h : jH) (o0 : Nat) : Option (Int × jH) := Option.bind (Pa_fail h o0 1 (h o0 7)) (fun b5 => some ((-1), b5.2))
set_option maxRecDepth 20000 in
theorem t_Pa_number_p21 {T : jT} {xs : List Int} {d : Nat} {y : jV × jS} (hd : 1 ≤ d) {h : jH}  {o0 : Nat} {out : (Int × jH)} (ho0 : isX4 T o0) (H : Pa_number_p21 T h o0 = some out) (HY : ykI T y out) : jEv xs d (56, 21, [(2, Int.ofNat o0), (3, 0), (3, 0), (3, 0), (3, 0)], []) (T, h) y := by
  unfold Pa_number_p21 at H
  refine jEv.blk [(.aload_n 0, 1, []), (.iconst 1, 1, []), (.aload_n 0, 1, [])] (by decide +kernel) (pc' := 24) (ls' := [(2, Int.ofNat o0), (3, 0), (3, 0), (3, 0), (3, 0)]) (st' := [(2, Int.ofNat o0), (0, 1), (2, Int.ofNat o0)]) rfl ?_
  refine jEv.gfI (show jfI 56 24 (.getfield 58) 3 [4, 7, 0, 0, 1138] = true by decide +kernel) (isX4_L ho0) (by decide) ?_
  refine jbind H (fun b5 Hb5 H => ?_)
  refine jEv.calV (st' := [(0, b5.1)]) (show jfI 56 27 (.invokevirtual 61) 3 [1, 55, 2, 3193] = true by decide +kernel) rfl (Or.inl rfl) rfl (Nat.le_of_ble_eq_true rfl) (by decide +kernel) (by decide) (isX4_L ho0) ((t_Pa_fail (T := T) (xs := xs) ho0 Hb5).mono (jKle 1 hd)) rfl ?_
  refine jEv.blk [(.pop, 1, []), (.iconst (-1), 1, [])] (by decide +kernel) (pc' := 32) (ls' := [(2, Int.ofNat o0), (3, 0), (3, 0), (3, 0), (3, 0)]) (st' := [(0, (-1))]) rfl ?_
  exact jEv.retI (show jfI 56 32 (.ireturn) 1 [] = true by decide +kernel) (by decide +kernel) (by cases H; exact HY)
set_option maxRecDepth 20000 in
noncomputable def Pa_number_p140 (T : jT) (h : jH) (o0 : Nat) (v3 : Int) : Option (Int × jH) := Option.bind (Pa_fail h o0 2 v3) (fun b15 => some ((-1), b15.2))
set_option maxRecDepth 20000 in
theorem t_Pa_number_p140 {T : jT} {xs : List Int} {d : Nat} {y : jV × jS} (hd : 1 ≤ d) {h : jH}  {o0 : Nat} {v3 : Int} {out : (Int × jH)} (ho0 : isX4 T o0) (H : Pa_number_p140 T h o0 v3 = some out) (HY : ykI T y out) : jEv xs d (56, 140, [(2, Int.ofNat o0), (3, 0), (3, 0), (0, v3), (3, 0)], []) (T, h) y := by
  unfold Pa_number_p140 at H
  refine jEv.blk [(.aload_n 0, 1, []), (.iconst 2, 1, []), (.iload_n 3, 1, [])] (by decide +kernel) (pc' := 143) (ls' := [(2, Int.ofNat o0), (3, 0), (3, 0), (0, v3), (3, 0)]) (st' := [(0, v3), (0, 2), (2, Int.ofNat o0)]) rfl ?_
  refine jbind H (fun b15 Hb15 H => ?_)
  refine jEv.calV (st' := [(0, b15.1)]) (show jfI 56 143 (.invokevirtual 61) 3 [1, 55, 2, 3193] = true by decide +kernel) rfl (Or.inl rfl) rfl (Nat.le_of_ble_eq_true rfl) (by decide +kernel) (by decide) (isX4_L ho0) ((t_Pa_fail (T := T) (xs := xs) ho0 Hb15).mono (jKle 1 hd)) rfl ?_
  refine jEv.blk [(.pop, 1, []), (.iconst (-1), 1, [])] (by decide +kernel) (pc' := 148) (ls' := [(2, Int.ofNat o0), (3, 0), (3, 0), (0, v3), (3, 0)]) (st' := [(0, (-1))]) rfl ?_
  exact jEv.retI (show jfI 56 148 (.ireturn) 1 [] = true by decide +kernel) (by decide +kernel) (by cases H; exact HY)
set_option maxRecDepth 20000 in
noncomputable def Pa_number_p120 (T : jT) (h : jH) (o0 : Nat) (v1 : Int) (v2 : Int) (v3 : Int) (v4 : Int) : Option (Int × jH) := (if v4 < v1 then Pa_number_p140 T (jup h o0 8 (h o0 7)) o0 v3 else (if v2 < v4 then Pa_number_p140 T (jup h o0 8 (h o0 7)) o0 v3 else some (v4, (jup h o0 8 (h o0 7)))))
set_option maxRecDepth 20000 in
theorem t_Pa_number_p120 {T : jT} {xs : List Int} {d : Nat} {y : jV × jS} (hd : 1 ≤ d) {h : jH}  {o0 : Nat} {v1 : Int} {v2 : Int} {v3 : Int} {v4 : Int} {out : (Int × jH)} (ho0 : isX4 T o0) (H : Pa_number_p120 T h o0 v1 v2 v3 v4 = some out) (HY : ykI T y out) : jEv xs d (56, 120, [(2, Int.ofNat o0), (0, v1), (0, v2), (0, v3), (0, v4)], []) (T, h) y := by
  unfold Pa_number_p120 at H
  refine jEv.blk [(.aload_n 0, 1, []), (.aload_n 0, 1, [])] (by decide +kernel) (pc' := 122) (ls' := [(2, Int.ofNat o0), (0, v1), (0, v2), (0, v3), (0, v4)]) (st' := [(2, Int.ofNat o0), (2, Int.ofNat o0)]) rfl ?_
  refine jEv.gfI (show jfI 56 122 (.getfield 58) 3 [4, 7, 0, 0, 1138] = true by decide +kernel) (isX4_L ho0) (by decide) ?_
  refine jEv.pfI (show jfI 56 125 (.putfield 93) 3 [4, 8, 0, 0, 1139] = true by decide +kernel) (isX4_L ho0) (by decide) ?_
  refine jEv.blk [(.iload 4, 2, []), (.iload_n 1, 1, [])] (by decide +kernel) (pc' := 131) (ls' := [(2, Int.ofNat o0), (0, v1), (0, v2), (0, v3), (0, v4)]) (st' := [(0, v1), (0, v4)]) rfl ?_
  refine jEv.ic_lt (t := 140) (show jfI 56 131 (.if_icmp .lt 9) 3 [] = true by decide +kernel) rfl H (fun c13 H => ?_) (fun c13 H => ?_)
  · exact jEv.weak (a := [(2, Int.ofNat o0), (3, 0), (3, 0), (0, v3), (3, 0)]) (jles.c1 (jles.c0 (jles.c0 (jles.c1 (jles.c0 jles.nl))))) (t_Pa_number_p140 (T := T) (xs := xs) (y := y) hd ho0 H HY)
  · refine jEv.blk [(.iload 4, 2, []), (.iload_n 2, 1, [])] (by decide +kernel) (pc' := 137) (ls' := [(2, Int.ofNat o0), (0, v1), (0, v2), (0, v3), (0, v4)]) (st' := [(0, v2), (0, v4)]) rfl ?_
    refine jEv.ic_le (t := 149) (show jfI 56 137 (.if_icmp .le 12) 3 [] = true by decide +kernel) rfl H (fun c14 H => ?_) (fun c14 H => ?_)
    · exact jEv.weak (a := [(2, Int.ofNat o0), (3, 0), (3, 0), (0, v3), (3, 0)]) (jles.c1 (jles.c0 (jles.c0 (jles.c1 (jles.c0 jles.nl))))) (t_Pa_number_p140 (T := T) (xs := xs) (y := y) hd ho0 H HY)
    · refine jEv.blk [(.iload 4, 2, [])] (by decide +kernel) (pc' := 151) (ls' := [(2, Int.ofNat o0), (0, v1), (0, v2), (0, v3), (0, v4)]) (st' := [(0, v4)]) rfl ?_
      exact jEv.retI (show jfI 56 151 (.ireturn) 1 [] = true by decide +kernel) (by decide +kernel) (by cases H; exact HY)
set_option maxRecDepth 20000 in
noncomputable def Pa_number_B41 (T : jT) (h : jH) (o0 : Nat) (v1 : Int) (v2 : Int) (v3 : Int) (v4 : Int) : Option ((Int × jH) ⊕ (Int × jH)) := (if (h o0 7) < (h o0 6) then Option.bind (Pa_octetAt T h o0 (h o0 7)) (fun b7 => Option.bind (Pa_isDigit b7) (fun b8 => (if b8 = 0 then Option.map Sum.inr (Pa_number_p120 T h o0 v1 v2 v3 v4) else (if (wr ((h o0 7) - v3)) = 4 then Option.map Sum.inr (Option.bind (Pa_fail h o0 1 (h o0 7)) (fun b11 => some ((-1), b11.2))) else Option.bind (Pa_octetAt T h o0 (h o0 7)) (fun b12 => some (.inl ((wr ((wr ((wr (10 * v4)) + b12)) - 48)), (jup h o0 7 (wr ((h o0 7) + 1)))))))))) else Option.map Sum.inr (Pa_number_p120 T h o0 v1 v2 v3 v4))
noncomputable def Pa_number_L41 (T : jT) (h : jH) (o0 : Nat) (v1 : Int) (v2 : Int) (v3 : Int) (v4 : Int) : Option (Int × jH) := jloop (fun s : (Int × jH) => Pa_number_B41 T s.2 o0 v1 v2 v3 s.1) (v4, h)
set_option maxRecDepth 20000 in
theorem t_Pa_number_B41 {T : jT} {xs : List Int} {d : Nat} {y : jV × jS} (hd : 1 ≤ d) {h : jH}  {o0 : Nat} {v1 : Int} {v2 : Int} {v3 : Int} {v4 : Int} {out : ((Int × jH) ⊕ (Int × jH))} (ho0 : isX4 T o0) (H : Pa_number_B41 T h o0 v1 v2 v3 v4 = some out) (HY : yk_Pa_number_L41 T xs d y o0 v1 v2 v3 out) : jEv xs d (56, 41, [(2, Int.ofNat o0), (0, v1), (0, v2), (0, v3), (0, v4)], []) (T, h) y := by
  unfold Pa_number_B41 at H
  refine jEv.blk [(.aload_n 0, 1, [])] (by decide +kernel) (pc' := 42) (ls' := [(2, Int.ofNat o0), (0, v1), (0, v2), (0, v3), (0, v4)]) (st' := [(2, Int.ofNat o0)]) rfl ?_
  refine jEv.gfI (show jfI 56 42 (.getfield 58) 3 [4, 7, 0, 0, 1138] = true by decide +kernel) (isX4_L ho0) (by decide) ?_
  refine jEv.blk [(.aload_n 0, 1, [])] (by decide +kernel) (pc' := 46) (ls' := [(2, Int.ofNat o0), (0, v1), (0, v2), (0, v3), (0, v4)]) (st' := [(2, Int.ofNat o0), (0, (h o0 7))]) rfl ?_
  refine jEv.gfI (show jfI 56 46 (.getfield 90) 3 [4, 6, 0, 0, 1137] = true by decide +kernel) (isX4_L ho0) (by decide) ?_
  refine jEv.ic_ge (t := 120) (show jfI 56 49 (.if_icmp .ge 71) 3 [] = true by decide +kernel) rfl H (fun c6 H => ?_) (fun c6 H => ?_)
  · refine jEv.blk [(.aload_n 0, 1, []), (.aload_n 0, 1, [])] (by decide +kernel) (pc' := 54) (ls' := [(2, Int.ofNat o0), (0, v1), (0, v2), (0, v3), (0, v4)]) (st' := [(2, Int.ofNat o0), (2, Int.ofNat o0)]) rfl ?_
    refine jEv.gfI (show jfI 56 54 (.getfield 58) 3 [4, 7, 0, 0, 1138] = true by decide +kernel) (isX4_L ho0) (by decide) ?_
    refine jbind H (fun b7 Hb7 H => ?_)
    refine jEv.calV (st' := [(0, b7)]) (show jfI 56 57 (.invokevirtual 102) 3 [1, 54, 1, 3141] = true by decide +kernel) rfl (Or.inl rfl) rfl (Nat.le_of_ble_eq_true rfl) (by decide +kernel) (by decide) (isX4_L ho0) ((t_Pa_octetAt (T := T) (xs := xs) ho0 Hb7).mono (jKle 1 hd)) rfl ?_
    refine jbind H (fun b8 Hb8 H => ?_)
    refine jEv.calS (st' := [(0, b8)]) (show jfI 56 60 (.invokestatic 118) 3 [3, 57, 1, 3201] = true by decide +kernel) rfl (Or.inl rfl) rfl (Nat.le_of_ble_eq_true rfl) ((t_Pa_isDigit (T := T) (xs := xs)  Hb8).mono (jKle 1 hd)) rfl ?_
    refine jEv.if_eq (t := 120) (show jfI 56 63 (.ifCond .eq 57) 3 [] = true by decide +kernel) rfl H (fun c9 H => ?_) (fun c9 H => ?_)
    · refine jmapr H HY (fun out H (HY : ykI T y out) => ?_)
      exact t_Pa_number_p120 (T := T) (xs := xs) (y := y) hd ho0 H HY
    · refine jEv.blk [(.aload_n 0, 1, [])] (by decide +kernel) (pc' := 67) (ls' := [(2, Int.ofNat o0), (0, v1), (0, v2), (0, v3), (0, v4)]) (st' := [(2, Int.ofNat o0)]) rfl ?_
      refine jEv.gfI (show jfI 56 67 (.getfield 58) 3 [4, 7, 0, 0, 1138] = true by decide +kernel) (isX4_L ho0) (by decide) ?_
      refine jEv.blk [(.iload_n 3, 1, []), (.isub, 1, []), (.iconst 4, 1, [])] (by decide +kernel) (pc' := 73) (ls' := [(2, Int.ofNat o0), (0, v1), (0, v2), (0, v3), (0, v4)]) (st' := [(0, 4), (0, (wr ((h o0 7) - v3)))]) rfl ?_
      refine jEv.ic_ne (t := 88) (show jfI 56 73 (.if_icmp .ne 15) 3 [] = true by decide +kernel) rfl H (fun c10 H => ?_) (fun c10 H => ?_)
      · refine jmapr H HY (fun out H (HY : ykI T y out) => ?_)
        refine jEv.blk [(.aload_n 0, 1, []), (.iconst 1, 1, []), (.aload_n 0, 1, [])] (by decide +kernel) (pc' := 79) (ls' := [(2, Int.ofNat o0), (0, v1), (0, v2), (0, v3), (0, v4)]) (st' := [(2, Int.ofNat o0), (0, 1), (2, Int.ofNat o0)]) rfl ?_
        refine jEv.gfI (show jfI 56 79 (.getfield 58) 3 [4, 7, 0, 0, 1138] = true by decide +kernel) (isX4_L ho0) (by decide) ?_
        refine jbind H (fun b11 Hb11 H => ?_)
        refine jEv.calV (st' := [(0, b11.1)]) (show jfI 56 82 (.invokevirtual 61) 3 [1, 55, 2, 3193] = true by decide +kernel) rfl (Or.inl rfl) rfl (Nat.le_of_ble_eq_true rfl) (by decide +kernel) (by decide) (isX4_L ho0) ((t_Pa_fail (T := T) (xs := xs) ho0 Hb11).mono (jKle 1 hd)) rfl ?_
        refine jEv.blk [(.pop, 1, []), (.iconst (-1), 1, [])] (by decide +kernel) (pc' := 87) (ls' := [(2, Int.ofNat o0), (0, v1), (0, v2), (0, v3), (0, v4)]) (st' := [(0, (-1))]) rfl ?_
        exact jEv.retI (show jfI 56 87 (.ireturn) 1 [] = true by decide +kernel) (by decide +kernel) (by cases H; exact HY)
      · refine jEv.blk [(.bipush 10, 2, []), (.iload 4, 2, []), (.imul, 1, []), (.aload_n 0, 1, []), (.aload_n 0, 1, [])] (by decide +kernel) (pc' := 95) (ls' := [(2, Int.ofNat o0), (0, v1), (0, v2), (0, v3), (0, v4)]) (st' := [(2, Int.ofNat o0), (2, Int.ofNat o0), (0, (wr (10 * v4)))]) rfl ?_
        refine jEv.gfI (show jfI 56 95 (.getfield 58) 3 [4, 7, 0, 0, 1138] = true by decide +kernel) (isX4_L ho0) (by decide) ?_
        refine jbind H (fun b12 Hb12 H => ?_)
        refine jEv.calV (st' := [(0, b12), (0, (wr (10 * v4)))]) (show jfI 56 98 (.invokevirtual 102) 3 [1, 54, 1, 3141] = true by decide +kernel) rfl (Or.inl rfl) rfl (Nat.le_of_ble_eq_true rfl) (by decide +kernel) (by decide) (isX4_L ho0) ((t_Pa_octetAt (T := T) (xs := xs) ho0 Hb12).mono (jKle 1 hd)) rfl ?_
        refine jEv.blk [(.iadd, 1, []), (.bipush 48, 2, []), (.isub, 1, []), (.istore 4, 2, []), (.aload_n 0, 1, []), (.dup, 1, [])] (by decide +kernel) (pc' := 109) (ls' := [(2, Int.ofNat o0), (0, v1), (0, v2), (0, v3), (0, (wr ((wr ((wr (10 * v4)) + b12)) - 48)))]) (st' := [(2, Int.ofNat o0), (2, Int.ofNat o0)]) rfl ?_
        refine jEv.gfI (show jfI 56 109 (.getfield 58) 3 [4, 7, 0, 0, 1138] = true by decide +kernel) (isX4_L ho0) (by decide) ?_
        refine jEv.blk [(.iconst 1, 1, []), (.iadd, 1, [])] (by decide +kernel) (pc' := 114) (ls' := [(2, Int.ofNat o0), (0, v1), (0, v2), (0, v3), (0, (wr ((wr ((wr (10 * v4)) + b12)) - 48)))]) (st' := [(0, (wr ((h o0 7) + 1))), (2, Int.ofNat o0)]) rfl ?_
        refine jEv.pfI (show jfI 56 114 (.putfield 58) 3 [4, 7, 0, 0, 1138] = true by decide +kernel) (isX4_L ho0) (by decide) ?_
        refine jEv.goto (t := 41) (show jfI 56 117 (.goto (-76)) 3 [] = true by decide +kernel) rfl ?_
        exact (by cases H; exact HY)
  · refine jmapr H HY (fun out H (HY : ykI T y out) => ?_)
    exact t_Pa_number_p120 (T := T) (xs := xs) (y := y) hd ho0 H HY
theorem t_Pa_number_L41 {T : jT} {xs : List Int} {d : Nat} {y : jV × jS} (hd : 1 ≤ d) {h : jH}  {o0 : Nat} {v1 : Int} {v2 : Int} {v3 : Int} {v4 : Int} {out : (Int × jH)} (ho0 : isX4 T o0) (H : Pa_number_L41 T h o0 v1 v2 v3 v4 = some out) (HY : ykI T y out) : jEv xs d (56, 41, [(2, Int.ofNat o0), (0, v1), (0, v2), (0, v3), (0, v4)], []) (T, h) y :=
  jloop_sound (G := fun s : (Int × jH) => jEv xs d (56, 41, [(2, Int.ofNat o0), (0, v1), (0, v2), (0, v3), (0, s.1)], []) (T, s.2) y) (K := yk_Pa_number_L41 T xs d y o0 v1 v2 v3) (fun s out H HY => t_Pa_number_B41 hd ho0 H HY) (fun s' hg => hg) (s := (v4, h)) H HY
set_option maxRecDepth 20000 in
noncomputable def Pa_number (T : jT) (h : jH) (o0 : Nat) (v1 : Int) (v2 : Int) : Option (Int × jH) := Option.bind (Pa_peek T h o0) (fun b1 => Option.bind (Pa_isDigit b1.1) (fun b2 => (if b2 = 0 then Pa_number_p21 T b1.2 o0 else (if (b1.2 o0 7) = (b1.2 o0 8) then Pa_number_p21 T b1.2 o0 else Pa_number_L41 T b1.2 o0 v1 v2 (b1.2 o0 7) 0))))
set_option maxRecDepth 20000 in
theorem t_Pa_number {T : jT} {xs : List Int} {h : jH}  {o0 : Nat} {v1 : Int} {v2 : Int} {out : (Int × jH)} (ho0 : isX4 T o0) (H : Pa_number T h o0 v1 v2 = some out) : jEm xs 2 56 [(2, Int.ofNat o0), (0, v1), (0, v2)] (T, h) ((0, out.1), (T, out.2)) := by
  have hd : 1 ≤ 1 := Nat.le_refl _
  obtain ⟨y, ey⟩ : ∃ y : jV × jS, y = ((0, out.1), (T, out.2)) := ⟨_, rfl⟩
  rw [← ey]
  have HY : ykI T y out := ey
  refine jEm.ent (n := 5) (by decide +kernel) (Nat.le_of_ble_eq_true rfl) ?_
  show jEv xs 1 (56, 0, [(2, Int.ofNat o0), (0, v1), (0, v2), (3, 0), (3, 0)], []) (T, h) y
  unfold Pa_number at H
  refine jEv.blk [(.aload_n 0, 1, [])] (by decide +kernel) (pc' := 1) (ls' := [(2, Int.ofNat o0), (0, v1), (0, v2), (3, 0), (3, 0)]) (st' := [(2, Int.ofNat o0)]) rfl ?_
  refine jbind H (fun b1 Hb1 H => ?_)
  refine jEv.calV (st' := [(0, b1.1)]) (show jfI 56 1 (.invokevirtual 54) 3 [1, 53, 0, 3137] = true by decide +kernel) rfl (Or.inl rfl) rfl (Nat.le_of_ble_eq_true rfl) (by decide +kernel) (by decide) (isX4_L ho0) ((t_Pa_peek (T := T) (xs := xs) ho0 Hb1).mono (jKle 1 hd)) rfl ?_
  refine jbind H (fun b2 Hb2 H => ?_)
  refine jEv.calS (st' := [(0, b2)]) (show jfI 56 4 (.invokestatic 118) 3 [3, 57, 1, 3201] = true by decide +kernel) rfl (Or.inl rfl) rfl (Nat.le_of_ble_eq_true rfl) ((t_Pa_isDigit (T := T) (xs := xs)  Hb2).mono (jKle 1 hd)) rfl ?_
  refine jEv.if_eq (t := 21) (show jfI 56 7 (.ifCond .eq 14) 3 [] = true by decide +kernel) rfl H (fun c3 H => ?_) (fun c3 H => ?_)
  · exact jEv.weak (a := [(2, Int.ofNat o0), (3, 0), (3, 0), (3, 0), (3, 0)]) (jles.c1 (jles.c0 (jles.c0 (jles.c0 (jles.c0 jles.nl))))) (t_Pa_number_p21 (T := T) (xs := xs) (y := y) hd ho0 H HY)
  · refine jEv.blk [(.aload_n 0, 1, [])] (by decide +kernel) (pc' := 11) (ls' := [(2, Int.ofNat o0), (0, v1), (0, v2), (3, 0), (3, 0)]) (st' := [(2, Int.ofNat o0)]) rfl ?_
    refine jEv.gfI (show jfI 56 11 (.getfield 58) 3 [4, 7, 0, 0, 1138] = true by decide +kernel) (isX4_L ho0) (by decide) ?_
    refine jEv.blk [(.aload_n 0, 1, [])] (by decide +kernel) (pc' := 15) (ls' := [(2, Int.ofNat o0), (0, v1), (0, v2), (3, 0), (3, 0)]) (st' := [(2, Int.ofNat o0), (0, (b1.2 o0 7))]) rfl ?_
    refine jEv.gfI (show jfI 56 15 (.getfield 93) 3 [4, 8, 0, 0, 1139] = true by decide +kernel) (isX4_L ho0) (by decide) ?_
    refine jEv.ic_ne (t := 33) (show jfI 56 18 (.if_icmp .ne 15) 3 [] = true by decide +kernel) rfl H (fun c4 H => ?_) (fun c4 H => ?_)
    · exact jEv.weak (a := [(2, Int.ofNat o0), (3, 0), (3, 0), (3, 0), (3, 0)]) (jles.c1 (jles.c0 (jles.c0 (jles.c0 (jles.c0 jles.nl))))) (t_Pa_number_p21 (T := T) (xs := xs) (y := y) hd ho0 H HY)
    · refine jEv.blk [(.aload_n 0, 1, [])] (by decide +kernel) (pc' := 34) (ls' := [(2, Int.ofNat o0), (0, v1), (0, v2), (3, 0), (3, 0)]) (st' := [(2, Int.ofNat o0)]) rfl ?_
      refine jEv.gfI (show jfI 56 34 (.getfield 58) 3 [4, 7, 0, 0, 1138] = true by decide +kernel) (isX4_L ho0) (by decide) ?_
      refine jEv.blk [(.istore_n 3, 1, []), (.iconst 0, 1, []), (.istore 4, 2, [])] (by decide +kernel) (pc' := 41) (ls' := [(2, Int.ofNat o0), (0, v1), (0, v2), (0, (b1.2 o0 7)), (0, 0)]) (st' := []) rfl ?_
      exact t_Pa_number_L41 (T := T) (xs := xs) (y := y) hd ho0 H HY
set_option maxRecDepth 20000 in
noncomputable def Pa_shape (T : jT) (h : jH) (o0 : Nat) : Option (Int × jH) := Option.bind (Pa_expectWord T h o0 [106, 111, 117, 114, 110, 97, 108]) (fun b1 => (if b1.1 = 0 then some (0, b1.2) else Option.bind (jdyn (isX6 T) (b1.2 o0 0)) (fun q3 => Option.bind (Pa_number T b1.2 o0 2 4) (fun b4 => Option.bind (jdyn (isX6 T) ((jup b4.2 q3 0 b4.1) o0 0)) (fun q5 => (if ((jup b4.2 q3 0 b4.1) q5 0) = (-1) then some (0, (jup b4.2 q3 0 b4.1)) else Option.bind (Pa_expectWord T (jup b4.2 q3 0 b4.1) o0 [98, 108, 111, 99, 107, 115]) (fun b7 => (if b7.1 = 0 then some (0, b7.2) else Option.bind (jdyn (isX6 T) (b7.2 o0 0)) (fun q9 => Option.bind (Pa_number T b7.2 o0 2 4) (fun b10 => Option.bind (jdyn (isX6 T) ((jup b10.2 q9 1 b10.1) o0 0)) (fun q11 => (if ((jup b10.2 q9 1 b10.1) q11 1) = (-1) then some (0, (jup b10.2 q9 1 b10.1)) else Option.bind (Pa_expectWord T (jup b10.2 q9 1 b10.1) o0 [98, 121, 116, 101, 115]) (fun b13 => (if b13.1 = 0 then some (0, b13.2) else Option.bind (jdyn (isX6 T) (b13.2 o0 0)) (fun q15 => Option.bind (Pa_number T b13.2 o0 16 32) (fun b16 => Option.bind (jdyn (isX6 T) ((jup b16.2 q15 2 b16.1) o0 0)) (fun q17 => (if ((jup b16.2 q15 2 b16.1) q17 2) = (-1) then some (0, (jup b16.2 q15 2 b16.1)) else some (1, (jup b16.2 q15 2 b16.1))))))))))))))))))))
set_option maxRecDepth 20000 in
theorem t_Pa_shape {T : jT} {xs : List Int} {h : jH}  {o0 : Nat} {out : (Int × jH)} (ho0 : isX4 T o0) (H : Pa_shape T h o0 = some out) : jEm xs 7 50 [(2, Int.ofNat o0)] (T, h) ((0, out.1), (T, out.2)) := by
  have hd : 6 ≤ 6 := Nat.le_refl _
  obtain ⟨y, ey⟩ : ∃ y : jV × jS, y = ((0, out.1), (T, out.2)) := ⟨_, rfl⟩
  rw [← ey]
  have HY : ykI T y out := ey
  refine jEm.ent (n := 1) (by decide +kernel) (Nat.le_of_ble_eq_true rfl) ?_
  show jEv xs 6 (50, 0, [(2, Int.ofNat o0)], []) (T, h) y
  unfold Pa_shape at H
  refine jEv.blk [(.aload_n 0, 1, []), (.ldc 122, 2, [4, 18, 0, 3128])] (by decide +kernel) (pc' := 3) (ls' := [(2, Int.ofNat o0)]) (st' := [(4, 18), (2, Int.ofNat o0)]) rfl ?_
  refine jbind H (fun b1 Hb1 H => ?_)
  refine jEv.calV (st' := [(0, b1.1)]) (show jfI 50 3 (.invokevirtual 124) 3 [1, 51, 1, 3129] = true by decide +kernel) rfl (Or.inl rfl) rfl (Nat.le_of_ble_eq_true rfl) (by decide +kernel) (by decide) (isX4_L ho0) ((t_Pa_expectWord (T := T) (xs := xs) ho0 (jIsS_18) Hb1).mono (jKle 6 hd)) rfl ?_
  refine jEv.if_ne (t := 11) (show jfI 50 6 (.ifCond .ne 5) 3 [] = true by decide +kernel) rfl H (fun c2 H => ?_) (fun c2 H => ?_)
  · refine jEv.blk [(.iconst 0, 1, [])] (by decide +kernel) (pc' := 10) (ls' := [(2, Int.ofNat o0)]) (st' := [(0, 0)]) rfl ?_
    exact jEv.retZ (show jfI 50 10 (.ireturn) 1 [] = true by decide +kernel) (by decide +kernel) (by decide) (by cases H; exact HY)
  · refine jEv.blk [(.aload_n 0, 1, [])] (by decide +kernel) (pc' := 12) (ls' := [(2, Int.ofNat o0)]) (st' := [(2, Int.ofNat o0)]) rfl ?_
    refine jEv.gfD (show jfI 50 12 (.getfield 12) 3 [4, 0, 2, 0, 1126] = true by decide +kernel) (isX4_L ho0) (by decide) H (fun q3 hq3 H => ?_)
    refine jEv.blk [(.aload_n 0, 1, []), (.iconst 2, 1, []), (.iconst 4, 1, [])] (by decide +kernel) (pc' := 18) (ls' := [(2, Int.ofNat o0)]) (st' := [(0, 4), (0, 2), (2, Int.ofNat o0), (2, Int.ofNat q3)]) rfl ?_
    refine jbind H (fun b4 Hb4 H => ?_)
    refine jEv.calV (st' := [(0, b4.1), (2, Int.ofNat q3)]) (show jfI 50 18 (.invokevirtual 127) 3 [1, 56, 2, 3197] = true by decide +kernel) rfl (Or.inl rfl) rfl (Nat.le_of_ble_eq_true rfl) (by decide +kernel) (by decide) (isX4_L ho0) ((t_Pa_number (T := T) (xs := xs) ho0 Hb4).mono (jKle 2 hd)) rfl ?_
    refine jEv.pfI (show jfI 50 21 (.putfield 130) 3 [6, 0, 0, 0, 1059] = true by decide +kernel) (isX6_L hq3) (by decide) ?_
    refine jEv.blk [(.aload_n 0, 1, [])] (by decide +kernel) (pc' := 25) (ls' := [(2, Int.ofNat o0)]) (st' := [(2, Int.ofNat o0)]) rfl ?_
    refine jEv.gfD (show jfI 50 25 (.getfield 12) 3 [4, 0, 2, 0, 1126] = true by decide +kernel) (isX4_L ho0) (by decide) H (fun q5 hq5 H => ?_)
    refine jEv.gfI (show jfI 50 28 (.getfield 130) 3 [6, 0, 0, 0, 1059] = true by decide +kernel) (isX6_L hq5) (by decide) ?_
    refine jEv.blk [(.iconst (-1), 1, [])] (by decide +kernel) (pc' := 32) (ls' := [(2, Int.ofNat o0)]) (st' := [(0, (-1)), (0, ((jup b4.2 q3 0 b4.1) q5 0))]) rfl ?_
    refine jEv.ic_eq (t := 44) (show jfI 50 32 (.if_icmp .eq 12) 3 [] = true by decide +kernel) rfl H (fun c6 H => ?_) (fun c6 H => ?_)
    · refine jEv.blk [(.iconst 0, 1, [])] (by decide +kernel) (pc' := 45) (ls' := [(2, Int.ofNat o0)]) (st' := [(0, 0)]) rfl ?_
      exact jEv.retZ (show jfI 50 45 (.ireturn) 1 [] = true by decide +kernel) (by decide +kernel) (by decide) (by cases H; exact HY)
    · refine jEv.blk [(.aload_n 0, 1, []), (.ldc 133, 2, [4, 13, 0, 3204])] (by decide +kernel) (pc' := 38) (ls' := [(2, Int.ofNat o0)]) (st' := [(4, 13), (2, Int.ofNat o0)]) rfl ?_
      refine jbind H (fun b7 Hb7 H => ?_)
      refine jEv.calV (st' := [(0, b7.1)]) (show jfI 50 38 (.invokevirtual 124) 3 [1, 51, 1, 3129] = true by decide +kernel) rfl (Or.inl rfl) rfl (Nat.le_of_ble_eq_true rfl) (by decide +kernel) (by decide) (isX4_L ho0) ((t_Pa_expectWord (T := T) (xs := xs) ho0 (jIsS_13) Hb7).mono (jKle 6 hd)) rfl ?_
      refine jEv.if_ne (t := 46) (show jfI 50 41 (.ifCond .ne 5) 3 [] = true by decide +kernel) rfl H (fun c8 H => ?_) (fun c8 H => ?_)
      · refine jEv.blk [(.iconst 0, 1, [])] (by decide +kernel) (pc' := 45) (ls' := [(2, Int.ofNat o0)]) (st' := [(0, 0)]) rfl ?_
        exact jEv.retZ (show jfI 50 45 (.ireturn) 1 [] = true by decide +kernel) (by decide +kernel) (by decide) (by cases H; exact HY)
      · refine jEv.blk [(.aload_n 0, 1, [])] (by decide +kernel) (pc' := 47) (ls' := [(2, Int.ofNat o0)]) (st' := [(2, Int.ofNat o0)]) rfl ?_
        refine jEv.gfD (show jfI 50 47 (.getfield 12) 3 [4, 0, 2, 0, 1126] = true by decide +kernel) (isX4_L ho0) (by decide) H (fun q9 hq9 H => ?_)
        refine jEv.blk [(.aload_n 0, 1, []), (.iconst 2, 1, []), (.iconst 4, 1, [])] (by decide +kernel) (pc' := 53) (ls' := [(2, Int.ofNat o0)]) (st' := [(0, 4), (0, 2), (2, Int.ofNat o0), (2, Int.ofNat q9)]) rfl ?_
        refine jbind H (fun b10 Hb10 H => ?_)
        refine jEv.calV (st' := [(0, b10.1), (2, Int.ofNat q9)]) (show jfI 50 53 (.invokevirtual 127) 3 [1, 56, 2, 3197] = true by decide +kernel) rfl (Or.inl rfl) rfl (Nat.le_of_ble_eq_true rfl) (by decide +kernel) (by decide) (isX4_L ho0) ((t_Pa_number (T := T) (xs := xs) ho0 Hb10).mono (jKle 2 hd)) rfl ?_
        refine jEv.pfI (show jfI 50 56 (.putfield 135) 3 [6, 1, 0, 0, 1062] = true by decide +kernel) (isX6_L hq9) (by decide) ?_
        refine jEv.blk [(.aload_n 0, 1, [])] (by decide +kernel) (pc' := 60) (ls' := [(2, Int.ofNat o0)]) (st' := [(2, Int.ofNat o0)]) rfl ?_
        refine jEv.gfD (show jfI 50 60 (.getfield 12) 3 [4, 0, 2, 0, 1126] = true by decide +kernel) (isX4_L ho0) (by decide) H (fun q11 hq11 H => ?_)
        refine jEv.gfI (show jfI 50 63 (.getfield 135) 3 [6, 1, 0, 0, 1062] = true by decide +kernel) (isX6_L hq11) (by decide) ?_
        refine jEv.blk [(.iconst (-1), 1, [])] (by decide +kernel) (pc' := 67) (ls' := [(2, Int.ofNat o0)]) (st' := [(0, (-1)), (0, ((jup b10.2 q9 1 b10.1) q11 1))]) rfl ?_
        refine jEv.ic_eq (t := 79) (show jfI 50 67 (.if_icmp .eq 12) 3 [] = true by decide +kernel) rfl H (fun c12 H => ?_) (fun c12 H => ?_)
        · refine jEv.blk [(.iconst 0, 1, [])] (by decide +kernel) (pc' := 80) (ls' := [(2, Int.ofNat o0)]) (st' := [(0, 0)]) rfl ?_
          exact jEv.retZ (show jfI 50 80 (.ireturn) 1 [] = true by decide +kernel) (by decide +kernel) (by decide) (by cases H; exact HY)
        · refine jEv.blk [(.aload_n 0, 1, []), (.ldc 137, 2, [4, 14, 0, 3205])] (by decide +kernel) (pc' := 73) (ls' := [(2, Int.ofNat o0)]) (st' := [(4, 14), (2, Int.ofNat o0)]) rfl ?_
          refine jbind H (fun b13 Hb13 H => ?_)
          refine jEv.calV (st' := [(0, b13.1)]) (show jfI 50 73 (.invokevirtual 124) 3 [1, 51, 1, 3129] = true by decide +kernel) rfl (Or.inl rfl) rfl (Nat.le_of_ble_eq_true rfl) (by decide +kernel) (by decide) (isX4_L ho0) ((t_Pa_expectWord (T := T) (xs := xs) ho0 (jIsS_14) Hb13).mono (jKle 6 hd)) rfl ?_
          refine jEv.if_ne (t := 81) (show jfI 50 76 (.ifCond .ne 5) 3 [] = true by decide +kernel) rfl H (fun c14 H => ?_) (fun c14 H => ?_)
          · refine jEv.blk [(.iconst 0, 1, [])] (by decide +kernel) (pc' := 80) (ls' := [(2, Int.ofNat o0)]) (st' := [(0, 0)]) rfl ?_
            exact jEv.retZ (show jfI 50 80 (.ireturn) 1 [] = true by decide +kernel) (by decide +kernel) (by decide) (by cases H; exact HY)
          · refine jEv.blk [(.aload_n 0, 1, [])] (by decide +kernel) (pc' := 82) (ls' := [(2, Int.ofNat o0)]) (st' := [(2, Int.ofNat o0)]) rfl ?_
            refine jEv.gfD (show jfI 50 82 (.getfield 12) 3 [4, 0, 2, 0, 1126] = true by decide +kernel) (isX4_L ho0) (by decide) H (fun q15 hq15 H => ?_)
            refine jEv.blk [(.aload_n 0, 1, []), (.bipush 16, 2, []), (.bipush 32, 2, [])] (by decide +kernel) (pc' := 90) (ls' := [(2, Int.ofNat o0)]) (st' := [(0, 32), (0, 16), (2, Int.ofNat o0), (2, Int.ofNat q15)]) rfl ?_
            refine jbind H (fun b16 Hb16 H => ?_)
            refine jEv.calV (st' := [(0, b16.1), (2, Int.ofNat q15)]) (show jfI 50 90 (.invokevirtual 127) 3 [1, 56, 2, 3197] = true by decide +kernel) rfl (Or.inl rfl) rfl (Nat.le_of_ble_eq_true rfl) (by decide +kernel) (by decide) (isX4_L ho0) ((t_Pa_number (T := T) (xs := xs) ho0 Hb16).mono (jKle 2 hd)) rfl ?_
            refine jEv.pfI (show jfI 50 93 (.putfield 139) 3 [6, 2, 0, 0, 1064] = true by decide +kernel) (isX6_L hq15) (by decide) ?_
            refine jEv.blk [(.aload_n 0, 1, [])] (by decide +kernel) (pc' := 97) (ls' := [(2, Int.ofNat o0)]) (st' := [(2, Int.ofNat o0)]) rfl ?_
            refine jEv.gfD (show jfI 50 97 (.getfield 12) 3 [4, 0, 2, 0, 1126] = true by decide +kernel) (isX4_L ho0) (by decide) H (fun q17 hq17 H => ?_)
            refine jEv.gfI (show jfI 50 100 (.getfield 139) 3 [6, 2, 0, 0, 1064] = true by decide +kernel) (isX6_L hq17) (by decide) ?_
            refine jEv.blk [(.iconst (-1), 1, [])] (by decide +kernel) (pc' := 104) (ls' := [(2, Int.ofNat o0)]) (st' := [(0, (-1)), (0, ((jup b16.2 q15 2 b16.1) q17 2))]) rfl ?_
            refine jEv.ic_eq (t := 111) (show jfI 50 104 (.if_icmp .eq 7) 3 [] = true by decide +kernel) rfl H (fun c18 H => ?_) (fun c18 H => ?_)
            · refine jEv.blk [(.iconst 0, 1, [])] (by decide +kernel) (pc' := 112) (ls' := [(2, Int.ofNat o0)]) (st' := [(0, 0)]) rfl ?_
              exact jEv.retZ (show jfI 50 112 (.ireturn) 1 [] = true by decide +kernel) (by decide +kernel) (by decide) (by cases H; exact HY)
            · refine jEv.blk [(.iconst 1, 1, [])] (by decide +kernel) (pc' := 108) (ls' := [(2, Int.ofNat o0)]) (st' := [(0, 1)]) rfl ?_
              refine jEv.goto (t := 112) (show jfI 50 108 (.goto 4) 3 [] = true by decide +kernel) rfl ?_
              exact jEv.retZ (show jfI 50 112 (.ireturn) 1 [] = true by decide +kernel) (by decide +kernel) (by decide) (by cases H; exact HY)
set_option maxRecDepth 20000 in
noncomputable def Pa_sign (T : jT) (h : jH) (o0 : Nat) (v1 : Int) : Option (Int × jH) := Option.bind (Pa_peek T h o0) (fun b1 => (if b1.1 = v1 then some (1, (jup b1.2 o0 7 (wr ((b1.2 o0 7) + 1)))) else some (0, b1.2)))
set_option maxRecDepth 20000 in
theorem t_Pa_sign {T : jT} {xs : List Int} {h : jH}  {o0 : Nat} {v1 : Int} {out : (Int × jH)} (ho0 : isX4 T o0) (H : Pa_sign T h o0 v1 = some out) : jEm xs 2 59 [(2, Int.ofNat o0), (0, v1)] (T, h) ((0, out.1), (T, out.2)) := by
  have hd : 1 ≤ 1 := Nat.le_refl _
  obtain ⟨y, ey⟩ : ∃ y : jV × jS, y = ((0, out.1), (T, out.2)) := ⟨_, rfl⟩
  rw [← ey]
  have HY : ykI T y out := ey
  refine jEm.ent (n := 2) (by decide +kernel) (Nat.le_of_ble_eq_true rfl) ?_
  show jEv xs 1 (59, 0, [(2, Int.ofNat o0), (0, v1)], []) (T, h) y
  unfold Pa_sign at H
  refine jEv.blk [(.aload_n 0, 1, [])] (by decide +kernel) (pc' := 1) (ls' := [(2, Int.ofNat o0), (0, v1)]) (st' := [(2, Int.ofNat o0)]) rfl ?_
  refine jbind H (fun b1 Hb1 H => ?_)
  refine jEv.calV (st' := [(0, b1.1)]) (show jfI 59 1 (.invokevirtual 54) 3 [1, 53, 0, 3137] = true by decide +kernel) rfl (Or.inl rfl) rfl (Nat.le_of_ble_eq_true rfl) (by decide +kernel) (by decide) (isX4_L ho0) ((t_Pa_peek (T := T) (xs := xs) ho0 Hb1).mono (jKle 1 hd)) rfl ?_
  refine jEv.blk [(.iload_n 1, 1, [])] (by decide +kernel) (pc' := 5) (ls' := [(2, Int.ofNat o0), (0, v1)]) (st' := [(0, v1), (0, b1.1)]) rfl ?_
  refine jEv.ic_eq (t := 10) (show jfI 59 5 (.if_icmp .eq 5) 3 [] = true by decide +kernel) rfl H (fun c2 H => ?_) (fun c2 H => ?_)
  · refine jEv.blk [(.aload_n 0, 1, []), (.dup, 1, [])] (by decide +kernel) (pc' := 12) (ls' := [(2, Int.ofNat o0), (0, v1)]) (st' := [(2, Int.ofNat o0), (2, Int.ofNat o0)]) rfl ?_
    refine jEv.gfI (show jfI 59 12 (.getfield 58) 3 [4, 7, 0, 0, 1138] = true by decide +kernel) (isX4_L ho0) (by decide) ?_
    refine jEv.blk [(.iconst 1, 1, []), (.iadd, 1, [])] (by decide +kernel) (pc' := 17) (ls' := [(2, Int.ofNat o0), (0, v1)]) (st' := [(0, (wr ((b1.2 o0 7) + 1))), (2, Int.ofNat o0)]) rfl ?_
    refine jEv.pfI (show jfI 59 17 (.putfield 58) 3 [4, 7, 0, 0, 1138] = true by decide +kernel) (isX4_L ho0) (by decide) ?_
    refine jEv.blk [(.iconst 1, 1, [])] (by decide +kernel) (pc' := 21) (ls' := [(2, Int.ofNat o0), (0, v1)]) (st' := [(0, 1)]) rfl ?_
    exact jEv.retZ (show jfI 59 21 (.ireturn) 1 [] = true by decide +kernel) (by decide +kernel) (by decide) (by cases H; exact HY)
  · refine jEv.blk [(.iconst 0, 1, [])] (by decide +kernel) (pc' := 9) (ls' := [(2, Int.ofNat o0), (0, v1)]) (st' := [(0, 0)]) rfl ?_
    exact jEv.retZ (show jfI 59 9 (.ireturn) 1 [] = true by decide +kernel) (by decide +kernel) (by decide) (by cases H; exact HY)
set_option maxRecDepth 20000 in
noncomputable def Pa_expect_p20 (T : jT) (h : jH)  : Option (Int × jH) := some (1, h)
set_option maxRecDepth 20000 in
theorem t_Pa_expect_p20 {T : jT} {xs : List Int} {d : Nat} {y : jV × jS} (hd : 2 ≤ d) {h : jH}   {out : (Int × jH)}  (H : Pa_expect_p20 T h = some out) (HY : ykI T y out) : jEv xs d (58, 20, [(3, 0), (3, 0)], []) (T, h) y := by
  unfold Pa_expect_p20 at H
  refine jEv.blk [(.iconst 1, 1, [])] (by decide +kernel) (pc' := 21) (ls' := [(3, 0), (3, 0)]) (st' := [(0, 1)]) rfl ?_
  refine jEv.goto (t := 25) (show jfI 58 21 (.goto 4) 3 [] = true by decide +kernel) rfl ?_
  exact jEv.retZ (show jfI 58 25 (.ireturn) 1 [] = true by decide +kernel) (by decide +kernel) (by decide) (by cases H; exact HY)
set_option maxRecDepth 20000 in
noncomputable def Pa_expect (T : jT) (h : jH) (o0 : Nat) (v1 : Int) : Option (Int × jH) := Option.bind (Pa_sign T h o0 v1) (fun b1 => (if b1.1 = 0 then Option.bind (Pa_fail b1.2 o0 1 (b1.2 o0 7)) (fun b3 => (if b3.1 = 0 then some (0, b3.2) else Pa_expect_p20 T b3.2)) else Pa_expect_p20 T b1.2))
set_option maxRecDepth 20000 in
theorem t_Pa_expect {T : jT} {xs : List Int} {h : jH}  {o0 : Nat} {v1 : Int} {out : (Int × jH)} (ho0 : isX4 T o0) (H : Pa_expect T h o0 v1 = some out) : jEm xs 3 58 [(2, Int.ofNat o0), (0, v1)] (T, h) ((0, out.1), (T, out.2)) := by
  have hd : 2 ≤ 2 := Nat.le_refl _
  obtain ⟨y, ey⟩ : ∃ y : jV × jS, y = ((0, out.1), (T, out.2)) := ⟨_, rfl⟩
  rw [← ey]
  have HY : ykI T y out := ey
  refine jEm.ent (n := 2) (by decide +kernel) (Nat.le_of_ble_eq_true rfl) ?_
  show jEv xs 2 (58, 0, [(2, Int.ofNat o0), (0, v1)], []) (T, h) y
  unfold Pa_expect at H
  refine jEv.blk [(.aload_n 0, 1, []), (.iload_n 1, 1, [])] (by decide +kernel) (pc' := 2) (ls' := [(2, Int.ofNat o0), (0, v1)]) (st' := [(0, v1), (2, Int.ofNat o0)]) rfl ?_
  refine jbind H (fun b1 Hb1 H => ?_)
  refine jEv.calV (st' := [(0, b1.1)]) (show jfI 58 2 (.invokevirtual 99) 3 [1, 59, 1, 3210] = true by decide +kernel) rfl (Or.inl rfl) rfl (Nat.le_of_ble_eq_true rfl) (by decide +kernel) (by decide) (isX4_L ho0) ((t_Pa_sign (T := T) (xs := xs) ho0 Hb1).mono (jKle 2 hd)) rfl ?_
  refine jEv.if_ne (t := 20) (show jfI 58 5 (.ifCond .ne 15) 3 [] = true by decide +kernel) rfl H (fun c2 H => ?_) (fun c2 H => ?_)
  · refine jEv.blk [(.aload_n 0, 1, []), (.iconst 1, 1, []), (.aload_n 0, 1, [])] (by decide +kernel) (pc' := 11) (ls' := [(2, Int.ofNat o0), (0, v1)]) (st' := [(2, Int.ofNat o0), (0, 1), (2, Int.ofNat o0)]) rfl ?_
    refine jEv.gfI (show jfI 58 11 (.getfield 58) 3 [4, 7, 0, 0, 1138] = true by decide +kernel) (isX4_L ho0) (by decide) ?_
    refine jbind H (fun b3 Hb3 H => ?_)
    refine jEv.calV (st' := [(0, b3.1)]) (show jfI 58 14 (.invokevirtual 61) 3 [1, 55, 2, 3193] = true by decide +kernel) rfl (Or.inl rfl) rfl (Nat.le_of_ble_eq_true rfl) (by decide +kernel) (by decide) (isX4_L ho0) ((t_Pa_fail (T := T) (xs := xs) ho0 Hb3).mono (jKle 1 hd)) rfl ?_
    refine jEv.if_eq (t := 24) (show jfI 58 17 (.ifCond .eq 7) 3 [] = true by decide +kernel) rfl H (fun c4 H => ?_) (fun c4 H => ?_)
    · refine jEv.blk [(.iconst 0, 1, [])] (by decide +kernel) (pc' := 25) (ls' := [(2, Int.ofNat o0), (0, v1)]) (st' := [(0, 0)]) rfl ?_
      exact jEv.retZ (show jfI 58 25 (.ireturn) 1 [] = true by decide +kernel) (by decide +kernel) (by decide) (by cases H; exact HY)
    · exact jEv.weak (a := [(3, 0), (3, 0)]) (jles.c0 (jles.c0 jles.nl)) (t_Pa_expect_p20 (T := T) (xs := xs) (y := y) hd H HY)
  · exact jEv.weak (a := [(3, 0), (3, 0)]) (jles.c0 (jles.c0 jles.nl)) (t_Pa_expect_p20 (T := T) (xs := xs) (y := y) hd H HY)
set_option maxRecDepth 20000 in
noncomputable def Pl_addPut  (h : jH) (o0 : Nat) (v1 : Int) (v2 : Int) (v3 : Int) : Option jH := Option.bind (G_put h (o0 + 9) 40 (h o0 12) v1) (fun b1 => Option.bind (G_put b1 (o0 + 10) 40 (b1 o0 12) v2) (fun b2 => Option.bind (G_put b2 (o0 + 11) 40 (b2 o0 12) v3) (fun b3 => some (jup b3 o0 12 (wr ((b3 o0 12) + 1))))))
set_option maxRecDepth 20000 in
theorem t_Pl_addPut {T : jT} {xs : List Int} {h : jH}  {o0 : Nat} {v1 : Int} {v2 : Int} {v3 : Int} {out : jH} (ho0 : isX6 T o0) (H : Pl_addPut h o0 v1 v2 v3 = some out) : jEm xs 2 89 [(2, Int.ofNat o0), (0, v1), (0, v2), (0, v3)] (T, h) ((3, 0), (T, out)) := by
  have hd : 1 ≤ 1 := Nat.le_refl _
  obtain ⟨y, ey⟩ : ∃ y : jV × jS, y = ((3, 0), (T, out)) := ⟨_, rfl⟩
  rw [← ey]
  have HY : ykV T y out := ey
  refine jEm.ent (n := 4) (by decide +kernel) (Nat.le_of_ble_eq_true rfl) ?_
  show jEv xs 1 (89, 0, [(2, Int.ofNat o0), (0, v1), (0, v2), (0, v3)], []) (T, h) y
  unfold Pl_addPut at H
  refine jEv.blk [(.aload_n 0, 1, [])] (by decide +kernel) (pc' := 1) (ls' := [(2, Int.ofNat o0), (0, v1), (0, v2), (0, v3)]) (st' := [(2, Int.ofNat o0)]) rfl ?_
  refine jEv.gfR (o' := (o0 + 9)) (show jfI 89 1 (.getfield 21) 3 [6, 9, 5, 0, 1081] = true by decide +kernel) (isX6_L ho0) (by decide) (isX6_r9 ho0) ?_
  refine jEv.blk [(.aload_n 0, 1, [])] (by decide +kernel) (pc' := 5) (ls' := [(2, Int.ofNat o0), (0, v1), (0, v2), (0, v3)]) (st' := [(2, Int.ofNat o0), (2, Int.ofNat (o0 + 9))]) rfl ?_
  refine jEv.gfI (show jfI 89 5 (.getfield 38) 3 [6, 12, 0, 0, 1087] = true by decide +kernel) (isX6_L ho0) (by decide) ?_
  refine jEv.blk [(.iload_n 1, 1, [])] (by decide +kernel) (pc' := 9) (ls' := [(2, Int.ofNat o0), (0, v1), (0, v2), (0, v3)]) (st' := [(0, v1), (0, (h o0 12)), (2, Int.ofNat (o0 + 9))]) rfl ?_
  refine jbind H (fun b1 Hb1 H => ?_)
  refine jEv.calS (st' := []) (show jfI 89 9 (.invokestatic 58) 3 [4, 138, 3, 3228] = true by decide +kernel) rfl (Or.inr rfl) rfl (Nat.le_of_ble_eq_true rfl) ((t_G_put (T := T) (xs := xs) (isX6_a9 ho0) Hb1).mono (jKle 1 hd)) rfl ?_
  refine jEv.blk [(.aload_n 0, 1, [])] (by decide +kernel) (pc' := 13) (ls' := [(2, Int.ofNat o0), (0, v1), (0, v2), (0, v3)]) (st' := [(2, Int.ofNat o0)]) rfl ?_
  refine jEv.gfR (o' := (o0 + 10)) (show jfI 89 13 (.getfield 25) 3 [6, 10, 5, 0, 1083] = true by decide +kernel) (isX6_L ho0) (by decide) (isX6_r10 ho0) ?_
  refine jEv.blk [(.aload_n 0, 1, [])] (by decide +kernel) (pc' := 17) (ls' := [(2, Int.ofNat o0), (0, v1), (0, v2), (0, v3)]) (st' := [(2, Int.ofNat o0), (2, Int.ofNat (o0 + 10))]) rfl ?_
  refine jEv.gfI (show jfI 89 17 (.getfield 38) 3 [6, 12, 0, 0, 1087] = true by decide +kernel) (isX6_L ho0) (by decide) ?_
  refine jEv.blk [(.iload_n 2, 1, [])] (by decide +kernel) (pc' := 21) (ls' := [(2, Int.ofNat o0), (0, v1), (0, v2), (0, v3)]) (st' := [(0, v2), (0, (b1 o0 12)), (2, Int.ofNat (o0 + 10))]) rfl ?_
  refine jbind H (fun b2 Hb2 H => ?_)
  refine jEv.calS (st' := []) (show jfI 89 21 (.invokestatic 58) 3 [4, 138, 3, 3228] = true by decide +kernel) rfl (Or.inr rfl) rfl (Nat.le_of_ble_eq_true rfl) ((t_G_put (T := T) (xs := xs) (isX6_a10 ho0) Hb2).mono (jKle 1 hd)) rfl ?_
  refine jEv.blk [(.aload_n 0, 1, [])] (by decide +kernel) (pc' := 25) (ls' := [(2, Int.ofNat o0), (0, v1), (0, v2), (0, v3)]) (st' := [(2, Int.ofNat o0)]) rfl ?_
  refine jEv.gfR (o' := (o0 + 11)) (show jfI 89 25 (.getfield 28) 3 [6, 11, 5, 0, 1085] = true by decide +kernel) (isX6_L ho0) (by decide) (isX6_r11 ho0) ?_
  refine jEv.blk [(.aload_n 0, 1, [])] (by decide +kernel) (pc' := 29) (ls' := [(2, Int.ofNat o0), (0, v1), (0, v2), (0, v3)]) (st' := [(2, Int.ofNat o0), (2, Int.ofNat (o0 + 11))]) rfl ?_
  refine jEv.gfI (show jfI 89 29 (.getfield 38) 3 [6, 12, 0, 0, 1087] = true by decide +kernel) (isX6_L ho0) (by decide) ?_
  refine jEv.blk [(.iload_n 3, 1, [])] (by decide +kernel) (pc' := 33) (ls' := [(2, Int.ofNat o0), (0, v1), (0, v2), (0, v3)]) (st' := [(0, v3), (0, (b2 o0 12)), (2, Int.ofNat (o0 + 11))]) rfl ?_
  refine jbind H (fun b3 Hb3 H => ?_)
  refine jEv.calS (st' := []) (show jfI 89 33 (.invokestatic 58) 3 [4, 138, 3, 3228] = true by decide +kernel) rfl (Or.inr rfl) rfl (Nat.le_of_ble_eq_true rfl) ((t_G_put (T := T) (xs := xs) (isX6_a11 ho0) Hb3).mono (jKle 1 hd)) rfl ?_
  refine jEv.blk [(.aload_n 0, 1, []), (.dup, 1, [])] (by decide +kernel) (pc' := 38) (ls' := [(2, Int.ofNat o0), (0, v1), (0, v2), (0, v3)]) (st' := [(2, Int.ofNat o0), (2, Int.ofNat o0)]) rfl ?_
  refine jEv.gfI (show jfI 89 38 (.getfield 38) 3 [6, 12, 0, 0, 1087] = true by decide +kernel) (isX6_L ho0) (by decide) ?_
  refine jEv.blk [(.iconst 1, 1, []), (.iadd, 1, [])] (by decide +kernel) (pc' := 43) (ls' := [(2, Int.ofNat o0), (0, v1), (0, v2), (0, v3)]) (st' := [(0, (wr ((b3 o0 12) + 1))), (2, Int.ofNat o0)]) rfl ?_
  refine jEv.pfI (show jfI 89 43 (.putfield 38) 3 [6, 12, 0, 0, 1087] = true by decide +kernel) (isX6_L ho0) (by decide) ?_
  exact jEv.retV (show jfI 89 46 (.return_) 1 [] = true by decide +kernel) (by decide +kernel) (by cases H; exact HY)
set_option maxRecDepth 20000 in
noncomputable def Pa_record (T : jT) (h : jH) (o0 : Nat) : Option (Int × jH) := Option.bind (Pa_number T h o0 0 15) (fun b1 => (if b1.1 = (-1) then some (0, b1.2) else Option.bind (Pa_number T b1.2 o0 0 999) (fun b3 => (if b3.1 = (-1) then some (0, b3.2) else Option.bind (Pa_expectWord T b3.2 o0 [115, 105, 122, 101]) (fun b5 => (if b5.1 = 0 then some (0, b5.2) else Option.bind (Pa_number T b5.2 o0 0 40) (fun b7 => (if b7.1 = (-1) then some (0, b7.2) else Option.bind (jdyn (isX6 T) (b7.2 o0 0)) (fun q9 => Option.bind (Pl_addPut b7.2 q9 b1.1 b3.1 b7.1) (fun b10 => some (1, b10)))))))))))
set_option maxRecDepth 20000 in
theorem t_Pa_record {T : jT} {xs : List Int} {h : jH}  {o0 : Nat} {out : (Int × jH)} (ho0 : isX4 T o0) (H : Pa_record T h o0 = some out) : jEm xs 7 61 [(2, Int.ofNat o0)] (T, h) ((0, out.1), (T, out.2)) := by
  have hd : 6 ≤ 6 := Nat.le_refl _
  obtain ⟨y, ey⟩ : ∃ y : jV × jS, y = ((0, out.1), (T, out.2)) := ⟨_, rfl⟩
  rw [← ey]
  have HY : ykI T y out := ey
  refine jEm.ent (n := 4) (by decide +kernel) (Nat.le_of_ble_eq_true rfl) ?_
  show jEv xs 6 (61, 0, [(2, Int.ofNat o0), (3, 0), (3, 0), (3, 0)], []) (T, h) y
  unfold Pa_record at H
  refine jEv.blk [(.aload_n 0, 1, []), (.iconst 0, 1, []), (.bipush 15, 2, [])] (by decide +kernel) (pc' := 4) (ls' := [(2, Int.ofNat o0), (3, 0), (3, 0), (3, 0)]) (st' := [(0, 15), (0, 0), (2, Int.ofNat o0)]) rfl ?_
  refine jbind H (fun b1 Hb1 H => ?_)
  refine jEv.calV (st' := [(0, b1.1)]) (show jfI 61 4 (.invokevirtual 127) 3 [1, 56, 2, 3197] = true by decide +kernel) rfl (Or.inl rfl) rfl (Nat.le_of_ble_eq_true rfl) (by decide +kernel) (by decide) (isX4_L ho0) ((t_Pa_number (T := T) (xs := xs) ho0 Hb1).mono (jKle 2 hd)) rfl ?_
  refine jEv.blk [(.istore_n 1, 1, []), (.iload_n 1, 1, []), (.iconst (-1), 1, [])] (by decide +kernel) (pc' := 10) (ls' := [(2, Int.ofNat o0), (0, b1.1), (3, 0), (3, 0)]) (st' := [(0, (-1)), (0, b1.1)]) rfl ?_
  refine jEv.ic_ne (t := 15) (show jfI 61 10 (.if_icmp .ne 5) 3 [] = true by decide +kernel) rfl H (fun c2 H => ?_) (fun c2 H => ?_)
  · refine jEv.blk [(.iconst 0, 1, [])] (by decide +kernel) (pc' := 14) (ls' := [(2, Int.ofNat o0), (0, b1.1), (3, 0), (3, 0)]) (st' := [(0, 0)]) rfl ?_
    exact jEv.retZ (show jfI 61 14 (.ireturn) 1 [] = true by decide +kernel) (by decide +kernel) (by decide) (by cases H; exact HY)
  · refine jEv.blk [(.aload_n 0, 1, []), (.iconst 0, 1, []), (.sipush 999, 3, [])] (by decide +kernel) (pc' := 20) (ls' := [(2, Int.ofNat o0), (0, b1.1), (3, 0), (3, 0)]) (st' := [(0, 999), (0, 0), (2, Int.ofNat o0)]) rfl ?_
    refine jbind H (fun b3 Hb3 H => ?_)
    refine jEv.calV (st' := [(0, b3.1)]) (show jfI 61 20 (.invokevirtual 127) 3 [1, 56, 2, 3197] = true by decide +kernel) rfl (Or.inl rfl) rfl (Nat.le_of_ble_eq_true rfl) (by decide +kernel) (by decide) (isX4_L ho0) ((t_Pa_number (T := T) (xs := xs) ho0 Hb3).mono (jKle 2 hd)) rfl ?_
    refine jEv.blk [(.istore_n 2, 1, []), (.iload_n 2, 1, []), (.iconst (-1), 1, [])] (by decide +kernel) (pc' := 26) (ls' := [(2, Int.ofNat o0), (0, b1.1), (0, b3.1), (3, 0)]) (st' := [(0, (-1)), (0, b3.1)]) rfl ?_
    refine jEv.ic_eq (t := 38) (show jfI 61 26 (.if_icmp .eq 12) 3 [] = true by decide +kernel) rfl H (fun c4 H => ?_) (fun c4 H => ?_)
    · refine jEv.blk [(.iconst 0, 1, [])] (by decide +kernel) (pc' := 39) (ls' := [(2, Int.ofNat o0), (0, b1.1), (0, b3.1), (3, 0)]) (st' := [(0, 0)]) rfl ?_
      exact jEv.retZ (show jfI 61 39 (.ireturn) 1 [] = true by decide +kernel) (by decide +kernel) (by decide) (by cases H; exact HY)
    · refine jEv.blk [(.aload_n 0, 1, []), (.ldc 165, 2, [4, 34, 0, 3223])] (by decide +kernel) (pc' := 32) (ls' := [(2, Int.ofNat o0), (0, b1.1), (0, b3.1), (3, 0)]) (st' := [(4, 34), (2, Int.ofNat o0)]) rfl ?_
      refine jbind H (fun b5 Hb5 H => ?_)
      refine jEv.calV (st' := [(0, b5.1)]) (show jfI 61 32 (.invokevirtual 124) 3 [1, 51, 1, 3129] = true by decide +kernel) rfl (Or.inl rfl) rfl (Nat.le_of_ble_eq_true rfl) (by decide +kernel) (by decide) (isX4_L ho0) ((t_Pa_expectWord (T := T) (xs := xs) ho0 (jIsS_34) Hb5).mono (jKle 6 hd)) rfl ?_
      refine jEv.if_ne (t := 40) (show jfI 61 35 (.ifCond .ne 5) 3 [] = true by decide +kernel) rfl H (fun c6 H => ?_) (fun c6 H => ?_)
      · refine jEv.blk [(.iconst 0, 1, [])] (by decide +kernel) (pc' := 39) (ls' := [(2, Int.ofNat o0), (0, b1.1), (0, b3.1), (3, 0)]) (st' := [(0, 0)]) rfl ?_
        exact jEv.retZ (show jfI 61 39 (.ireturn) 1 [] = true by decide +kernel) (by decide +kernel) (by decide) (by cases H; exact HY)
      · refine jEv.blk [(.aload_n 0, 1, []), (.iconst 0, 1, []), (.bipush 40, 2, [])] (by decide +kernel) (pc' := 44) (ls' := [(2, Int.ofNat o0), (0, b1.1), (0, b3.1), (3, 0)]) (st' := [(0, 40), (0, 0), (2, Int.ofNat o0)]) rfl ?_
        refine jbind H (fun b7 Hb7 H => ?_)
        refine jEv.calV (st' := [(0, b7.1)]) (show jfI 61 44 (.invokevirtual 127) 3 [1, 56, 2, 3197] = true by decide +kernel) rfl (Or.inl rfl) rfl (Nat.le_of_ble_eq_true rfl) (by decide +kernel) (by decide) (isX4_L ho0) ((t_Pa_number (T := T) (xs := xs) ho0 Hb7).mono (jKle 2 hd)) rfl ?_
        refine jEv.blk [(.istore_n 3, 1, []), (.iload_n 3, 1, []), (.iconst (-1), 1, [])] (by decide +kernel) (pc' := 50) (ls' := [(2, Int.ofNat o0), (0, b1.1), (0, b3.1), (0, b7.1)]) (st' := [(0, (-1)), (0, b7.1)]) rfl ?_
        refine jEv.ic_ne (t := 55) (show jfI 61 50 (.if_icmp .ne 5) 3 [] = true by decide +kernel) rfl H (fun c8 H => ?_) (fun c8 H => ?_)
        · refine jEv.blk [(.iconst 0, 1, [])] (by decide +kernel) (pc' := 54) (ls' := [(2, Int.ofNat o0), (0, b1.1), (0, b3.1), (0, b7.1)]) (st' := [(0, 0)]) rfl ?_
          exact jEv.retZ (show jfI 61 54 (.ireturn) 1 [] = true by decide +kernel) (by decide +kernel) (by decide) (by cases H; exact HY)
        · refine jEv.blk [(.aload_n 0, 1, [])] (by decide +kernel) (pc' := 56) (ls' := [(2, Int.ofNat o0), (0, b1.1), (0, b3.1), (0, b7.1)]) (st' := [(2, Int.ofNat o0)]) rfl ?_
          refine jEv.gfD (show jfI 61 56 (.getfield 12) 3 [4, 0, 2, 0, 1126] = true by decide +kernel) (isX4_L ho0) (by decide) H (fun q9 hq9 H => ?_)
          refine jEv.blk [(.iload_n 1, 1, []), (.iload_n 2, 1, []), (.iload_n 3, 1, [])] (by decide +kernel) (pc' := 62) (ls' := [(2, Int.ofNat o0), (0, b1.1), (0, b3.1), (0, b7.1)]) (st' := [(0, b7.1), (0, b3.1), (0, b1.1), (2, Int.ofNat q9)]) rfl ?_
          refine jbind H (fun b10 Hb10 H => ?_)
          refine jEv.calV (st' := []) (show jfI 61 62 (.invokevirtual 167) 3 [1, 89, 3, 3224] = true by decide +kernel) rfl (Or.inl rfl) rfl (Nat.le_of_ble_eq_true rfl) (by decide +kernel) (by decide) (isX6_L hq9) ((t_Pl_addPut (T := T) (xs := xs) hq9 Hb10).mono (jKle 2 hd)) rfl ?_
          refine jEv.blk [(.iconst 1, 1, [])] (by decide +kernel) (pc' := 66) (ls' := [(2, Int.ofNat o0), (0, b1.1), (0, b3.1), (0, b7.1)]) (st' := [(0, 1)]) rfl ?_
          exact jEv.retZ (show jfI 61 66 (.ireturn) 1 [] = true by decide +kernel) (by decide +kernel) (by decide) (by cases H; exact HY)
set_option maxRecDepth 20000 in
noncomputable def Pa_aim (T : jT) (h : jH) (o0 : Nat) (o1 : Nat) (v2 : Int) : Option jH := Option.bind (jdyn (isX2 T) ((jup h o0 9 (Int.ofNat o1)) o0 9)) (fun q1 => Option.bind (Fo_clear (jup h o0 9 (Int.ofNat o1)) q1) (fun b2 => some (jup (jup b2 o0 10 v2) o0 11 0)))
set_option maxRecDepth 20000 in
theorem t_Pa_aim {T : jT} {xs : List Int} {h : jH}  {o0 : Nat} {o1 : Nat} {v2 : Int} {out : jH} (ho0 : isX4 T o0) (ho1 : isX2 T o1) (H : Pa_aim T h o0 o1 v2 = some out) : jEm xs 2 62 [(2, Int.ofNat o0), (2, Int.ofNat o1), (0, v2)] (T, h) ((3, 0), (T, out)) := by
  have hd : 1 ≤ 1 := Nat.le_refl _
  obtain ⟨y, ey⟩ : ∃ y : jV × jS, y = ((3, 0), (T, out)) := ⟨_, rfl⟩
  rw [← ey]
  have HY : ykV T y out := ey
  refine jEm.ent (n := 3) (by decide +kernel) (Nat.le_of_ble_eq_true rfl) ?_
  show jEv xs 1 (62, 0, [(2, Int.ofNat o0), (2, Int.ofNat o1), (0, v2)], []) (T, h) y
  unfold Pa_aim at H
  refine jEv.blk [(.aload_n 0, 1, []), (.aload_n 1, 1, [])] (by decide +kernel) (pc' := 2) (ls' := [(2, Int.ofNat o0), (2, Int.ofNat o1), (0, v2)]) (st' := [(2, Int.ofNat o1), (2, Int.ofNat o0)]) rfl ?_
  refine jEv.pfD (show jfI 62 2 (.putfield 33) 3 [4, 9, 2, 0, 1140] = true by decide +kernel) (isX4_L ho0) (by decide) ?_
  refine jEv.blk [(.aload_n 0, 1, [])] (by decide +kernel) (pc' := 6) (ls' := [(2, Int.ofNat o0), (2, Int.ofNat o1), (0, v2)]) (st' := [(2, Int.ofNat o0)]) rfl ?_
  refine jEv.gfD (show jfI 62 6 (.getfield 33) 3 [4, 9, 2, 0, 1140] = true by decide +kernel) (isX4_L ho0) (by decide) H (fun q1 hq1 H => ?_)
  refine jbind H (fun b2 Hb2 H => ?_)
  refine jEv.calV (st' := []) (show jfI 62 9 (.invokevirtual 183) 3 [1, 29, 0, 3235] = true by decide +kernel) rfl (Or.inl rfl) rfl (Nat.le_of_ble_eq_true rfl) (by decide +kernel) (by decide) (isX2_L hq1) ((t_Fo_clear (T := T) (xs := xs) hq1 Hb2).mono (jKle 1 hd)) rfl ?_
  refine jEv.blk [(.aload_n 0, 1, []), (.iload_n 2, 1, [])] (by decide +kernel) (pc' := 14) (ls' := [(2, Int.ofNat o0), (2, Int.ofNat o1), (0, v2)]) (st' := [(0, v2), (2, Int.ofNat o0)]) rfl ?_
  refine jEv.pfI (show jfI 62 14 (.putfield 184) 3 [4, 10, 0, 0, 1141] = true by decide +kernel) (isX4_L ho0) (by decide) ?_
  refine jEv.blk [(.aload_n 0, 1, []), (.iconst 0, 1, [])] (by decide +kernel) (pc' := 19) (ls' := [(2, Int.ofNat o0), (2, Int.ofNat o1), (0, v2)]) (st' := [(0, 0), (2, Int.ofNat o0)]) rfl ?_
  refine jEv.pfI (show jfI 62 19 (.putfield 187) 3 [4, 11, 0, 0, 1142] = true by decide +kernel) (isX4_L ho0) (by decide) ?_
  exact jEv.retV (show jfI 62 22 (.return_) 1 [] = true by decide +kernel) (by decide +kernel) (by cases H; exact HY)
set_option maxRecDepth 20000 in
noncomputable def Pa_opens  (h : jH) (o0 : Nat) (v1 : Int) : Option (Int × jH) := (if (h o0 11) < 6 then some (1, (jup h o0 11 (wr ((h o0 11) + 1)))) else Option.bind (Pa_fail h o0 4 v1) (fun b2 => (if b2.1 = 0 ∨ b2.1 = 1 then some (b2.1, b2.2) else none)))
set_option maxRecDepth 20000 in
theorem t_Pa_opens {T : jT} {xs : List Int} {h : jH}  {o0 : Nat} {v1 : Int} {out : (Int × jH)} (ho0 : isX4 T o0) (H : Pa_opens h o0 v1 = some out) : jEm xs 2 67 [(2, Int.ofNat o0), (0, v1)] (T, h) ((0, out.1), (T, out.2)) := by
  have hd : 1 ≤ 1 := Nat.le_refl _
  obtain ⟨y, ey⟩ : ∃ y : jV × jS, y = ((0, out.1), (T, out.2)) := ⟨_, rfl⟩
  rw [← ey]
  have HY : ykI T y out := ey
  refine jEm.ent (n := 2) (by decide +kernel) (Nat.le_of_ble_eq_true rfl) ?_
  show jEv xs 1 (67, 0, [(2, Int.ofNat o0), (0, v1)], []) (T, h) y
  unfold Pa_opens at H
  refine jEv.blk [(.aload_n 0, 1, [])] (by decide +kernel) (pc' := 1) (ls' := [(2, Int.ofNat o0), (0, v1)]) (st' := [(2, Int.ofNat o0)]) rfl ?_
  refine jEv.gfI (show jfI 67 1 (.getfield 187) 3 [4, 11, 0, 0, 1142] = true by decide +kernel) (isX4_L ho0) (by decide) ?_
  refine jEv.blk [(.bipush 6, 2, [])] (by decide +kernel) (pc' := 6) (ls' := [(2, Int.ofNat o0), (0, v1)]) (st' := [(0, 6), (0, (h o0 11))]) rfl ?_
  refine jEv.ic_lt (t := 16) (show jfI 67 6 (.if_icmp .lt 10) 3 [] = true by decide +kernel) rfl H (fun c1 H => ?_) (fun c1 H => ?_)
  · refine jEv.blk [(.aload_n 0, 1, []), (.dup, 1, [])] (by decide +kernel) (pc' := 18) (ls' := [(2, Int.ofNat o0), (0, v1)]) (st' := [(2, Int.ofNat o0), (2, Int.ofNat o0)]) rfl ?_
    refine jEv.gfI (show jfI 67 18 (.getfield 187) 3 [4, 11, 0, 0, 1142] = true by decide +kernel) (isX4_L ho0) (by decide) ?_
    refine jEv.blk [(.iconst 1, 1, []), (.iadd, 1, [])] (by decide +kernel) (pc' := 23) (ls' := [(2, Int.ofNat o0), (0, v1)]) (st' := [(0, (wr ((h o0 11) + 1))), (2, Int.ofNat o0)]) rfl ?_
    refine jEv.pfI (show jfI 67 23 (.putfield 187) 3 [4, 11, 0, 0, 1142] = true by decide +kernel) (isX4_L ho0) (by decide) ?_
    refine jEv.blk [(.iconst 1, 1, [])] (by decide +kernel) (pc' := 27) (ls' := [(2, Int.ofNat o0), (0, v1)]) (st' := [(0, 1)]) rfl ?_
    exact jEv.retZ (show jfI 67 27 (.ireturn) 1 [] = true by decide +kernel) (by decide +kernel) (by decide) (by cases H; exact HY)
  · refine jEv.blk [(.aload_n 0, 1, []), (.iconst 4, 1, []), (.iload_n 1, 1, [])] (by decide +kernel) (pc' := 12) (ls' := [(2, Int.ofNat o0), (0, v1)]) (st' := [(0, v1), (0, 4), (2, Int.ofNat o0)]) rfl ?_
    refine jbind H (fun b2 Hb2 H => ?_)
    refine jEv.calV (st' := [(0, b2.1)]) (show jfI 67 12 (.invokevirtual 61) 3 [1, 55, 2, 3193] = true by decide +kernel) rfl (Or.inl rfl) rfl (Nat.le_of_ble_eq_true rfl) (by decide +kernel) (by decide) (isX4_L ho0) ((t_Pa_fail (T := T) (xs := xs) ho0 Hb2).mono (jKle 1 hd)) rfl ?_
    refine jchk H (fun c3 H => ?_)
    exact jEv.retZ (show jfI 67 15 (.ireturn) 1 [] = true by decide +kernel) (by decide +kernel) c3 (by cases H; exact HY)
set_option maxRecDepth 20000 in
noncomputable def Pa_ends  (h : jH) (o0 : Nat) : Option (Int × jH) := some (1, (jup h o0 11 (wr ((h o0 11) - 1))))
set_option maxRecDepth 20000 in
theorem t_Pa_ends {T : jT} {xs : List Int} {h : jH}  {o0 : Nat} {out : (Int × jH)} (ho0 : isX4 T o0) (H : Pa_ends h o0 = some out) : jEm xs 1 68 [(2, Int.ofNat o0)] (T, h) ((0, out.1), (T, out.2)) := by
  have hd : 0 ≤ 0 := Nat.le_refl _
  obtain ⟨y, ey⟩ : ∃ y : jV × jS, y = ((0, out.1), (T, out.2)) := ⟨_, rfl⟩
  rw [← ey]
  have HY : ykI T y out := ey
  refine jEm.ent (n := 1) (by decide +kernel) (Nat.le_of_ble_eq_true rfl) ?_
  show jEv xs 0 (68, 0, [(2, Int.ofNat o0)], []) (T, h) y
  unfold Pa_ends at H
  refine jEv.blk [(.aload_n 0, 1, []), (.dup, 1, [])] (by decide +kernel) (pc' := 2) (ls' := [(2, Int.ofNat o0)]) (st' := [(2, Int.ofNat o0), (2, Int.ofNat o0)]) rfl ?_
  refine jEv.gfI (show jfI 68 2 (.getfield 187) 3 [4, 11, 0, 0, 1142] = true by decide +kernel) (isX4_L ho0) (by decide) ?_
  refine jEv.blk [(.iconst 1, 1, []), (.isub, 1, [])] (by decide +kernel) (pc' := 7) (ls' := [(2, Int.ofNat o0)]) (st' := [(0, (wr ((h o0 11) - 1))), (2, Int.ofNat o0)]) rfl ?_
  refine jEv.pfI (show jfI 68 7 (.putfield 187) 3 [4, 11, 0, 0, 1142] = true by decide +kernel) (isX4_L ho0) (by decide) ?_
  refine jEv.blk [(.iconst 1, 1, [])] (by decide +kernel) (pc' := 11) (ls' := [(2, Int.ofNat o0)]) (st' := [(0, 1)]) rfl ?_
  exact jEv.retZ (show jfI 68 11 (.ireturn) 1 [] = true by decide +kernel) (by decide +kernel) (by decide) (by cases H; exact HY)
set_option maxRecDepth 20000 in
noncomputable def Pa_factNamed_p156 (T : jT) (h : jH)  : Option (Int × jH) := some ((-1), h)
set_option maxRecDepth 20000 in
theorem t_Pa_factNamed_p156 {T : jT} {xs : List Int} {d : Nat} {y : jV × jS} (hd : 5 ≤ d) {h : jH}   {out : (Int × jH)}  (H : Pa_factNamed_p156 T h = some out) (HY : ykI T y out) : jEv xs d (74, 156, [(3, 0), (3, 0)], []) (T, h) y := by
  unfold Pa_factNamed_p156 at H
  refine jEv.blk [(.iconst (-1), 1, [])] (by decide +kernel) (pc' := 157) (ls' := [(3, 0), (3, 0)]) (st' := [(0, (-1))]) rfl ?_
  exact jEv.retI (show jfI 74 157 (.ireturn) 1 [] = true by decide +kernel) (by decide +kernel) (by cases H; exact HY)
set_option maxRecDepth 20000 in
noncomputable def Pa_factNamed_p138 (T : jT) (h : jH) (o0 : Nat) (v1 : Int) : Option (Int × jH) := (if v1 = 0 then Pa_factNamed_p156 T h else Option.bind (Pa_word T h o0 [102, 114, 97, 109, 101, 115]) (fun b26 => (if b26.1 = 0 then Pa_factNamed_p156 T b26.2 else some (8, b26.2))))
set_option maxRecDepth 20000 in
theorem t_Pa_factNamed_p138 {T : jT} {xs : List Int} {d : Nat} {y : jV × jS} (hd : 5 ≤ d) {h : jH}  {o0 : Nat} {v1 : Int} {out : (Int × jH)} (ho0 : isX4 T o0) (H : Pa_factNamed_p138 T h o0 v1 = some out) (HY : ykI T y out) : jEv xs d (74, 138, [(2, Int.ofNat o0), (0, v1)], []) (T, h) y := by
  unfold Pa_factNamed_p138 at H
  refine jEv.blk [(.iload_n 1, 1, [])] (by decide +kernel) (pc' := 139) (ls' := [(2, Int.ofNat o0), (0, v1)]) (st' := [(0, v1)]) rfl ?_
  refine jEv.if_eq (t := 156) (show jfI 74 139 (.ifCond .eq 17) 3 [] = true by decide +kernel) rfl H (fun c25 H => ?_) (fun c25 H => ?_)
  · exact jEv.weak (a := [(3, 0), (3, 0)]) (jles.c0 (jles.c0 jles.nl)) (t_Pa_factNamed_p156 (T := T) (xs := xs) (y := y) hd H HY)
  · refine jEv.blk [(.aload_n 0, 1, []), (.ldc 252, 2, [4, 17, 0, 4062])] (by decide +kernel) (pc' := 145) (ls' := [(2, Int.ofNat o0), (0, v1)]) (st' := [(4, 17), (2, Int.ofNat o0)]) rfl ?_
    refine jbind H (fun b26 Hb26 H => ?_)
    refine jEv.calV (st' := [(0, b26.1)]) (show jfI 74 145 (.invokevirtual 114) 3 [1, 52, 1, 3133] = true by decide +kernel) rfl (Or.inl rfl) rfl (Nat.le_of_ble_eq_true rfl) (by decide +kernel) (by decide) (isX4_L ho0) ((t_Pa_word (T := T) (xs := xs) ho0 (jIsS_17) Hb26).mono (jKle 5 hd)) rfl ?_
    refine jEv.if_eq (t := 156) (show jfI 74 148 (.ifCond .eq 8) 3 [] = true by decide +kernel) rfl H (fun c27 H => ?_) (fun c27 H => ?_)
    · exact jEv.weak (a := [(3, 0), (3, 0)]) (jles.c0 (jles.c0 jles.nl)) (t_Pa_factNamed_p156 (T := T) (xs := xs) (y := y) hd H HY)
    · refine jEv.blk [(.bipush 8, 2, [])] (by decide +kernel) (pc' := 153) (ls' := [(2, Int.ofNat o0), (0, v1)]) (st' := [(0, 8)]) rfl ?_
      refine jEv.goto (t := 157) (show jfI 74 153 (.goto 4) 3 [] = true by decide +kernel) rfl ?_
      exact jEv.retI (show jfI 74 157 (.ireturn) 1 [] = true by decide +kernel) (by decide +kernel) (by cases H; exact HY)
set_option maxRecDepth 20000 in
noncomputable def Pa_factNamed_p122 (T : jT) (h : jH) (o0 : Nat) (v1 : Int) : Option (Int × jH) := (if v1 = 0 then Pa_factNamed_p138 T h o0 v1 else Option.bind (Pa_word T h o0 [102, 105, 114, 115, 116]) (fun b23 => (if b23.1 = 0 then Pa_factNamed_p138 T b23.2 o0 v1 else some (7, b23.2))))
set_option maxRecDepth 20000 in
theorem t_Pa_factNamed_p122 {T : jT} {xs : List Int} {d : Nat} {y : jV × jS} (hd : 5 ≤ d) {h : jH}  {o0 : Nat} {v1 : Int} {out : (Int × jH)} (ho0 : isX4 T o0) (H : Pa_factNamed_p122 T h o0 v1 = some out) (HY : ykI T y out) : jEv xs d (74, 122, [(2, Int.ofNat o0), (0, v1)], []) (T, h) y := by
  unfold Pa_factNamed_p122 at H
  refine jEv.blk [(.iload_n 1, 1, [])] (by decide +kernel) (pc' := 123) (ls' := [(2, Int.ofNat o0), (0, v1)]) (st' := [(0, v1)]) rfl ?_
  refine jEv.if_eq (t := 138) (show jfI 74 123 (.ifCond .eq 15) 3 [] = true by decide +kernel) rfl H (fun c22 H => ?_) (fun c22 H => ?_)
  · exact t_Pa_factNamed_p138 (T := T) (xs := xs) (y := y) hd ho0 H HY
  · refine jEv.blk [(.aload_n 0, 1, []), (.ldc 171, 2, [4, 16, 0, 4061])] (by decide +kernel) (pc' := 129) (ls' := [(2, Int.ofNat o0), (0, v1)]) (st' := [(4, 16), (2, Int.ofNat o0)]) rfl ?_
    refine jbind H (fun b23 Hb23 H => ?_)
    refine jEv.calV (st' := [(0, b23.1)]) (show jfI 74 129 (.invokevirtual 114) 3 [1, 52, 1, 3133] = true by decide +kernel) rfl (Or.inl rfl) rfl (Nat.le_of_ble_eq_true rfl) (by decide +kernel) (by decide) (isX4_L ho0) ((t_Pa_word (T := T) (xs := xs) ho0 (jIsS_16) Hb23).mono (jKle 5 hd)) rfl ?_
    refine jEv.if_eq (t := 138) (show jfI 74 132 (.ifCond .eq 6) 3 [] = true by decide +kernel) rfl H (fun c24 H => ?_) (fun c24 H => ?_)
    · exact t_Pa_factNamed_p138 (T := T) (xs := xs) (y := y) hd ho0 H HY
    · refine jEv.blk [(.bipush 7, 2, [])] (by decide +kernel) (pc' := 137) (ls' := [(2, Int.ofNat o0), (0, v1)]) (st' := [(0, 7)]) rfl ?_
      exact jEv.retI (show jfI 74 137 (.ireturn) 1 [] = true by decide +kernel) (by decide +kernel) (by cases H; exact HY)
set_option maxRecDepth 20000 in
noncomputable def Pa_factNamed_p106 (T : jT) (h : jH) (o0 : Nat) (v1 : Int) : Option (Int × jH) := (if v1 = 0 then Pa_factNamed_p122 T h o0 v1 else Option.bind (Pa_word T h o0 [115, 101, 114, 105, 97, 108]) (fun b20 => (if b20.1 = 0 then Pa_factNamed_p122 T b20.2 o0 v1 else some (6, b20.2))))
set_option maxRecDepth 20000 in
theorem t_Pa_factNamed_p106 {T : jT} {xs : List Int} {d : Nat} {y : jV × jS} (hd : 5 ≤ d) {h : jH}  {o0 : Nat} {v1 : Int} {out : (Int × jH)} (ho0 : isX4 T o0) (H : Pa_factNamed_p106 T h o0 v1 = some out) (HY : ykI T y out) : jEv xs d (74, 106, [(2, Int.ofNat o0), (0, v1)], []) (T, h) y := by
  unfold Pa_factNamed_p106 at H
  refine jEv.blk [(.iload_n 1, 1, [])] (by decide +kernel) (pc' := 107) (ls' := [(2, Int.ofNat o0), (0, v1)]) (st' := [(0, v1)]) rfl ?_
  refine jEv.if_eq (t := 122) (show jfI 74 107 (.ifCond .eq 15) 3 [] = true by decide +kernel) rfl H (fun c19 H => ?_) (fun c19 H => ?_)
  · exact t_Pa_factNamed_p122 (T := T) (xs := xs) (y := y) hd ho0 H HY
  · refine jEv.blk [(.aload_n 0, 1, []), (.ldc 250, 2, [4, 33, 0, 4060])] (by decide +kernel) (pc' := 113) (ls' := [(2, Int.ofNat o0), (0, v1)]) (st' := [(4, 33), (2, Int.ofNat o0)]) rfl ?_
    refine jbind H (fun b20 Hb20 H => ?_)
    refine jEv.calV (st' := [(0, b20.1)]) (show jfI 74 113 (.invokevirtual 114) 3 [1, 52, 1, 3133] = true by decide +kernel) rfl (Or.inl rfl) rfl (Nat.le_of_ble_eq_true rfl) (by decide +kernel) (by decide) (isX4_L ho0) ((t_Pa_word (T := T) (xs := xs) ho0 (jIsS_33) Hb20).mono (jKle 5 hd)) rfl ?_
    refine jEv.if_eq (t := 122) (show jfI 74 116 (.ifCond .eq 6) 3 [] = true by decide +kernel) rfl H (fun c21 H => ?_) (fun c21 H => ?_)
    · exact t_Pa_factNamed_p122 (T := T) (xs := xs) (y := y) hd ho0 H HY
    · refine jEv.blk [(.bipush 6, 2, [])] (by decide +kernel) (pc' := 121) (ls' := [(2, Int.ofNat o0), (0, v1)]) (st' := [(0, 6)]) rfl ?_
      exact jEv.retI (show jfI 74 121 (.ireturn) 1 [] = true by decide +kernel) (by decide +kernel) (by cases H; exact HY)
set_option maxRecDepth 20000 in
noncomputable def Pa_factNamed_p91 (T : jT) (h : jH) (o0 : Nat) (v1 : Int) : Option (Int × jH) := (if v1 = 0 then Pa_factNamed_p106 T h o0 v1 else Option.bind (Pa_word T h o0 [110, 117, 109, 98, 101, 114]) (fun b17 => (if b17.1 = 0 then Pa_factNamed_p106 T b17.2 o0 v1 else some (5, b17.2))))
set_option maxRecDepth 20000 in
theorem t_Pa_factNamed_p91 {T : jT} {xs : List Int} {d : Nat} {y : jV × jS} (hd : 5 ≤ d) {h : jH}  {o0 : Nat} {v1 : Int} {out : (Int × jH)} (ho0 : isX4 T o0) (H : Pa_factNamed_p91 T h o0 v1 = some out) (HY : ykI T y out) : jEv xs d (74, 91, [(2, Int.ofNat o0), (0, v1)], []) (T, h) y := by
  unfold Pa_factNamed_p91 at H
  refine jEv.blk [(.iload_n 1, 1, [])] (by decide +kernel) (pc' := 92) (ls' := [(2, Int.ofNat o0), (0, v1)]) (st' := [(0, v1)]) rfl ?_
  refine jEv.if_eq (t := 106) (show jfI 74 92 (.ifCond .eq 14) 3 [] = true by decide +kernel) rfl H (fun c16 H => ?_) (fun c16 H => ?_)
  · exact t_Pa_factNamed_p106 (T := T) (xs := xs) (y := y) hd ho0 H HY
  · refine jEv.blk [(.aload_n 0, 1, []), (.ldc 249, 2, [4, 26, 0, 4059])] (by decide +kernel) (pc' := 98) (ls' := [(2, Int.ofNat o0), (0, v1)]) (st' := [(4, 26), (2, Int.ofNat o0)]) rfl ?_
    refine jbind H (fun b17 Hb17 H => ?_)
    refine jEv.calV (st' := [(0, b17.1)]) (show jfI 74 98 (.invokevirtual 114) 3 [1, 52, 1, 3133] = true by decide +kernel) rfl (Or.inl rfl) rfl (Nat.le_of_ble_eq_true rfl) (by decide +kernel) (by decide) (isX4_L ho0) ((t_Pa_word (T := T) (xs := xs) ho0 (jIsS_26) Hb17).mono (jKle 5 hd)) rfl ?_
    refine jEv.if_eq (t := 106) (show jfI 74 101 (.ifCond .eq 5) 3 [] = true by decide +kernel) rfl H (fun c18 H => ?_) (fun c18 H => ?_)
    · exact t_Pa_factNamed_p106 (T := T) (xs := xs) (y := y) hd ho0 H HY
    · refine jEv.blk [(.iconst 5, 1, [])] (by decide +kernel) (pc' := 105) (ls' := [(2, Int.ofNat o0), (0, v1)]) (st' := [(0, 5)]) rfl ?_
      exact jEv.retI (show jfI 74 105 (.ireturn) 1 [] = true by decide +kernel) (by decide +kernel) (by cases H; exact HY)
set_option maxRecDepth 20000 in
noncomputable def Pa_factNamed_p73 (T : jT) (h : jH) (o0 : Nat) (v1 : Int) : Option (Int × jH) := (if (h o0 10) = 0 then Option.bind (Pa_word T h o0 [119, 97, 105, 116, 101, 114, 115]) (fun b14 => (if b14.1 = 0 then Pa_factNamed_p91 T b14.2 o0 v1 else some (4, b14.2))) else Pa_factNamed_p91 T h o0 v1)
set_option maxRecDepth 20000 in
theorem t_Pa_factNamed_p73 {T : jT} {xs : List Int} {d : Nat} {y : jV × jS} (hd : 5 ≤ d) {h : jH}  {o0 : Nat} {v1 : Int} {out : (Int × jH)} (ho0 : isX4 T o0) (H : Pa_factNamed_p73 T h o0 v1 = some out) (HY : ykI T y out) : jEv xs d (74, 73, [(2, Int.ofNat o0), (0, v1)], []) (T, h) y := by
  unfold Pa_factNamed_p73 at H
  refine jEv.blk [(.aload_n 0, 1, [])] (by decide +kernel) (pc' := 74) (ls' := [(2, Int.ofNat o0), (0, v1)]) (st' := [(2, Int.ofNat o0)]) rfl ?_
  refine jEv.gfI (show jfI 74 74 (.getfield 184) 3 [4, 10, 0, 0, 1141] = true by decide +kernel) (isX4_L ho0) (by decide) ?_
  refine jEv.if_ne (t := 91) (show jfI 74 77 (.ifCond .ne 14) 3 [] = true by decide +kernel) rfl H (fun c13 H => ?_) (fun c13 H => ?_)
  · refine jEv.blk [(.aload_n 0, 1, []), (.ldc 247, 2, [4, 39, 0, 4058])] (by decide +kernel) (pc' := 83) (ls' := [(2, Int.ofNat o0), (0, v1)]) (st' := [(4, 39), (2, Int.ofNat o0)]) rfl ?_
    refine jbind H (fun b14 Hb14 H => ?_)
    refine jEv.calV (st' := [(0, b14.1)]) (show jfI 74 83 (.invokevirtual 114) 3 [1, 52, 1, 3133] = true by decide +kernel) rfl (Or.inl rfl) rfl (Nat.le_of_ble_eq_true rfl) (by decide +kernel) (by decide) (isX4_L ho0) ((t_Pa_word (T := T) (xs := xs) ho0 (jIsS_39) Hb14).mono (jKle 5 hd)) rfl ?_
    refine jEv.if_eq (t := 91) (show jfI 74 86 (.ifCond .eq 5) 3 [] = true by decide +kernel) rfl H (fun c15 H => ?_) (fun c15 H => ?_)
    · exact t_Pa_factNamed_p91 (T := T) (xs := xs) (y := y) hd ho0 H HY
    · refine jEv.blk [(.iconst 4, 1, [])] (by decide +kernel) (pc' := 90) (ls' := [(2, Int.ofNat o0), (0, v1)]) (st' := [(0, 4)]) rfl ?_
      exact jEv.retI (show jfI 74 90 (.ireturn) 1 [] = true by decide +kernel) (by decide +kernel) (by cases H; exact HY)
  · exact t_Pa_factNamed_p91 (T := T) (xs := xs) (y := y) hd ho0 H HY
set_option maxRecDepth 20000 in
noncomputable def Pa_factNamed_p55 (T : jT) (h : jH) (o0 : Nat) (v1 : Int) : Option (Int × jH) := (if (h o0 10) = 0 then Option.bind (Pa_word T h o0 [97, 103, 101]) (fun b11 => (if b11.1 = 0 then Pa_factNamed_p73 T b11.2 o0 v1 else some (3, b11.2))) else Pa_factNamed_p73 T h o0 v1)
set_option maxRecDepth 20000 in
theorem t_Pa_factNamed_p55 {T : jT} {xs : List Int} {d : Nat} {y : jV × jS} (hd : 5 ≤ d) {h : jH}  {o0 : Nat} {v1 : Int} {out : (Int × jH)} (ho0 : isX4 T o0) (H : Pa_factNamed_p55 T h o0 v1 = some out) (HY : ykI T y out) : jEv xs d (74, 55, [(2, Int.ofNat o0), (0, v1)], []) (T, h) y := by
  unfold Pa_factNamed_p55 at H
  refine jEv.blk [(.aload_n 0, 1, [])] (by decide +kernel) (pc' := 56) (ls' := [(2, Int.ofNat o0), (0, v1)]) (st' := [(2, Int.ofNat o0)]) rfl ?_
  refine jEv.gfI (show jfI 74 56 (.getfield 184) 3 [4, 10, 0, 0, 1141] = true by decide +kernel) (isX4_L ho0) (by decide) ?_
  refine jEv.if_ne (t := 73) (show jfI 74 59 (.ifCond .ne 14) 3 [] = true by decide +kernel) rfl H (fun c10 H => ?_) (fun c10 H => ?_)
  · refine jEv.blk [(.aload_n 0, 1, []), (.ldc 245, 2, [4, 10, 0, 4057])] (by decide +kernel) (pc' := 65) (ls' := [(2, Int.ofNat o0), (0, v1)]) (st' := [(4, 10), (2, Int.ofNat o0)]) rfl ?_
    refine jbind H (fun b11 Hb11 H => ?_)
    refine jEv.calV (st' := [(0, b11.1)]) (show jfI 74 65 (.invokevirtual 114) 3 [1, 52, 1, 3133] = true by decide +kernel) rfl (Or.inl rfl) rfl (Nat.le_of_ble_eq_true rfl) (by decide +kernel) (by decide) (isX4_L ho0) ((t_Pa_word (T := T) (xs := xs) ho0 (jIsS_10) Hb11).mono (jKle 5 hd)) rfl ?_
    refine jEv.if_eq (t := 73) (show jfI 74 68 (.ifCond .eq 5) 3 [] = true by decide +kernel) rfl H (fun c12 H => ?_) (fun c12 H => ?_)
    · exact t_Pa_factNamed_p73 (T := T) (xs := xs) (y := y) hd ho0 H HY
    · refine jEv.blk [(.iconst 3, 1, [])] (by decide +kernel) (pc' := 72) (ls' := [(2, Int.ofNat o0), (0, v1)]) (st' := [(0, 3)]) rfl ?_
      exact jEv.retI (show jfI 74 72 (.ireturn) 1 [] = true by decide +kernel) (by decide +kernel) (by cases H; exact HY)
  · exact t_Pa_factNamed_p73 (T := T) (xs := xs) (y := y) hd ho0 H HY
set_option maxRecDepth 20000 in
noncomputable def Pa_factNamed_p40 (T : jT) (h : jH) (o0 : Nat) (v1 : Int) : Option (Int × jH) := (if v1 = 0 then Option.bind (Pa_word T h o0 [112, 97, 121, 108, 111, 97, 100]) (fun b8 => (if b8.1 = 0 then Pa_factNamed_p55 T b8.2 o0 v1 else some (2, b8.2))) else Pa_factNamed_p55 T h o0 v1)
set_option maxRecDepth 20000 in
theorem t_Pa_factNamed_p40 {T : jT} {xs : List Int} {d : Nat} {y : jV × jS} (hd : 5 ≤ d) {h : jH}  {o0 : Nat} {v1 : Int} {out : (Int × jH)} (ho0 : isX4 T o0) (H : Pa_factNamed_p40 T h o0 v1 = some out) (HY : ykI T y out) : jEv xs d (74, 40, [(2, Int.ofNat o0), (0, v1)], []) (T, h) y := by
  unfold Pa_factNamed_p40 at H
  refine jEv.blk [(.iload_n 1, 1, [])] (by decide +kernel) (pc' := 41) (ls' := [(2, Int.ofNat o0), (0, v1)]) (st' := [(0, v1)]) rfl ?_
  refine jEv.if_ne (t := 55) (show jfI 74 41 (.ifCond .ne 14) 3 [] = true by decide +kernel) rfl H (fun c7 H => ?_) (fun c7 H => ?_)
  · refine jEv.blk [(.aload_n 0, 1, []), (.ldc 243, 2, [4, 30, 0, 4056])] (by decide +kernel) (pc' := 47) (ls' := [(2, Int.ofNat o0), (0, v1)]) (st' := [(4, 30), (2, Int.ofNat o0)]) rfl ?_
    refine jbind H (fun b8 Hb8 H => ?_)
    refine jEv.calV (st' := [(0, b8.1)]) (show jfI 74 47 (.invokevirtual 114) 3 [1, 52, 1, 3133] = true by decide +kernel) rfl (Or.inl rfl) rfl (Nat.le_of_ble_eq_true rfl) (by decide +kernel) (by decide) (isX4_L ho0) ((t_Pa_word (T := T) (xs := xs) ho0 (jIsS_30) Hb8).mono (jKle 5 hd)) rfl ?_
    refine jEv.if_eq (t := 55) (show jfI 74 50 (.ifCond .eq 5) 3 [] = true by decide +kernel) rfl H (fun c9 H => ?_) (fun c9 H => ?_)
    · exact t_Pa_factNamed_p55 (T := T) (xs := xs) (y := y) hd ho0 H HY
    · refine jEv.blk [(.iconst 2, 1, [])] (by decide +kernel) (pc' := 54) (ls' := [(2, Int.ofNat o0), (0, v1)]) (st' := [(0, 2)]) rfl ?_
      exact jEv.retI (show jfI 74 54 (.ireturn) 1 [] = true by decide +kernel) (by decide +kernel) (by cases H; exact HY)
  · exact t_Pa_factNamed_p55 (T := T) (xs := xs) (y := y) hd ho0 H HY
set_option maxRecDepth 20000 in
noncomputable def Pa_factNamed_p13 (T : jT) (h : jH) (o0 : Nat) (vs0 : Int) : Option (Int × jH) := Option.bind (Pa_word T h o0 [116, 105, 99, 107]) (fun b2 => (if b2.1 = 0 then (if vs0 = 0 then Option.bind (Pa_word T b2.2 o0 [114, 101, 99, 111, 114, 100, 115]) (fun b5 => (if b5.1 = 0 then Pa_factNamed_p40 T b5.2 o0 vs0 else some (1, b5.2))) else Pa_factNamed_p40 T b2.2 o0 vs0) else some (0, b2.2)))
set_option maxRecDepth 20000 in
theorem t_Pa_factNamed_p13 {T : jT} {xs : List Int} {d : Nat} {y : jV × jS} (hd : 5 ≤ d) {h : jH}  {o0 : Nat} {vs0 : Int} {out : (Int × jH)} (ho0 : isX4 T o0) (H : Pa_factNamed_p13 T h o0 vs0 = some out) (HY : ykI T y out) : jEv xs d (74, 13, [(2, Int.ofNat o0), (3, 0)], [(0, vs0)]) (T, h) y := by
  unfold Pa_factNamed_p13 at H
  refine jEv.blk [(.istore_n 1, 1, []), (.aload_n 0, 1, []), (.ldc 239, 2, [4, 36, 0, 4054])] (by decide +kernel) (pc' := 17) (ls' := [(2, Int.ofNat o0), (0, vs0)]) (st' := [(4, 36), (2, Int.ofNat o0)]) rfl ?_
  refine jbind H (fun b2 Hb2 H => ?_)
  refine jEv.calV (st' := [(0, b2.1)]) (show jfI 74 17 (.invokevirtual 114) 3 [1, 52, 1, 3133] = true by decide +kernel) rfl (Or.inl rfl) rfl (Nat.le_of_ble_eq_true rfl) (by decide +kernel) (by decide) (isX4_L ho0) ((t_Pa_word (T := T) (xs := xs) ho0 (jIsS_36) Hb2).mono (jKle 5 hd)) rfl ?_
  refine jEv.if_eq (t := 25) (show jfI 74 20 (.ifCond .eq 5) 3 [] = true by decide +kernel) rfl H (fun c3 H => ?_) (fun c3 H => ?_)
  · refine jEv.blk [(.iload_n 1, 1, [])] (by decide +kernel) (pc' := 26) (ls' := [(2, Int.ofNat o0), (0, vs0)]) (st' := [(0, vs0)]) rfl ?_
    refine jEv.if_ne (t := 40) (show jfI 74 26 (.ifCond .ne 14) 3 [] = true by decide +kernel) rfl H (fun c4 H => ?_) (fun c4 H => ?_)
    · refine jEv.blk [(.aload_n 0, 1, []), (.ldc 241, 2, [4, 32, 0, 4055])] (by decide +kernel) (pc' := 32) (ls' := [(2, Int.ofNat o0), (0, vs0)]) (st' := [(4, 32), (2, Int.ofNat o0)]) rfl ?_
      refine jbind H (fun b5 Hb5 H => ?_)
      refine jEv.calV (st' := [(0, b5.1)]) (show jfI 74 32 (.invokevirtual 114) 3 [1, 52, 1, 3133] = true by decide +kernel) rfl (Or.inl rfl) rfl (Nat.le_of_ble_eq_true rfl) (by decide +kernel) (by decide) (isX4_L ho0) ((t_Pa_word (T := T) (xs := xs) ho0 (jIsS_32) Hb5).mono (jKle 5 hd)) rfl ?_
      refine jEv.if_eq (t := 40) (show jfI 74 35 (.ifCond .eq 5) 3 [] = true by decide +kernel) rfl H (fun c6 H => ?_) (fun c6 H => ?_)
      · exact t_Pa_factNamed_p40 (T := T) (xs := xs) (y := y) hd ho0 H HY
      · refine jEv.blk [(.iconst 1, 1, [])] (by decide +kernel) (pc' := 39) (ls' := [(2, Int.ofNat o0), (0, vs0)]) (st' := [(0, 1)]) rfl ?_
        exact jEv.retI (show jfI 74 39 (.ireturn) 1 [] = true by decide +kernel) (by decide +kernel) (by cases H; exact HY)
    · exact t_Pa_factNamed_p40 (T := T) (xs := xs) (y := y) hd ho0 H HY
  · refine jEv.blk [(.iconst 0, 1, [])] (by decide +kernel) (pc' := 24) (ls' := [(2, Int.ofNat o0), (0, vs0)]) (st' := [(0, 0)]) rfl ?_
    exact jEv.retI (show jfI 74 24 (.ireturn) 1 [] = true by decide +kernel) (by decide +kernel) (by cases H; exact HY)
set_option maxRecDepth 20000 in
noncomputable def Pa_factNamed (T : jT) (h : jH) (o0 : Nat) : Option (Int × jH) := (if (h o0 10) = 2 then Pa_factNamed_p13 T h o0 1 else Pa_factNamed_p13 T h o0 0)
set_option maxRecDepth 20000 in
theorem t_Pa_factNamed {T : jT} {xs : List Int} {h : jH}  {o0 : Nat} {out : (Int × jH)} (ho0 : isX4 T o0) (H : Pa_factNamed T h o0 = some out) : jEm xs 6 74 [(2, Int.ofNat o0)] (T, h) ((0, out.1), (T, out.2)) := by
  have hd : 5 ≤ 5 := Nat.le_refl _
  obtain ⟨y, ey⟩ : ∃ y : jV × jS, y = ((0, out.1), (T, out.2)) := ⟨_, rfl⟩
  rw [← ey]
  have HY : ykI T y out := ey
  refine jEm.ent (n := 2) (by decide +kernel) (Nat.le_of_ble_eq_true rfl) ?_
  show jEv xs 5 (74, 0, [(2, Int.ofNat o0), (3, 0)], []) (T, h) y
  unfold Pa_factNamed at H
  refine jEv.blk [(.aload_n 0, 1, [])] (by decide +kernel) (pc' := 1) (ls' := [(2, Int.ofNat o0), (3, 0)]) (st' := [(2, Int.ofNat o0)]) rfl ?_
  refine jEv.gfI (show jfI 74 1 (.getfield 184) 3 [4, 10, 0, 0, 1141] = true by decide +kernel) (isX4_L ho0) (by decide) ?_
  refine jEv.blk [(.iconst 2, 1, [])] (by decide +kernel) (pc' := 5) (ls' := [(2, Int.ofNat o0), (3, 0)]) (st' := [(0, 2), (0, (h o0 10))]) rfl ?_
  refine jEv.ic_ne (t := 12) (show jfI 74 5 (.if_icmp .ne 7) 3 [] = true by decide +kernel) rfl H (fun c1 H => ?_) (fun c1 H => ?_)
  · refine jEv.blk [(.iconst 1, 1, [])] (by decide +kernel) (pc' := 9) (ls' := [(2, Int.ofNat o0), (3, 0)]) (st' := [(0, 1)]) rfl ?_
    refine jEv.goto (t := 13) (show jfI 74 9 (.goto 4) 3 [] = true by decide +kernel) rfl ?_
    exact t_Pa_factNamed_p13 (T := T) (xs := xs) (y := y) hd ho0 H HY
  · refine jEv.blk [(.iconst 0, 1, [])] (by decide +kernel) (pc' := 13) (ls' := [(2, Int.ofNat o0), (3, 0)]) (st' := [(0, 0)]) rfl ?_
    exact t_Pa_factNamed_p13 (T := T) (xs := xs) (y := y) hd ho0 H HY
