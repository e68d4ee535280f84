/-! methods as functions -/
def yk_Re_valueCount_L4 (T : jT) (xs : List Int) (d : Nat) (y : jV × jS) (h : jH)  (o0 : Nat) : ((Int × Int) ⊕ Int) → Prop
  | .inl (v1, v2) => jEv xs d (107, 4, [(2, Int.ofNat o0), (0, v1), (0, v2)], []) (T, h) y
  | .inr o => ykIp T h y o
set_option maxRecDepth 20000 in
noncomputable def Re_valueCount_p29  (h : jH) (o0 : Nat) (v2 : Int) (vs0 : Int) (vs1 : Int) : Option ((Int × Int) ⊕ Int) := some (.inl ((wr (vs0 + vs1)), (wr (v2 + 1))))
set_option maxRecDepth 20000 in
theorem t_Re_valueCount_p29 {T : jT} {xs : List Int} {d : Nat} {y : jV × jS} (hd : 0 ≤ d) {h : jH}  {o0 : Nat} {v2 : Int} {vs0 : Int} {vs1 : Int} {out : ((Int × Int) ⊕ Int)} (ho0 : isX8 T o0) (H : Re_valueCount_p29 h o0 v2 vs0 vs1 = some out) (HY : yk_Re_valueCount_L4 T xs d y h o0 out) : jEv xs d (107, 29, [(2, Int.ofNat o0), (3, 0), (0, v2)], [(0, vs1), (0, vs0)]) (T, h) y := by
  unfold Re_valueCount_p29 at H
  refine jEv.blk [(.iadd, 1, []), (.istore_n 1, 1, []), (.iinc 2 1, 3, [])] (by decide +kernel) (pc' := 34) (ls' := [(2, Int.ofNat o0), (0, (wr (vs0 + vs1))), (0, (wr (v2 + 1)))]) (st' := []) rfl ?_
  refine jEv.goto (t := 4) (show jfI 107 34 (.goto (-30)) 3 [] = true by decide +kernel) rfl ?_
  exact (by cases H; exact HY)
set_option maxRecDepth 20000 in
noncomputable def Re_valueCount_B4  (h : jH) (o0 : Nat) (v1 : Int) (v2 : Int) : Option ((Int × Int) ⊕ Int) := (if v2 < ((16 : Nat) : Int) then (if (0 : Int) ≤ v2 ∧ (v2 : Int).toNat < 16 then (if (h (o0 + 2) (v2 : Int).toNat) = (-1) then Re_valueCount_p29 h o0 v2 v1 0 else Re_valueCount_p29 h o0 v2 v1 1) else none) else Option.map Sum.inr (some v1))
noncomputable def Re_valueCount_L4  (h : jH) (o0 : Nat) (v1 : Int) (v2 : Int) : Option Int := jloop (fun s : (Int × Int) => Re_valueCount_B4 h o0 s.1 s.2) (v1, v2)
set_option maxRecDepth 20000 in
theorem t_Re_valueCount_B4 {T : jT} {xs : List Int} {d : Nat} {y : jV × jS} (hd : 0 ≤ d) {h : jH}  {o0 : Nat} {v1 : Int} {v2 : Int} {out : ((Int × Int) ⊕ Int)} (ho0 : isX8 T o0) (H : Re_valueCount_B4 h o0 v1 v2 = some out) (HY : yk_Re_valueCount_L4 T xs d y h o0 out) : jEv xs d (107, 4, [(2, Int.ofNat o0), (0, v1), (0, v2)], []) (T, h) y := by
  unfold Re_valueCount_B4 at H
  refine jEv.blk [(.iload_n 2, 1, []), (.aload_n 0, 1, [])] (by decide +kernel) (pc' := 6) (ls' := [(2, Int.ofNat o0), (0, v1), (0, v2)]) (st' := [(2, Int.ofNat o0), (0, v2)]) rfl ?_
  refine jEv.gfR (o' := (o0 + 2)) (show jfI 107 6 (.getfield 18) 3 [8, 1, 5, 0, 2205] = true by decide +kernel) (isX8_L ho0) (by decide) (isX8_r1 ho0) ?_
  refine jEv.alen (show jfI 107 9 (.arraylength) 1 [] = true by decide +kernel) (isX8_a1 ho0) (by decide) ?_
  refine jEv.ic_ge (t := 37) (show jfI 107 10 (.if_icmp .ge 27) 3 [] = true by decide +kernel) rfl H (fun c1 H => ?_) (fun c1 H => ?_)
  · refine jEv.blk [(.iload_n 1, 1, []), (.aload_n 0, 1, [])] (by decide +kernel) (pc' := 15) (ls' := [(2, Int.ofNat o0), (0, v1), (0, v2)]) (st' := [(2, Int.ofNat o0), (0, v1)]) rfl ?_
    refine jEv.gfR (o' := (o0 + 2)) (show jfI 107 15 (.getfield 18) 3 [8, 1, 5, 0, 2205] = true by decide +kernel) (isX8_L ho0) (by decide) (isX8_r1 ho0) ?_
    refine jEv.blk [(.iload_n 2, 1, [])] (by decide +kernel) (pc' := 19) (ls' := [(2, Int.ofNat o0), (0, v1), (0, v2)]) (st' := [(0, v2), (2, Int.ofNat (o0 + 2)), (0, v1)]) rfl ?_
    refine jEv.ald (Or.inl ⟨rfl, rfl, rfl⟩) (show jfI 107 19 (.iaload) 1 [] = true by decide +kernel) (isX8_a1 ho0) H (fun c2 H => ?_)
    refine jEv.blk [(.iconst (-1), 1, [])] (by decide +kernel) (pc' := 21) (ls' := [(2, Int.ofNat o0), (0, v1), (0, v2)]) (st' := [(0, (-1)), (0, (h (o0 + 2) (v2 : Int).toNat)), (0, v1)]) rfl ?_
    refine jEv.ic_eq (t := 28) (show jfI 107 21 (.if_icmp .eq 7) 3 [] = true by decide +kernel) rfl H (fun c3 H => ?_) (fun c3 H => ?_)
    · refine jEv.blk [(.iconst 0, 1, [])] (by decide +kernel) (pc' := 29) (ls' := [(2, Int.ofNat o0), (0, v1), (0, v2)]) (st' := [(0, 0), (0, v1)]) rfl ?_
      exact jEv.weak (a := [(2, Int.ofNat o0), (3, 0), (0, v2)]) (jles.c1 (jles.c0 (jles.c1 jles.nl))) (t_Re_valueCount_p29 (T := T) (xs := xs) (y := y) hd ho0 H HY)
    · refine jEv.blk [(.iconst 1, 1, [])] (by decide +kernel) (pc' := 25) (ls' := [(2, Int.ofNat o0), (0, v1), (0, v2)]) (st' := [(0, 1), (0, v1)]) rfl ?_
      refine jEv.goto (t := 29) (show jfI 107 25 (.goto 4) 3 [] = true by decide +kernel) rfl ?_
      exact jEv.weak (a := [(2, Int.ofNat o0), (3, 0), (0, v2)]) (jles.c1 (jles.c0 (jles.c1 jles.nl))) (t_Re_valueCount_p29 (T := T) (xs := xs) (y := y) hd ho0 H HY)
  · refine jmapr H HY (fun out H (HY : ykIp T h y out) => ?_)
    refine jEv.blk [(.iload_n 1, 1, [])] (by decide +kernel) (pc' := 38) (ls' := [(2, Int.ofNat o0), (0, v1), (0, v2)]) (st' := [(0, v1)]) rfl ?_
    exact jEv.retI (show jfI 107 38 (.ireturn) 1 [] = true by decide +kernel) (by decide +kernel) (by cases H; exact HY)
theorem t_Re_valueCount_L4 {T : jT} {xs : List Int} {d : Nat} {y : jV × jS} (hd : 0 ≤ d) {h : jH}  {o0 : Nat} {v1 : Int} {v2 : Int} {out : Int} (ho0 : isX8 T o0) (H : Re_valueCount_L4 h o0 v1 v2 = some out) (HY : ykIp T h y out) : jEv xs d (107, 4, [(2, Int.ofNat o0), (0, v1), (0, v2)], []) (T, h) y :=
  jloop_sound (G := fun s : (Int × Int) => jEv xs d (107, 4, [(2, Int.ofNat o0), (0, s.1), (0, s.2)], []) (T, h) y) (K := yk_Re_valueCount_L4 T xs d y h o0) (fun s out H HY => t_Re_valueCount_B4 hd ho0 H HY) (fun s' hg => hg) (s := (v1, v2)) H HY
set_option maxRecDepth 20000 in
noncomputable def Re_valueCount  (h : jH) (o0 : Nat) : Option Int := Re_valueCount_L4 h o0 0 0
set_option maxRecDepth 20000 in
theorem t_Re_valueCount {T : jT} {xs : List Int} {h : jH}  {o0 : Nat} {out : Int} (ho0 : isX8 T o0) (H : Re_valueCount h o0 = some out) : jEm xs 1 107 [(2, Int.ofNat o0)] (T, h) ((0, out), (T, h)) := by
  have hd : 0 ≤ 0 := Nat.le_refl _
  obtain ⟨y, ey⟩ : ∃ y : jV × jS, y = ((0, out), (T, h)) := ⟨_, rfl⟩
  rw [← ey]
  have HY : ykIp T h y out := ey
  refine jEm.ent (n := 3) (by decide +kernel) (Nat.le_of_ble_eq_true rfl) ?_
  show jEv xs 0 (107, 0, [(2, Int.ofNat o0), (3, 0), (3, 0)], []) (T, h) y
  unfold Re_valueCount at H
  refine jEv.blk [(.iconst 0, 1, []), (.istore_n 1, 1, []), (.iconst 0, 1, []), (.istore_n 2, 1, [])] (by decide +kernel) (pc' := 4) (ls' := [(2, Int.ofNat o0), (0, 0), (0, 0)]) (st' := []) rfl ?_
  exact t_Re_valueCount_L4 (T := T) (xs := xs) (y := y) hd ho0 H HY
set_option maxRecDepth 20000 in
noncomputable def Wa_clear  (h : jH) (o0 : Nat) : Option jH := some (jup h o0 2 0)
set_option maxRecDepth 20000 in
theorem t_Wa_clear {T : jT} {xs : List Int} {h : jH}  {o0 : Nat} {out : jH} (ho0 : isX10 T o0) (H : Wa_clear h o0 = some out) : jEm xs 1 125 [(2, Int.ofNat o0)] (T, h) ((3, 0), (T, out)) := by
  have hd : 0 ≤ 0 := Nat.le_refl _
  obtain ⟨y, ey⟩ : ∃ y : jV × jS, y = ((3, 0), (T, out)) := ⟨_, rfl⟩
  rw [← ey]
  have HY : ykV T y out := ey
  refine jEm.ent (n := 1) (by decide +kernel) (Nat.le_of_ble_eq_true rfl) ?_
  show jEv xs 0 (125, 0, [(2, Int.ofNat o0)], []) (T, h) y
  unfold Wa_clear at H
  refine jEv.blk [(.aload_n 0, 1, []), (.iconst 0, 1, [])] (by decide +kernel) (pc' := 2) (ls' := [(2, Int.ofNat o0)]) (st' := [(0, 0), (2, Int.ofNat o0)]) rfl ?_
  refine jEv.pfI (show jfI 125 2 (.putfield 27) 3 [10, 2, 0, 0, 2039] = true by decide +kernel) (isX10_L ho0) (by decide) ?_
  exact jEv.retV (show jfI 125 5 (.return_) 1 [] = true by decide +kernel) (by decide +kernel) (by cases H; exact HY)
set_option maxRecDepth 20000 in
noncomputable def Wa_clearKept  (h : jH) (o0 : Nat) : Option jH := some (jup h o0 6 0)
set_option maxRecDepth 20000 in
theorem t_Wa_clearKept {T : jT} {xs : List Int} {h : jH}  {o0 : Nat} {out : jH} (ho0 : isX10 T o0) (H : Wa_clearKept h o0 = some out) : jEm xs 1 126 [(2, Int.ofNat o0)] (T, h) ((3, 0), (T, out)) := by
  have hd : 0 ≤ 0 := Nat.le_refl _
  obtain ⟨y, ey⟩ : ∃ y : jV × jS, y = ((3, 0), (T, out)) := ⟨_, rfl⟩
  rw [← ey]
  have HY : ykV T y out := ey
  refine jEm.ent (n := 1) (by decide +kernel) (Nat.le_of_ble_eq_true rfl) ?_
  show jEv xs 0 (126, 0, [(2, Int.ofNat o0)], []) (T, h) y
  unfold Wa_clearKept at H
  refine jEv.blk [(.aload_n 0, 1, []), (.iconst 0, 1, [])] (by decide +kernel) (pc' := 2) (ls' := [(2, Int.ofNat o0)]) (st' := [(0, 0), (2, Int.ofNat o0)]) rfl ?_
  refine jEv.pfI (show jfI 126 2 (.putfield 31) 3 [10, 6, 0, 0, 2045] = true by decide +kernel) (isX10_L ho0) (by decide) ?_
  exact jEv.retV (show jfI 126 5 (.return_) 1 [] = true by decide +kernel) (by decide +kernel) (by cases H; exact HY)
set_option maxRecDepth 20000 in
noncomputable def St_blank  (h : jH) (o0 : Nat) (o1 : Nat) : Option jH := Option.bind (Di_blank (jup h o0 0 (Int.ofNat o1)) (o0 + 1) o1) (fun b1 => Option.bind (Fl_clear b1 (o0 + 4)) (fun b2 => Option.bind (Qu_clear b2 (o0 + 7) 0) (fun b3 => Option.bind (Wa_clear b3 (o0 + 12)) (fun b4 => Option.bind (Wa_clearKept b4 (o0 + 12)) (fun b5 => some (jup (jup (jup (jup (jfill (jfill (jfill b5 (o0 + 18) 16 (-1)) (o0 + 19) 16 (-1)) (o0 + 20) 4 (-1)) o0 7 0) o0 9 0) o0 13 0) o0 14 0))))))
set_option maxRecDepth 20000 in
theorem t_St_blank {T : jT} {xs : List Int} {h : jH}  {o0 : Nat} {o1 : Nat} {out : jH} (ho0 : isX9 T o0) (ho1 : isX6 T o1) (H : St_blank h o0 o1 = some out) : jEm xs 3 109 [(2, Int.ofNat o0), (2, Int.ofNat o1)] (T, h) ((3, 0), (T, out)) := by
  have hd : 2 ≤ 2 := Nat.le_refl _
  obtain ⟨y, ey⟩ : ∃ y : jV × jS, y = ((3, 0), (T, out)) := ⟨_, rfl⟩
  rw [← ey]
  have HY : ykV T y out := ey
  refine jEm.ent (n := 2) (by decide +kernel) (Nat.le_of_ble_eq_true rfl) ?_
  show jEv xs 2 (109, 0, [(2, Int.ofNat o0), (2, Int.ofNat o1)], []) (T, h) y
  unfold St_blank at H
  refine jEv.blk [(.aload_n 0, 1, []), (.aload_n 1, 1, [])] (by decide +kernel) (pc' := 2) (ls' := [(2, Int.ofNat o0), (2, Int.ofNat o1)]) (st' := [(2, Int.ofNat o1), (2, Int.ofNat o0)]) rfl ?_
  refine jEv.pfD (show jfI 109 2 (.putfield 49) 3 [9, 0, 2, 0, 2064] = true by decide +kernel) (isX9_L ho0) (by decide) ?_
  refine jEv.blk [(.aload_n 0, 1, [])] (by decide +kernel) (pc' := 6) (ls' := [(2, Int.ofNat o0), (2, Int.ofNat o1)]) (st' := [(2, Int.ofNat o0)]) rfl ?_
  refine jEv.gfR (o' := (o0 + 1)) (show jfI 109 6 (.getfield 12) 3 [9, 1, 5, 0, 2065] = true by decide +kernel) (isX9_L ho0) (by decide) (isX9_r1 ho0) ?_
  refine jEv.blk [(.aload_n 1, 1, [])] (by decide +kernel) (pc' := 10) (ls' := [(2, Int.ofNat o0), (2, Int.ofNat o1)]) (st' := [(2, Int.ofNat o1), (2, Int.ofNat (o0 + 1))]) rfl ?_
  refine jbind H (fun b1 Hb1 H => ?_)
  refine jEv.calV (st' := []) (show jfI 109 10 (.invokevirtual 59) 3 [1, 2, 1, 4074] = true by decide +kernel) rfl (Or.inl rfl) rfl (Nat.le_of_ble_eq_true rfl) (by decide +kernel) (by decide) (isX0_L (isX9_s1 ho0)) ((t_Di_blank (T := T) (xs := xs) (isX9_s1 ho0) ho1 Hb1).mono (jKle 2 hd)) rfl ?_
  refine jEv.blk [(.aload_n 0, 1, [])] (by decide +kernel) (pc' := 14) (ls' := [(2, Int.ofNat o0), (2, Int.ofNat o1)]) (st' := [(2, Int.ofNat o0)]) rfl ?_
  refine jEv.gfR (o' := (o0 + 4)) (show jfI 109 14 (.getfield 21) 3 [9, 2, 5, 0, 2068] = true by decide +kernel) (isX9_L ho0) (by decide) (isX9_r2 ho0) ?_
  refine jbind H (fun b2 Hb2 H => ?_)
  refine jEv.calV (st' := []) (show jfI 109 17 (.invokevirtual 63) 3 [1, 22, 0, 4079] = true by decide +kernel) rfl (Or.inl rfl) rfl (Nat.le_of_ble_eq_true rfl) (by decide +kernel) (by decide) (isX1_L (isX9_s2 ho0)) ((t_Fl_clear (T := T) (xs := xs) (isX9_s2 ho0) Hb2).mono (jKle 1 hd)) rfl ?_
  refine jEv.blk [(.aload_n 0, 1, [])] (by decide +kernel) (pc' := 21) (ls' := [(2, Int.ofNat o0), (2, Int.ofNat o1)]) (st' := [(2, Int.ofNat o0)]) rfl ?_
  refine jEv.gfR (o' := (o0 + 7)) (show jfI 109 21 (.getfield 28) 3 [9, 3, 5, 0, 2071] = true by decide +kernel) (isX9_L ho0) (by decide) (isX9_r3 ho0) ?_
  refine jEv.blk [(.iconst 0, 1, [])] (by decide +kernel) (pc' := 25) (ls' := [(2, Int.ofNat o0), (2, Int.ofNat o1)]) (st' := [(0, 0), (2, Int.ofNat (o0 + 7))]) rfl ?_
  refine jbind H (fun b3 Hb3 H => ?_)
  refine jEv.calV (st' := []) (show jfI 109 25 (.invokevirtual 66) 3 [1, 91, 1, 4083] = true by decide +kernel) rfl (Or.inl rfl) rfl (Nat.le_of_ble_eq_true rfl) (by decide +kernel) (by decide) (isX7_L (isX9_s3 ho0)) ((t_Qu_clear (T := T) (xs := xs) (isX9_s3 ho0) Hb3).mono (jKle 1 hd)) rfl ?_
  refine jEv.blk [(.aload_n 0, 1, [])] (by decide +kernel) (pc' := 29) (ls' := [(2, Int.ofNat o0), (2, Int.ofNat o1)]) (st' := [(2, Int.ofNat o0)]) rfl ?_
  refine jEv.gfR (o' := (o0 + 12)) (show jfI 109 29 (.getfield 35) 3 [9, 4, 5, 0, 2074] = true by decide +kernel) (isX9_L ho0) (by decide) (isX9_r4 ho0) ?_
  refine jbind H (fun b4 Hb4 H => ?_)
  refine jEv.calV (st' := []) (show jfI 109 32 (.invokevirtual 69) 3 [1, 125, 0, 4087] = true by decide +kernel) rfl (Or.inl rfl) rfl (Nat.le_of_ble_eq_true rfl) (by decide +kernel) (by decide) (isX10_L (isX9_s4 ho0)) ((t_Wa_clear (T := T) (xs := xs) (isX9_s4 ho0) Hb4).mono (jKle 1 hd)) rfl ?_
  refine jEv.blk [(.aload_n 0, 1, [])] (by decide +kernel) (pc' := 36) (ls' := [(2, Int.ofNat o0), (2, Int.ofNat o1)]) (st' := [(2, Int.ofNat o0)]) rfl ?_
  refine jEv.gfR (o' := (o0 + 12)) (show jfI 109 36 (.getfield 35) 3 [9, 4, 5, 0, 2074] = true by decide +kernel) (isX9_L ho0) (by decide) (isX9_r4 ho0) ?_
  refine jbind H (fun b5 Hb5 H => ?_)
  refine jEv.calV (st' := []) (show jfI 109 39 (.invokevirtual 70) 3 [1, 126, 0, 4091] = true by decide +kernel) rfl (Or.inl rfl) rfl (Nat.le_of_ble_eq_true rfl) (by decide +kernel) (by decide) (isX10_L (isX9_s4 ho0)) ((t_Wa_clearKept (T := T) (xs := xs) (isX9_s4 ho0) Hb5).mono (jKle 1 hd)) rfl ?_
  refine jEv.blk [(.aload_n 0, 1, [])] (by decide +kernel) (pc' := 43) (ls' := [(2, Int.ofNat o0), (2, Int.ofNat o1)]) (st' := [(2, Int.ofNat o0)]) rfl ?_
  refine jEv.gfR (o' := (o0 + 18)) (show jfI 109 43 (.getfield 39) 3 [9, 5, 5, 0, 2076] = true by decide +kernel) (isX9_L ho0) (by decide) (isX9_r5 ho0) ?_
  refine jEv.blk [(.iconst (-1), 1, [])] (by decide +kernel) (pc' := 47) (ls' := [(2, Int.ofNat o0), (2, Int.ofNat o1)]) (st' := [(0, (-1)), (2, Int.ofNat (o0 + 18))]) rfl ?_
  refine jEv.calS (st' := []) (show jfI 109 47 (.invokestatic 53) 3 [3, 359, 2, 2061] = true by decide +kernel) rfl (Or.inl rfl) rfl (Nat.le_of_ble_eq_true rfl) ((t_JArr_fill (xs := xs) (by decide) (isX9_a5 ho0)).mono (jKle 1 hd)) rfl ?_
  refine jEv.blk [(.aload_n 0, 1, [])] (by decide +kernel) (pc' := 51) (ls' := [(2, Int.ofNat o0), (2, Int.ofNat o1)]) (st' := [(2, Int.ofNat o0)]) rfl ?_
  refine jEv.gfR (o' := (o0 + 19)) (show jfI 109 51 (.getfield 43) 3 [9, 6, 5, 0, 2078] = true by decide +kernel) (isX9_L ho0) (by decide) (isX9_r6 ho0) ?_
  refine jEv.blk [(.iconst (-1), 1, [])] (by decide +kernel) (pc' := 55) (ls' := [(2, Int.ofNat o0), (2, Int.ofNat o1)]) (st' := [(0, (-1)), (2, Int.ofNat (o0 + 19))]) rfl ?_
  refine jEv.calS (st' := []) (show jfI 109 55 (.invokestatic 53) 3 [3, 359, 2, 2061] = true by decide +kernel) rfl (Or.inl rfl) rfl (Nat.le_of_ble_eq_true rfl) ((t_JArr_fill (xs := xs) (by decide) (isX9_a6 ho0)).mono (jKle 1 hd)) rfl ?_
  refine jEv.blk [(.aload_n 0, 1, [])] (by decide +kernel) (pc' := 59) (ls' := [(2, Int.ofNat o0), (2, Int.ofNat o1)]) (st' := [(2, Int.ofNat o0)]) rfl ?_
  refine jEv.gfR (o' := (o0 + 20)) (show jfI 109 59 (.getfield 46) 3 [9, 8, 5, 0, 2082] = true by decide +kernel) (isX9_L ho0) (by decide) (isX9_r8 ho0) ?_
  refine jEv.blk [(.iconst (-1), 1, [])] (by decide +kernel) (pc' := 63) (ls' := [(2, Int.ofNat o0), (2, Int.ofNat o1)]) (st' := [(0, (-1)), (2, Int.ofNat (o0 + 20))]) rfl ?_
  refine jEv.calS (st' := []) (show jfI 109 63 (.invokestatic 53) 3 [3, 359, 2, 2061] = true by decide +kernel) rfl (Or.inl rfl) rfl (Nat.le_of_ble_eq_true rfl) ((t_JArr_fill (xs := xs) (by decide) (isX9_a8 ho0)).mono (jKle 1 hd)) rfl ?_
  refine jEv.blk [(.aload_n 0, 1, []), (.iconst 0, 1, [])] (by decide +kernel) (pc' := 68) (ls' := [(2, Int.ofNat o0), (2, Int.ofNat o1)]) (st' := [(0, 0), (2, Int.ofNat o0)]) rfl ?_
  refine jEv.pfI (show jfI 109 68 (.putfield 73) 3 [9, 7, 0, 0, 2080] = true by decide +kernel) (isX9_L ho0) (by decide) ?_
  refine jEv.blk [(.aload_n 0, 1, []), (.iconst 0, 1, [])] (by decide +kernel) (pc' := 73) (ls' := [(2, Int.ofNat o0), (2, Int.ofNat o1)]) (st' := [(0, 0), (2, Int.ofNat o0)]) rfl ?_
  refine jEv.pfI (show jfI 109 73 (.putfield 77) 3 [9, 9, 0, 0, 2084] = true by decide +kernel) (isX9_L ho0) (by decide) ?_
  refine jEv.blk [(.aload_n 0, 1, []), (.iconst 0, 1, [])] (by decide +kernel) (pc' := 78) (ls' := [(2, Int.ofNat o0), (2, Int.ofNat o1)]) (st' := [(0, 0), (2, Int.ofNat o0)]) rfl ?_
  refine jEv.pfI (show jfI 109 78 (.putfield 80) 3 [9, 13, 0, 0, 2096] = true by decide +kernel) (isX9_L ho0) (by decide) ?_
  refine jEv.blk [(.aload_n 0, 1, []), (.iconst 0, 1, [])] (by decide +kernel) (pc' := 83) (ls' := [(2, Int.ofNat o0), (2, Int.ofNat o1)]) (st' := [(0, 0), (2, Int.ofNat o0)]) rfl ?_
  refine jEv.pfZ (show jfI 109 83 (.putfield 83) 3 [9, 14, 0, 1, 2098] = true by decide +kernel) (isX9_L ho0) (by decide) (by decide) ?_
  exact jEv.retV (show jfI 109 86 (.return_) 1 [] = true by decide +kernel) (by decide +kernel) (by cases H; exact HY)
set_option maxRecDepth 20000 in
noncomputable def St_openAtOnce  (h : jH) (o0 : Nat) (v1 : Int) : Option jH := Option.bind (Di_writeHead h (o0 + 1) 0 (wr ((h o0 13) + 1)) v1) (fun b1 => Option.bind (St_movePlace b1 o0 0 5 (wr ((b1 o0 13) + 1)) (wr ((b1 o0 13) + 1))) (fun b2 => some b2))
set_option maxRecDepth 20000 in
theorem t_St_openAtOnce {T : jT} {xs : List Int} {h : jH}  {o0 : Nat} {v1 : Int} {out : jH} (ho0 : isX9 T o0) (H : St_openAtOnce h o0 v1 = some out) : jEm xs 4 110 [(2, Int.ofNat o0), (0, v1)] (T, h) ((3, 0), (T, out)) := by
  have hd : 3 ≤ 3 := Nat.le_refl _
  obtain ⟨y, ey⟩ : ∃ y : jV × jS, y = ((3, 0), (T, out)) := ⟨_, rfl⟩
  rw [← ey]
  have HY : ykV T y out := ey
  refine jEm.ent (n := 2) (by decide +kernel) (Nat.le_of_ble_eq_true rfl) ?_
  show jEv xs 3 (110, 0, [(2, Int.ofNat o0), (0, v1)], []) (T, h) y
  unfold St_openAtOnce at H
  refine jEv.blk [(.aload_n 0, 1, [])] (by decide +kernel) (pc' := 1) (ls' := [(2, Int.ofNat o0), (0, v1)]) (st' := [(2, Int.ofNat o0)]) rfl ?_
  refine jEv.gfR (o' := (o0 + 1)) (show jfI 110 1 (.getfield 12) 3 [9, 1, 5, 0, 2065] = true by decide +kernel) (isX9_L ho0) (by decide) (isX9_r1 ho0) ?_
  refine jEv.blk [(.iconst 0, 1, []), (.aload_n 0, 1, [])] (by decide +kernel) (pc' := 6) (ls' := [(2, Int.ofNat o0), (0, v1)]) (st' := [(2, Int.ofNat o0), (0, 0), (2, Int.ofNat (o0 + 1))]) rfl ?_
  refine jEv.gfI (show jfI 110 6 (.getfield 80) 3 [9, 13, 0, 0, 2096] = true by decide +kernel) (isX9_L ho0) (by decide) ?_
  refine jEv.blk [(.iconst 1, 1, []), (.iadd, 1, []), (.iload_n 1, 1, [])] (by decide +kernel) (pc' := 12) (ls' := [(2, Int.ofNat o0), (0, v1)]) (st' := [(0, v1), (0, (wr ((h o0 13) + 1))), (0, 0), (2, Int.ofNat (o0 + 1))]) rfl ?_
  refine jbind H (fun b1 Hb1 H => ?_)
  refine jEv.calV (st' := []) (show jfI 110 12 (.invokevirtual 117) 3 [1, 3, 3, 4099] = true by decide +kernel) rfl (Or.inl rfl) rfl (Nat.le_of_ble_eq_true rfl) (by decide +kernel) (by decide) (isX0_L (isX9_s1 ho0)) ((t_Di_writeHead (T := T) (xs := xs) (isX9_s1 ho0) Hb1).mono (jKle 3 hd)) rfl ?_
  refine jEv.blk [(.aload_n 0, 1, []), (.iconst 0, 1, []), (.iconst 5, 1, []), (.aload_n 0, 1, [])] (by decide +kernel) (pc' := 19) (ls' := [(2, Int.ofNat o0), (0, v1)]) (st' := [(2, Int.ofNat o0), (0, 5), (0, 0), (2, Int.ofNat o0)]) rfl ?_
  refine jEv.gfI (show jfI 110 19 (.getfield 80) 3 [9, 13, 0, 0, 2096] = true by decide +kernel) (isX9_L ho0) (by decide) ?_
  refine jEv.blk [(.iconst 1, 1, []), (.iadd, 1, []), (.aload_n 0, 1, [])] (by decide +kernel) (pc' := 25) (ls' := [(2, Int.ofNat o0), (0, v1)]) (st' := [(2, Int.ofNat o0), (0, (wr ((b1 o0 13) + 1))), (0, 5), (0, 0), (2, Int.ofNat o0)]) rfl ?_
  refine jEv.gfI (show jfI 110 25 (.getfield 80) 3 [9, 13, 0, 0, 2096] = true by decide +kernel) (isX9_L ho0) (by decide) ?_
  refine jEv.blk [(.iconst 1, 1, []), (.iadd, 1, [])] (by decide +kernel) (pc' := 30) (ls' := [(2, Int.ofNat o0), (0, v1)]) (st' := [(0, (wr ((b1 o0 13) + 1))), (0, (wr ((b1 o0 13) + 1))), (0, 5), (0, 0), (2, Int.ofNat o0)]) rfl ?_
  refine jbind H (fun b2 Hb2 H => ?_)
  refine jEv.calV (st' := []) (show jfI 110 30 (.invokevirtual 113) 3 [1, 111, 4, 4111] = true by decide +kernel) rfl (Or.inl rfl) rfl (Nat.le_of_ble_eq_true rfl) (by decide +kernel) (by decide) (isX9_L ho0) ((t_St_movePlace (T := T) (xs := xs) ho0 Hb2).mono (jKle 1 hd)) rfl ?_
  exact jEv.retV (show jfI 110 33 (.return_) 1 [] = true by decide +kernel) (by decide +kernel) (by cases H; exact HY)
set_option maxRecDepth 20000 in
noncomputable def St_takesRecord_p69  (h : jH)  : Option Int := some 0
set_option maxRecDepth 20000 in
theorem t_St_takesRecord_p69 {T : jT} {xs : List Int} {d : Nat} {y : jV × jS} (hd : 2 ≤ d) {h : jH}   {out : Int}  (H : St_takesRecord_p69 h = some out) (HY : ykIp T h y out) : jEv xs d (112, 69, [(3, 0), (3, 0), (3, 0), (3, 0)], []) (T, h) y := by
  unfold St_takesRecord_p69 at H
  refine jEv.blk [(.iconst 0, 1, [])] (by decide +kernel) (pc' := 70) (ls' := [(3, 0), (3, 0), (3, 0), (3, 0)]) (st' := [(0, 0)]) rfl ?_
  exact jEv.retZ (show jfI 112 70 (.ireturn) 1 [] = true by decide +kernel) (by decide +kernel) (by decide) (by cases H; exact HY)
set_option maxRecDepth 20000 in
noncomputable def St_takesRecord  (h : jH) (o0 : Nat) (v1 : Int) (v2 : Int) (v3 : Int) : Option Int := (if (h o0 14) = 0 then Option.bind (Qu_waitingCount h (o0 + 7)) (fun b2 => (if b2 < 16 then (if v1 < 0 then St_takesRecord_p69 h else (if v1 < 16 then (if v2 < 0 then St_takesRecord_p69 h else (if v2 < 1000 then (if v3 < 0 then St_takesRecord_p69 h else (if v3 < 41 then Option.bind (Di_behindRecord h (o0 + 1) 5 (wr (3 + v3))) (fun b10 => (if b10 = (-1) then St_takesRecord_p69 h else some 1)) else St_takesRecord_p69 h)) else St_takesRecord_p69 h)) else St_takesRecord_p69 h)) else St_takesRecord_p69 h)) else St_takesRecord_p69 h)
set_option maxRecDepth 20000 in
theorem t_St_takesRecord {T : jT} {xs : List Int} {h : jH}  {o0 : Nat} {v1 : Int} {v2 : Int} {v3 : Int} {out : Int} (ho0 : isX9 T o0) (H : St_takesRecord h o0 v1 v2 v3 = some out) : jEm xs 3 112 [(2, Int.ofNat o0), (0, v1), (0, v2), (0, v3)] (T, h) ((0, out), (T, h)) := by
  have hd : 2 ≤ 2 := Nat.le_refl _
  obtain ⟨y, ey⟩ : ∃ y : jV × jS, y = ((0, out), (T, h)) := ⟨_, rfl⟩
  rw [← ey]
  have HY : ykIp T h y out := ey
  refine jEm.ent (n := 4) (by decide +kernel) (Nat.le_of_ble_eq_true rfl) ?_
  show jEv xs 2 (112, 0, [(2, Int.ofNat o0), (0, v1), (0, v2), (0, v3)], []) (T, h) y
  unfold St_takesRecord at H
  refine jEv.blk [(.aload_n 0, 1, [])] (by decide +kernel) (pc' := 1) (ls' := [(2, Int.ofNat o0), (0, v1), (0, v2), (0, v3)]) (st' := [(2, Int.ofNat o0)]) rfl ?_
  refine jEv.gfI (show jfI 112 1 (.getfield 83) 3 [9, 14, 0, 1, 2098] = true by decide +kernel) (isX9_L ho0) (by decide) ?_
  refine jEv.if_ne (t := 69) (show jfI 112 4 (.ifCond .ne 65) 3 [] = true by decide +kernel) rfl H (fun c1 H => ?_) (fun c1 H => ?_)
  · refine jEv.blk [(.aload_n 0, 1, [])] (by decide +kernel) (pc' := 8) (ls' := [(2, Int.ofNat o0), (0, v1), (0, v2), (0, v3)]) (st' := [(2, Int.ofNat o0)]) rfl ?_
    refine jEv.gfR (o' := (o0 + 7)) (show jfI 112 8 (.getfield 28) 3 [9, 3, 5, 0, 2071] = true by decide +kernel) (isX9_L ho0) (by decide) (isX9_r3 ho0) ?_
    refine jbind H (fun b2 Hb2 H => ?_)
    refine jEv.calV (st' := [(0, b2)]) (show jfI 112 11 (.invokevirtual 121) 3 [1, 92, 0, 4119] = true by decide +kernel) rfl (Or.inl rfl) rfl (Nat.le_of_ble_eq_true rfl) (by decide +kernel) (by decide) (isX7_L (isX9_s3 ho0)) ((t_Qu_waitingCount (T := T) (xs := xs) (isX9_s3 ho0) Hb2).mono (jKle 1 hd)) rfl ?_
    refine jEv.blk [(.bipush 16, 2, [])] (by decide +kernel) (pc' := 16) (ls' := [(2, Int.ofNat o0), (0, v1), (0, v2), (0, v3)]) (st' := [(0, 16), (0, b2)]) rfl ?_
    refine jEv.ic_ge (t := 69) (show jfI 112 16 (.if_icmp .ge 53) 3 [] = true by decide +kernel) rfl H (fun c3 H => ?_) (fun c3 H => ?_)
    · refine jEv.blk [(.iload_n 1, 1, [])] (by decide +kernel) (pc' := 20) (ls' := [(2, Int.ofNat o0), (0, v1), (0, v2), (0, v3)]) (st' := [(0, v1)]) rfl ?_
      refine jEv.if_lt (t := 69) (show jfI 112 20 (.ifCond .lt 49) 3 [] = true by decide +kernel) rfl H (fun c4 H => ?_) (fun c4 H => ?_)
      · exact jEv.weak (a := [(3, 0), (3, 0), (3, 0), (3, 0)]) (jles.c0 (jles.c0 (jles.c0 (jles.c0 jles.nl)))) (t_St_takesRecord_p69 (T := T) (xs := xs) (y := y) hd H HY)
      · refine jEv.blk [(.iload_n 1, 1, []), (.bipush 16, 2, [])] (by decide +kernel) (pc' := 26) (ls' := [(2, Int.ofNat o0), (0, v1), (0, v2), (0, v3)]) (st' := [(0, 16), (0, v1)]) rfl ?_
        refine jEv.ic_ge (t := 69) (show jfI 112 26 (.if_icmp .ge 43) 3 [] = true by decide +kernel) rfl H (fun c5 H => ?_) (fun c5 H => ?_)
        · refine jEv.blk [(.iload_n 2, 1, [])] (by decide +kernel) (pc' := 30) (ls' := [(2, Int.ofNat o0), (0, v1), (0, v2), (0, v3)]) (st' := [(0, v2)]) rfl ?_
          refine jEv.if_lt (t := 69) (show jfI 112 30 (.ifCond .lt 39) 3 [] = true by decide +kernel) rfl H (fun c6 H => ?_) (fun c6 H => ?_)
          · exact jEv.weak (a := [(3, 0), (3, 0), (3, 0), (3, 0)]) (jles.c0 (jles.c0 (jles.c0 (jles.c0 jles.nl)))) (t_St_takesRecord_p69 (T := T) (xs := xs) (y := y) hd H HY)
          · refine jEv.blk [(.iload_n 2, 1, []), (.sipush 1000, 3, [])] (by decide +kernel) (pc' := 37) (ls' := [(2, Int.ofNat o0), (0, v1), (0, v2), (0, v3)]) (st' := [(0, 1000), (0, v2)]) rfl ?_
            refine jEv.ic_ge (t := 69) (show jfI 112 37 (.if_icmp .ge 32) 3 [] = true by decide +kernel) rfl H (fun c7 H => ?_) (fun c7 H => ?_)
            · refine jEv.blk [(.iload_n 3, 1, [])] (by decide +kernel) (pc' := 41) (ls' := [(2, Int.ofNat o0), (0, v1), (0, v2), (0, v3)]) (st' := [(0, v3)]) rfl ?_
              refine jEv.if_lt (t := 69) (show jfI 112 41 (.ifCond .lt 28) 3 [] = true by decide +kernel) rfl H (fun c8 H => ?_) (fun c8 H => ?_)
              · exact jEv.weak (a := [(3, 0), (3, 0), (3, 0), (3, 0)]) (jles.c0 (jles.c0 (jles.c0 (jles.c0 jles.nl)))) (t_St_takesRecord_p69 (T := T) (xs := xs) (y := y) hd H HY)
              · refine jEv.blk [(.iload_n 3, 1, []), (.bipush 41, 2, [])] (by decide +kernel) (pc' := 47) (ls' := [(2, Int.ofNat o0), (0, v1), (0, v2), (0, v3)]) (st' := [(0, 41), (0, v3)]) rfl ?_
                refine jEv.ic_ge (t := 69) (show jfI 112 47 (.if_icmp .ge 22) 3 [] = true by decide +kernel) rfl H (fun c9 H => ?_) (fun c9 H => ?_)
                · refine jEv.blk [(.aload_n 0, 1, [])] (by decide +kernel) (pc' := 51) (ls' := [(2, Int.ofNat o0), (0, v1), (0, v2), (0, v3)]) (st' := [(2, Int.ofNat o0)]) rfl ?_
                  refine jEv.gfR (o' := (o0 + 1)) (show jfI 112 51 (.getfield 12) 3 [9, 1, 5, 0, 2065] = true by decide +kernel) (isX9_L ho0) (by decide) (isX9_r1 ho0) ?_
                  refine jEv.blk [(.iconst 5, 1, []), (.iconst 3, 1, []), (.iload_n 3, 1, []), (.iadd, 1, [])] (by decide +kernel) (pc' := 58) (ls' := [(2, Int.ofNat o0), (0, v1), (0, v2), (0, v3)]) (st' := [(0, (wr (3 + v3))), (0, 5), (2, Int.ofNat (o0 + 1))]) rfl ?_
                  refine jbind H (fun b10 Hb10 H => ?_)
                  refine jEv.calV (st' := [(0, b10)]) (show jfI 112 58 (.invokevirtual 125) 3 [1, 5, 2, 4123] = true by decide +kernel) rfl (Or.inl rfl) rfl (Nat.le_of_ble_eq_true rfl) (by decide +kernel) (by decide) (isX0_L (isX9_s1 ho0)) ((t_Di_behindRecord (T := T) (xs := xs) (isX9_s1 ho0) Hb10).mono (jKle 2 hd)) rfl ?_
                  refine jEv.blk [(.iconst (-1), 1, [])] (by decide +kernel) (pc' := 62) (ls' := [(2, Int.ofNat o0), (0, v1), (0, v2), (0, v3)]) (st' := [(0, (-1)), (0, b10)]) rfl ?_
                  refine jEv.ic_eq (t := 69) (show jfI 112 62 (.if_icmp .eq 7) 3 [] = true by decide +kernel) rfl H (fun c11 H => ?_) (fun c11 H => ?_)
                  · exact jEv.weak (a := [(3, 0), (3, 0), (3, 0), (3, 0)]) (jles.c0 (jles.c0 (jles.c0 (jles.c0 jles.nl)))) (t_St_takesRecord_p69 (T := T) (xs := xs) (y := y) hd H HY)
                  · refine jEv.blk [(.iconst 1, 1, [])] (by decide +kernel) (pc' := 66) (ls' := [(2, Int.ofNat o0), (0, v1), (0, v2), (0, v3)]) (st' := [(0, 1)]) rfl ?_
                    refine jEv.goto (t := 70) (show jfI 112 66 (.goto 4) 3 [] = true by decide +kernel) rfl ?_
                    exact jEv.retZ (show jfI 112 70 (.ireturn) 1 [] = true by decide +kernel) (by decide +kernel) (by decide) (by cases H; exact HY)
                · exact jEv.weak (a := [(3, 0), (3, 0), (3, 0), (3, 0)]) (jles.c0 (jles.c0 (jles.c0 (jles.c0 jles.nl)))) (t_St_takesRecord_p69 (T := T) (xs := xs) (y := y) hd H HY)
            · exact jEv.weak (a := [(3, 0), (3, 0), (3, 0), (3, 0)]) (jles.c0 (jles.c0 (jles.c0 (jles.c0 jles.nl)))) (t_St_takesRecord_p69 (T := T) (xs := xs) (y := y) hd H HY)
        · exact jEv.weak (a := [(3, 0), (3, 0), (3, 0), (3, 0)]) (jles.c0 (jles.c0 (jles.c0 (jles.c0 jles.nl)))) (t_St_takesRecord_p69 (T := T) (xs := xs) (y := y) hd H HY)
    · exact jEv.weak (a := [(3, 0), (3, 0), (3, 0), (3, 0)]) (jles.c0 (jles.c0 (jles.c0 (jles.c0 jles.nl)))) (t_St_takesRecord_p69 (T := T) (xs := xs) (y := y) hd H HY)
  · exact jEv.weak (a := [(3, 0), (3, 0), (3, 0), (3, 0)]) (jles.c0 (jles.c0 (jles.c0 (jles.c0 jles.nl)))) (t_St_takesRecord_p69 (T := T) (xs := xs) (y := y) hd H HY)
set_option maxRecDepth 20000 in
noncomputable def Wa_copyFrom  (h : jH) (o0 : Nat) (o1 : Nat) : Option jH := Option.bind (G_copy (jup (jup h o0 2 (h o1 2)) o0 6 ((jup h o0 2 (h o1 2)) o1 6)) (o1 + 1) 8 (o0 + 1) 8) (fun b1 => Option.bind (G_copy b1 (o1 + 2) 8 (o0 + 2) 8) (fun b2 => Option.bind (G_copy b2 (o1 + 3) 40 (o0 + 3) 40) (fun b3 => Option.bind (G_copy b3 (o1 + 4) 40 (o0 + 4) 40) (fun b4 => Option.bind (G_copy b4 (o1 + 5) 40 (o0 + 5) 40) (fun b5 => some b5)))))
set_option maxRecDepth 20000 in
theorem t_Wa_copyFrom {T : jT} {xs : List Int} {h : jH}  {o0 : Nat} {o1 : Nat} {out : jH} (ho0 : isX10 T o0) (ho1 : isX10 T o1) (H : Wa_copyFrom h o0 o1 = some out) : jEm xs 3 130 [(2, Int.ofNat o0), (2, Int.ofNat o1)] (T, h) ((3, 0), (T, out)) := by
  have hd : 2 ≤ 2 := Nat.le_refl _
  obtain ⟨y, ey⟩ : ∃ y : jV × jS, y = ((3, 0), (T, out)) := ⟨_, rfl⟩
  rw [← ey]
  have HY : ykV T y out := ey
  refine jEm.ent (n := 2) (by decide +kernel) (Nat.le_of_ble_eq_true rfl) ?_
  show jEv xs 2 (130, 0, [(2, Int.ofNat o0), (2, Int.ofNat o1)], []) (T, h) y
  unfold Wa_copyFrom at H
  refine jEv.blk [(.aload_n 0, 1, []), (.aload_n 1, 1, [])] (by decide +kernel) (pc' := 2) (ls' := [(2, Int.ofNat o0), (2, Int.ofNat o1)]) (st' := [(2, Int.ofNat o1), (2, Int.ofNat o0)]) rfl ?_
  refine jEv.gfI (show jfI 130 2 (.getfield 27) 3 [10, 2, 0, 0, 2039] = true by decide +kernel) (isX10_L ho1) (by decide) ?_
  refine jEv.pfI (show jfI 130 5 (.putfield 27) 3 [10, 2, 0, 0, 2039] = true by decide +kernel) (isX10_L ho0) (by decide) ?_
  refine jEv.blk [(.aload_n 0, 1, []), (.aload_n 1, 1, [])] (by decide +kernel) (pc' := 10) (ls' := [(2, Int.ofNat o0), (2, Int.ofNat o1)]) (st' := [(2, Int.ofNat o1), (2, Int.ofNat o0)]) rfl ?_
  refine jEv.gfI (show jfI 130 10 (.getfield 31) 3 [10, 6, 0, 0, 2045] = true by decide +kernel) (isX10_L ho1) (by decide) ?_
  refine jEv.pfI (show jfI 130 13 (.putfield 31) 3 [10, 6, 0, 0, 2045] = true by decide +kernel) (isX10_L ho0) (by decide) ?_
  refine jEv.blk [(.aload_n 1, 1, [])] (by decide +kernel) (pc' := 17) (ls' := [(2, Int.ofNat o0), (2, Int.ofNat o1)]) (st' := [(2, Int.ofNat o1)]) rfl ?_
  refine jEv.gfR (o' := (o1 + 1)) (show jfI 130 17 (.getfield 9) 3 [10, 0, 5, 0, 2037] = true by decide +kernel) (isX10_L ho1) (by decide) (isX10_r0 ho1) ?_
  refine jEv.blk [(.aload_n 0, 1, [])] (by decide +kernel) (pc' := 21) (ls' := [(2, Int.ofNat o0), (2, Int.ofNat o1)]) (st' := [(2, Int.ofNat o0), (2, Int.ofNat (o1 + 1))]) rfl ?_
  refine jEv.gfR (o' := (o0 + 1)) (show jfI 130 21 (.getfield 9) 3 [10, 0, 5, 0, 2037] = true by decide +kernel) (isX10_L ho0) (by decide) (isX10_r0 ho0) ?_
  refine jbind H (fun b1 Hb1 H => ?_)
  refine jEv.calS (st' := []) (show jfI 130 24 (.invokestatic 34) 3 [4, 159, 2, 5076] = true by decide +kernel) rfl (Or.inr rfl) rfl (Nat.le_of_ble_eq_true rfl) ((t_G_copy (T := T) (xs := xs) (isX10_a0 ho1) (isX10_a0 ho0) Hb1).mono (jKle 2 hd)) rfl ?_
  refine jEv.blk [(.aload_n 1, 1, [])] (by decide +kernel) (pc' := 28) (ls' := [(2, Int.ofNat o0), (2, Int.ofNat o1)]) (st' := [(2, Int.ofNat o1)]) rfl ?_
  refine jEv.gfR (o' := (o1 + 2)) (show jfI 130 28 (.getfield 15) 3 [10, 1, 5, 0, 2038] = true by decide +kernel) (isX10_L ho1) (by decide) (isX10_r1 ho1) ?_
  refine jEv.blk [(.aload_n 0, 1, [])] (by decide +kernel) (pc' := 32) (ls' := [(2, Int.ofNat o0), (2, Int.ofNat o1)]) (st' := [(2, Int.ofNat o0), (2, Int.ofNat (o1 + 2))]) rfl ?_
  refine jEv.gfR (o' := (o0 + 2)) (show jfI 130 32 (.getfield 15) 3 [10, 1, 5, 0, 2038] = true by decide +kernel) (isX10_L ho0) (by decide) (isX10_r1 ho0) ?_
  refine jbind H (fun b2 Hb2 H => ?_)
  refine jEv.calS (st' := []) (show jfI 130 35 (.invokestatic 34) 3 [4, 159, 2, 5076] = true by decide +kernel) rfl (Or.inr rfl) rfl (Nat.le_of_ble_eq_true rfl) ((t_G_copy (T := T) (xs := xs) (isX10_a1 ho1) (isX10_a1 ho0) Hb2).mono (jKle 2 hd)) rfl ?_
  refine jEv.blk [(.aload_n 1, 1, [])] (by decide +kernel) (pc' := 39) (ls' := [(2, Int.ofNat o0), (2, Int.ofNat o1)]) (st' := [(2, Int.ofNat o1)]) rfl ?_
  refine jEv.gfR (o' := (o1 + 3)) (show jfI 130 39 (.getfield 18) 3 [10, 3, 5, 0, 2042] = true by decide +kernel) (isX10_L ho1) (by decide) (isX10_r3 ho1) ?_
  refine jEv.blk [(.aload_n 0, 1, [])] (by decide +kernel) (pc' := 43) (ls' := [(2, Int.ofNat o0), (2, Int.ofNat o1)]) (st' := [(2, Int.ofNat o0), (2, Int.ofNat (o1 + 3))]) rfl ?_
  refine jEv.gfR (o' := (o0 + 3)) (show jfI 130 43 (.getfield 18) 3 [10, 3, 5, 0, 2042] = true by decide +kernel) (isX10_L ho0) (by decide) (isX10_r3 ho0) ?_
  refine jbind H (fun b3 Hb3 H => ?_)
  refine jEv.calS (st' := []) (show jfI 130 46 (.invokestatic 34) 3 [4, 159, 2, 5076] = true by decide +kernel) rfl (Or.inr rfl) rfl (Nat.le_of_ble_eq_true rfl) ((t_G_copy (T := T) (xs := xs) (isX10_a3 ho1) (isX10_a3 ho0) Hb3).mono (jKle 2 hd)) rfl ?_
  refine jEv.blk [(.aload_n 1, 1, [])] (by decide +kernel) (pc' := 50) (ls' := [(2, Int.ofNat o0), (2, Int.ofNat o1)]) (st' := [(2, Int.ofNat o1)]) rfl ?_
  refine jEv.gfR (o' := (o1 + 4)) (show jfI 130 50 (.getfield 21) 3 [10, 4, 5, 0, 2043] = true by decide +kernel) (isX10_L ho1) (by decide) (isX10_r4 ho1) ?_
  refine jEv.blk [(.aload_n 0, 1, [])] (by decide +kernel) (pc' := 54) (ls' := [(2, Int.ofNat o0), (2, Int.ofNat o1)]) (st' := [(2, Int.ofNat o0), (2, Int.ofNat (o1 + 4))]) rfl ?_
  refine jEv.gfR (o' := (o0 + 4)) (show jfI 130 54 (.getfield 21) 3 [10, 4, 5, 0, 2043] = true by decide +kernel) (isX10_L ho0) (by decide) (isX10_r4 ho0) ?_
  refine jbind H (fun b4 Hb4 H => ?_)
  refine jEv.calS (st' := []) (show jfI 130 57 (.invokestatic 34) 3 [4, 159, 2, 5076] = true by decide +kernel) rfl (Or.inr rfl) rfl (Nat.le_of_ble_eq_true rfl) ((t_G_copy (T := T) (xs := xs) (isX10_a4 ho1) (isX10_a4 ho0) Hb4).mono (jKle 2 hd)) rfl ?_
  refine jEv.blk [(.aload_n 1, 1, [])] (by decide +kernel) (pc' := 61) (ls' := [(2, Int.ofNat o0), (2, Int.ofNat o1)]) (st' := [(2, Int.ofNat o1)]) rfl ?_
  refine jEv.gfR (o' := (o1 + 5)) (show jfI 130 61 (.getfield 24) 3 [10, 5, 5, 0, 2044] = true by decide +kernel) (isX10_L ho1) (by decide) (isX10_r5 ho1) ?_
  refine jEv.blk [(.aload_n 0, 1, [])] (by decide +kernel) (pc' := 65) (ls' := [(2, Int.ofNat o0), (2, Int.ofNat o1)]) (st' := [(2, Int.ofNat o0), (2, Int.ofNat (o1 + 5))]) rfl ?_
  refine jEv.gfR (o' := (o0 + 5)) (show jfI 130 65 (.getfield 24) 3 [10, 5, 5, 0, 2044] = true by decide +kernel) (isX10_L ho0) (by decide) (isX10_r5 ho0) ?_
  refine jbind H (fun b5 Hb5 H => ?_)
  refine jEv.calS (st' := []) (show jfI 130 68 (.invokestatic 34) 3 [4, 159, 2, 5076] = true by decide +kernel) rfl (Or.inr rfl) rfl (Nat.le_of_ble_eq_true rfl) ((t_G_copy (T := T) (xs := xs) (isX10_a5 ho1) (isX10_a5 ho0) Hb5).mono (jKle 2 hd)) rfl ?_
  exact jEv.retV (show jfI 130 71 (.return_) 1 [] = true by decide +kernel) (by decide +kernel) (by cases H; exact HY)
set_option maxRecDepth 20000 in
noncomputable def St_copyFrom (T : jT) (h : jH) (o0 : Nat) (o1 : Nat) : Option jH := Option.bind (jdyn (isX6 T) (h o1 0)) (fun q1 => Option.bind (Di_copyFrom (jup h o0 0 (Int.ofNat q1)) (o0 + 1) (o1 + 1)) (fun b2 => Option.bind (Fl_copyFrom b2 (o0 + 4) (o1 + 4)) (fun b3 => Option.bind (Qu_copyFrom b3 (o0 + 7) (o1 + 7)) (fun b4 => Option.bind (Wa_copyFrom b4 (o0 + 12) (o1 + 12)) (fun b5 => Option.bind (G_copy b5 (o1 + 18) 16 (o0 + 18) 16) (fun b6 => Option.bind (G_copy b6 (o1 + 19) 16 (o0 + 19) 16) (fun b7 => Option.bind (G_copy b7 (o1 + 20) 4 (o0 + 20) 4) (fun b8 => Option.bind (St_movePlace (jup (jup b8 o0 7 (b8 o1 7)) o0 9 ((jup b8 o0 7 (b8 o1 7)) o1 9)) o0 ((jup (jup b8 o0 7 (b8 o1 7)) o0 9 ((jup b8 o0 7 (b8 o1 7)) o1 9)) o1 10) ((jup (jup b8 o0 7 (b8 o1 7)) o0 9 ((jup b8 o0 7 (b8 o1 7)) o1 9)) o1 11) ((jup (jup b8 o0 7 (b8 o1 7)) o0 9 ((jup b8 o0 7 (b8 o1 7)) o1 9)) o1 12) ((jup (jup b8 o0 7 (b8 o1 7)) o0 9 ((jup b8 o0 7 (b8 o1 7)) o1 9)) o1 13)) (fun b9 => (if (b9 o1 14) = 0 ∨ (b9 o1 14) = 1 then some (jup b9 o0 14 (b9 o1 14)) else none))))))))))
set_option maxRecDepth 20000 in
theorem t_St_copyFrom {T : jT} {xs : List Int} {h : jH}  {o0 : Nat} {o1 : Nat} {out : jH} (ho0 : isX9 T o0) (ho1 : isX9 T o1) (H : St_copyFrom T h o0 o1 = some out) : jEm xs 4 114 [(2, Int.ofNat o0), (2, Int.ofNat o1)] (T, h) ((3, 0), (T, out)) := by
  have hd : 3 ≤ 3 := Nat.le_refl _
  obtain ⟨y, ey⟩ : ∃ y : jV × jS, y = ((3, 0), (T, out)) := ⟨_, rfl⟩
  rw [← ey]
  have HY : ykV T y out := ey
  refine jEm.ent (n := 2) (by decide +kernel) (Nat.le_of_ble_eq_true rfl) ?_
  show jEv xs 3 (114, 0, [(2, Int.ofNat o0), (2, Int.ofNat o1)], []) (T, h) y
  unfold St_copyFrom at H
  refine jEv.blk [(.aload_n 0, 1, []), (.aload_n 1, 1, [])] (by decide +kernel) (pc' := 2) (ls' := [(2, Int.ofNat o0), (2, Int.ofNat o1)]) (st' := [(2, Int.ofNat o1), (2, Int.ofNat o0)]) rfl ?_
  refine jEv.gfD (show jfI 114 2 (.getfield 49) 3 [9, 0, 2, 0, 2064] = true by decide +kernel) (isX9_L ho1) (by decide) H (fun q1 hq1 H => ?_)
  refine jEv.pfD (show jfI 114 5 (.putfield 49) 3 [9, 0, 2, 0, 2064] = true by decide +kernel) (isX9_L ho0) (by decide) ?_
  refine jEv.blk [(.aload_n 0, 1, [])] (by decide +kernel) (pc' := 9) (ls' := [(2, Int.ofNat o0), (2, Int.ofNat o1)]) (st' := [(2, Int.ofNat o0)]) rfl ?_
  refine jEv.gfR (o' := (o0 + 1)) (show jfI 114 9 (.getfield 12) 3 [9, 1, 5, 0, 2065] = true by decide +kernel) (isX9_L ho0) (by decide) (isX9_r1 ho0) ?_
  refine jEv.blk [(.aload_n 1, 1, [])] (by decide +kernel) (pc' := 13) (ls' := [(2, Int.ofNat o0), (2, Int.ofNat o1)]) (st' := [(2, Int.ofNat o1), (2, Int.ofNat (o0 + 1))]) rfl ?_
  refine jEv.gfR (o' := (o1 + 1)) (show jfI 114 13 (.getfield 12) 3 [9, 1, 5, 0, 2065] = true by decide +kernel) (isX9_L ho1) (by decide) (isX9_r1 ho1) ?_
  refine jbind H (fun b2 Hb2 H => ?_)
  refine jEv.calV (st' := []) (show jfI 114 16 (.invokevirtual 87) 3 [1, 15, 1, 5051] = true by decide +kernel) rfl (Or.inl rfl) rfl (Nat.le_of_ble_eq_true rfl) (by decide +kernel) (by decide) (isX0_L (isX9_s1 ho0)) ((t_Di_copyFrom (T := T) (xs := xs) (isX9_s1 ho0) (isX9_s1 ho1) Hb2).mono (jKle 3 hd)) rfl ?_
  refine jEv.blk [(.aload_n 0, 1, [])] (by decide +kernel) (pc' := 20) (ls' := [(2, Int.ofNat o0), (2, Int.ofNat o1)]) (st' := [(2, Int.ofNat o0)]) rfl ?_
  refine jEv.gfR (o' := (o0 + 4)) (show jfI 114 20 (.getfield 21) 3 [9, 2, 5, 0, 2068] = true by decide +kernel) (isX9_L ho0) (by decide) (isX9_r2 ho0) ?_
  refine jEv.blk [(.aload_n 1, 1, [])] (by decide +kernel) (pc' := 24) (ls' := [(2, Int.ofNat o0), (2, Int.ofNat o1)]) (st' := [(2, Int.ofNat o1), (2, Int.ofNat (o0 + 4))]) rfl ?_
  refine jEv.gfR (o' := (o1 + 4)) (show jfI 114 24 (.getfield 21) 3 [9, 2, 5, 0, 2068] = true by decide +kernel) (isX9_L ho1) (by decide) (isX9_r2 ho1) ?_
  refine jbind H (fun b3 Hb3 H => ?_)
  refine jEv.calV (st' := []) (show jfI 114 27 (.invokevirtual 91) 3 [1, 23, 1, 5062] = true by decide +kernel) rfl (Or.inl rfl) rfl (Nat.le_of_ble_eq_true rfl) (by decide +kernel) (by decide) (isX1_L (isX9_s2 ho0)) ((t_Fl_copyFrom (T := T) (xs := xs) (isX9_s2 ho0) (isX9_s2 ho1) Hb3).mono (jKle 3 hd)) rfl ?_
  refine jEv.blk [(.aload_n 0, 1, [])] (by decide +kernel) (pc' := 31) (ls' := [(2, Int.ofNat o0), (2, Int.ofNat o1)]) (st' := [(2, Int.ofNat o0)]) rfl ?_
  refine jEv.gfR (o' := (o0 + 7)) (show jfI 114 31 (.getfield 28) 3 [9, 3, 5, 0, 2071] = true by decide +kernel) (isX9_L ho0) (by decide) (isX9_r3 ho0) ?_
  refine jEv.blk [(.aload_n 1, 1, [])] (by decide +kernel) (pc' := 35) (ls' := [(2, Int.ofNat o0), (2, Int.ofNat o1)]) (st' := [(2, Int.ofNat o1), (2, Int.ofNat (o0 + 7))]) rfl ?_
  refine jEv.gfR (o' := (o1 + 7)) (show jfI 114 35 (.getfield 28) 3 [9, 3, 5, 0, 2071] = true by decide +kernel) (isX9_L ho1) (by decide) (isX9_r3 ho1) ?_
  refine jbind H (fun b4 Hb4 H => ?_)
  refine jEv.calV (st' := []) (show jfI 114 38 (.invokevirtual 94) 3 [1, 96, 1, 5067] = true by decide +kernel) rfl (Or.inl rfl) rfl (Nat.le_of_ble_eq_true rfl) (by decide +kernel) (by decide) (isX7_L (isX9_s3 ho0)) ((t_Qu_copyFrom (T := T) (xs := xs) (isX9_s3 ho0) (isX9_s3 ho1) Hb4).mono (jKle 3 hd)) rfl ?_
  refine jEv.blk [(.aload_n 0, 1, [])] (by decide +kernel) (pc' := 42) (ls' := [(2, Int.ofNat o0), (2, Int.ofNat o1)]) (st' := [(2, Int.ofNat o0)]) rfl ?_
  refine jEv.gfR (o' := (o0 + 12)) (show jfI 114 42 (.getfield 35) 3 [9, 4, 5, 0, 2074] = true by decide +kernel) (isX9_L ho0) (by decide) (isX9_r4 ho0) ?_
  refine jEv.blk [(.aload_n 1, 1, [])] (by decide +kernel) (pc' := 46) (ls' := [(2, Int.ofNat o0), (2, Int.ofNat o1)]) (st' := [(2, Int.ofNat o1), (2, Int.ofNat (o0 + 12))]) rfl ?_
  refine jEv.gfR (o' := (o1 + 12)) (show jfI 114 46 (.getfield 35) 3 [9, 4, 5, 0, 2074] = true by decide +kernel) (isX9_L ho1) (by decide) (isX9_r4 ho1) ?_
  refine jbind H (fun b5 Hb5 H => ?_)
  refine jEv.calV (st' := []) (show jfI 114 49 (.invokevirtual 97) 3 [1, 130, 1, 5072] = true by decide +kernel) rfl (Or.inl rfl) rfl (Nat.le_of_ble_eq_true rfl) (by decide +kernel) (by decide) (isX10_L (isX9_s4 ho0)) ((t_Wa_copyFrom (T := T) (xs := xs) (isX9_s4 ho0) (isX9_s4 ho1) Hb5).mono (jKle 3 hd)) rfl ?_
  refine jEv.blk [(.aload_n 1, 1, [])] (by decide +kernel) (pc' := 53) (ls' := [(2, Int.ofNat o0), (2, Int.ofNat o1)]) (st' := [(2, Int.ofNat o1)]) rfl ?_
  refine jEv.gfR (o' := (o1 + 18)) (show jfI 114 53 (.getfield 39) 3 [9, 5, 5, 0, 2076] = true by decide +kernel) (isX9_L ho1) (by decide) (isX9_r5 ho1) ?_
  refine jEv.blk [(.aload_n 0, 1, [])] (by decide +kernel) (pc' := 57) (ls' := [(2, Int.ofNat o0), (2, Int.ofNat o1)]) (st' := [(2, Int.ofNat o0), (2, Int.ofNat (o1 + 18))]) rfl ?_
  refine jEv.gfR (o' := (o0 + 18)) (show jfI 114 57 (.getfield 39) 3 [9, 5, 5, 0, 2076] = true by decide +kernel) (isX9_L ho0) (by decide) (isX9_r5 ho0) ?_
  refine jbind H (fun b6 Hb6 H => ?_)
  refine jEv.calS (st' := []) (show jfI 114 60 (.invokestatic 100) 3 [4, 159, 2, 5077] = true by decide +kernel) rfl (Or.inr rfl) rfl (Nat.le_of_ble_eq_true rfl) ((t_G_copy (T := T) (xs := xs) (isX9_a5 ho1) (isX9_a5 ho0) Hb6).mono (jKle 2 hd)) rfl ?_
  refine jEv.blk [(.aload_n 1, 1, [])] (by decide +kernel) (pc' := 64) (ls' := [(2, Int.ofNat o0), (2, Int.ofNat o1)]) (st' := [(2, Int.ofNat o1)]) rfl ?_
  refine jEv.gfR (o' := (o1 + 19)) (show jfI 114 64 (.getfield 43) 3 [9, 6, 5, 0, 2078] = true by decide +kernel) (isX9_L ho1) (by decide) (isX9_r6 ho1) ?_
  refine jEv.blk [(.aload_n 0, 1, [])] (by decide +kernel) (pc' := 68) (ls' := [(2, Int.ofNat o0), (2, Int.ofNat o1)]) (st' := [(2, Int.ofNat o0), (2, Int.ofNat (o1 + 19))]) rfl ?_
  refine jEv.gfR (o' := (o0 + 19)) (show jfI 114 68 (.getfield 43) 3 [9, 6, 5, 0, 2078] = true by decide +kernel) (isX9_L ho0) (by decide) (isX9_r6 ho0) ?_
  refine jbind H (fun b7 Hb7 H => ?_)
  refine jEv.calS (st' := []) (show jfI 114 71 (.invokestatic 100) 3 [4, 159, 2, 5077] = true by decide +kernel) rfl (Or.inr rfl) rfl (Nat.le_of_ble_eq_true rfl) ((t_G_copy (T := T) (xs := xs) (isX9_a6 ho1) (isX9_a6 ho0) Hb7).mono (jKle 2 hd)) rfl ?_
  refine jEv.blk [(.aload_n 1, 1, [])] (by decide +kernel) (pc' := 75) (ls' := [(2, Int.ofNat o0), (2, Int.ofNat o1)]) (st' := [(2, Int.ofNat o1)]) rfl ?_
  refine jEv.gfR (o' := (o1 + 20)) (show jfI 114 75 (.getfield 46) 3 [9, 8, 5, 0, 2082] = true by decide +kernel) (isX9_L ho1) (by decide) (isX9_r8 ho1) ?_
  refine jEv.blk [(.aload_n 0, 1, [])] (by decide +kernel) (pc' := 79) (ls' := [(2, Int.ofNat o0), (2, Int.ofNat o1)]) (st' := [(2, Int.ofNat o0), (2, Int.ofNat (o1 + 20))]) rfl ?_
  refine jEv.gfR (o' := (o0 + 20)) (show jfI 114 79 (.getfield 46) 3 [9, 8, 5, 0, 2082] = true by decide +kernel) (isX9_L ho0) (by decide) (isX9_r8 ho0) ?_
  refine jbind H (fun b8 Hb8 H => ?_)
  refine jEv.calS (st' := []) (show jfI 114 82 (.invokestatic 100) 3 [4, 159, 2, 5077] = true by decide +kernel) rfl (Or.inr rfl) rfl (Nat.le_of_ble_eq_true rfl) ((t_G_copy (T := T) (xs := xs) (isX9_a8 ho1) (isX9_a8 ho0) Hb8).mono (jKle 2 hd)) rfl ?_
  refine jEv.blk [(.aload_n 0, 1, []), (.aload_n 1, 1, [])] (by decide +kernel) (pc' := 87) (ls' := [(2, Int.ofNat o0), (2, Int.ofNat o1)]) (st' := [(2, Int.ofNat o1), (2, Int.ofNat o0)]) rfl ?_
  refine jEv.gfI (show jfI 114 87 (.getfield 73) 3 [9, 7, 0, 0, 2080] = true by decide +kernel) (isX9_L ho1) (by decide) ?_
  refine jEv.pfI (show jfI 114 90 (.putfield 73) 3 [9, 7, 0, 0, 2080] = true by decide +kernel) (isX9_L ho0) (by decide) ?_
  refine jEv.blk [(.aload_n 0, 1, []), (.aload_n 1, 1, [])] (by decide +kernel) (pc' := 95) (ls' := [(2, Int.ofNat o0), (2, Int.ofNat o1)]) (st' := [(2, Int.ofNat o1), (2, Int.ofNat o0)]) rfl ?_
  refine jEv.gfI (show jfI 114 95 (.getfield 77) 3 [9, 9, 0, 0, 2084] = true by decide +kernel) (isX9_L ho1) (by decide) ?_
  refine jEv.pfI (show jfI 114 98 (.putfield 77) 3 [9, 9, 0, 0, 2084] = true by decide +kernel) (isX9_L ho0) (by decide) ?_
  refine jEv.blk [(.aload_n 0, 1, []), (.aload_n 1, 1, [])] (by decide +kernel) (pc' := 103) (ls' := [(2, Int.ofNat o0), (2, Int.ofNat o1)]) (st' := [(2, Int.ofNat o1), (2, Int.ofNat o0)]) rfl ?_
  refine jEv.gfI (show jfI 114 103 (.getfield 104) 3 [9, 10, 0, 0, 2087] = true by decide +kernel) (isX9_L ho1) (by decide) ?_
  refine jEv.blk [(.aload_n 1, 1, [])] (by decide +kernel) (pc' := 107) (ls' := [(2, Int.ofNat o0), (2, Int.ofNat o1)]) (st' := [(2, Int.ofNat o1), (0, ((jup (jup b8 o0 7 (b8 o1 7)) o0 9 ((jup b8 o0 7 (b8 o1 7)) o1 9)) o1 10)), (2, Int.ofNat o0)]) rfl ?_
  refine jEv.gfI (show jfI 114 107 (.getfield 107) 3 [9, 11, 0, 0, 2090] = true by decide +kernel) (isX9_L ho1) (by decide) ?_
  refine jEv.blk [(.aload_n 1, 1, [])] (by decide +kernel) (pc' := 111) (ls' := [(2, Int.ofNat o0), (2, Int.ofNat o1)]) (st' := [(2, Int.ofNat o1), (0, ((jup (jup b8 o0 7 (b8 o1 7)) o0 9 ((jup b8 o0 7 (b8 o1 7)) o1 9)) o1 11)), (0, ((jup (jup b8 o0 7 (b8 o1 7)) o0 9 ((jup b8 o0 7 (b8 o1 7)) o1 9)) o1 10)), (2, Int.ofNat o0)]) rfl ?_
  refine jEv.gfI (show jfI 114 111 (.getfield 110) 3 [9, 12, 0, 0, 2093] = true by decide +kernel) (isX9_L ho1) (by decide) ?_
  refine jEv.blk [(.aload_n 1, 1, [])] (by decide +kernel) (pc' := 115) (ls' := [(2, Int.ofNat o0), (2, Int.ofNat o1)]) (st' := [(2, Int.ofNat o1), (0, ((jup (jup b8 o0 7 (b8 o1 7)) o0 9 ((jup b8 o0 7 (b8 o1 7)) o1 9)) o1 12)), (0, ((jup (jup b8 o0 7 (b8 o1 7)) o0 9 ((jup b8 o0 7 (b8 o1 7)) o1 9)) o1 11)), (0, ((jup (jup b8 o0 7 (b8 o1 7)) o0 9 ((jup b8 o0 7 (b8 o1 7)) o1 9)) o1 10)), (2, Int.ofNat o0)]) rfl ?_
  refine jEv.gfI (show jfI 114 115 (.getfield 80) 3 [9, 13, 0, 0, 2096] = true by decide +kernel) (isX9_L ho1) (by decide) ?_
  refine jbind H (fun b9 Hb9 H => ?_)
  refine jEv.calV (st' := []) (show jfI 114 118 (.invokevirtual 113) 3 [1, 111, 4, 4111] = true by decide +kernel) rfl (Or.inl rfl) rfl (Nat.le_of_ble_eq_true rfl) (by decide +kernel) (by decide) (isX9_L ho0) ((t_St_movePlace (T := T) (xs := xs) ho0 Hb9).mono (jKle 1 hd)) rfl ?_
  refine jEv.blk [(.aload_n 0, 1, []), (.aload_n 1, 1, [])] (by decide +kernel) (pc' := 123) (ls' := [(2, Int.ofNat o0), (2, Int.ofNat o1)]) (st' := [(2, Int.ofNat o1), (2, Int.ofNat o0)]) rfl ?_
  refine jEv.gfI (show jfI 114 123 (.getfield 83) 3 [9, 14, 0, 1, 2098] = true by decide +kernel) (isX9_L ho1) (by decide) ?_
  refine jchk H (fun c10 H => ?_)
  refine jEv.pfZ (show jfI 114 126 (.putfield 83) 3 [9, 14, 0, 1, 2098] = true by decide +kernel) (isX9_L ho0) (by decide) c10 ?_
  exact jEv.retV (show jfI 114 129 (.return_) 1 [] = true by decide +kernel) (by decide +kernel) (by cases H; exact HY)
set_option maxRecDepth 20000 in
noncomputable def Wa_keep  (h : jH) (o0 : Nat) (v1 : Int) (v2 : Int) (v3 : Int) : Option jH := Option.bind (G_put h (o0 + 3) 40 (Int.tmod (h o0 6) 40) v1) (fun b1 => Option.bind (G_put b1 (o0 + 4) 40 (Int.tmod (h o0 6) 40) v2) (fun b2 => Option.bind (G_put b2 (o0 + 5) 40 (Int.tmod (h o0 6) 40) v3) (fun b3 => some (jup b3 o0 6 (wr ((b3 o0 6) + 1))))))
set_option maxRecDepth 20000 in
theorem t_Wa_keep {T : jT} {xs : List Int} {h : jH}  {o0 : Nat} {v1 : Int} {v2 : Int} {v3 : Int} {out : jH} (ho0 : isX10 T o0) (H : Wa_keep h o0 v1 v2 v3 = some out) : jEm xs 2 132 [(2, Int.ofNat o0), (0, v1), (0, v2), (0, v3)] (T, h) ((3, 0), (T, out)) := by
  have hd : 1 ≤ 1 := Nat.le_refl _
  obtain ⟨y, ey⟩ : ∃ y : jV × jS, y = ((3, 0), (T, out)) := ⟨_, rfl⟩
  rw [← ey]
  have HY : ykV T y out := ey
  refine jEm.ent (n := 5) (by decide +kernel) (Nat.le_of_ble_eq_true rfl) ?_
  show jEv xs 1 (132, 0, [(2, Int.ofNat o0), (0, v1), (0, v2), (0, v3), (3, 0)], []) (T, h) y
  unfold Wa_keep at H
  refine jEv.blk [(.aload_n 0, 1, [])] (by decide +kernel) (pc' := 1) (ls' := [(2, Int.ofNat o0), (0, v1), (0, v2), (0, v3), (3, 0)]) (st' := [(2, Int.ofNat o0)]) rfl ?_
  refine jEv.gfI (show jfI 132 1 (.getfield 31) 3 [10, 6, 0, 0, 2045] = true by decide +kernel) (isX10_L ho0) (by decide) ?_
  refine jEv.blk [(.bipush 40, 2, [])] (by decide +kernel) (pc' := 6) (ls' := [(2, Int.ofNat o0), (0, v1), (0, v2), (0, v3), (3, 0)]) (st' := [(0, 40), (0, (h o0 6))]) rfl ?_
  refine jEv.irem (show jfI 132 6 (.irem) 1 [] = true by decide +kernel) (by decide) ?_
  refine jEv.blk [(.istore 4, 2, []), (.aload_n 0, 1, [])] (by decide +kernel) (pc' := 10) (ls' := [(2, Int.ofNat o0), (0, v1), (0, v2), (0, v3), (0, (Int.tmod (h o0 6) 40))]) (st' := [(2, Int.ofNat o0)]) rfl ?_
  refine jEv.gfR (o' := (o0 + 3)) (show jfI 132 10 (.getfield 18) 3 [10, 3, 5, 0, 2042] = true by decide +kernel) (isX10_L ho0) (by decide) (isX10_r3 ho0) ?_
  refine jEv.blk [(.iload 4, 2, []), (.iload_n 1, 1, [])] (by decide +kernel) (pc' := 16) (ls' := [(2, Int.ofNat o0), (0, v1), (0, v2), (0, v3), (0, (Int.tmod (h o0 6) 40))]) (st' := [(0, v1), (0, (Int.tmod (h o0 6) 40)), (2, Int.ofNat (o0 + 3))]) rfl ?_
  refine jbind H (fun b1 Hb1 H => ?_)
  refine jEv.calS (st' := []) (show jfI 132 16 (.invokestatic 38) 3 [4, 138, 3, 5102] = true by decide +kernel) rfl (Or.inr rfl) rfl (Nat.le_of_ble_eq_true rfl) ((t_G_put (T := T) (xs := xs) (isX10_a3 ho0) Hb1).mono (jKle 1 hd)) rfl ?_
  refine jEv.blk [(.aload_n 0, 1, [])] (by decide +kernel) (pc' := 20) (ls' := [(2, Int.ofNat o0), (0, v1), (0, v2), (0, v3), (0, (Int.tmod (h o0 6) 40))]) (st' := [(2, Int.ofNat o0)]) rfl ?_
  refine jEv.gfR (o' := (o0 + 4)) (show jfI 132 20 (.getfield 21) 3 [10, 4, 5, 0, 2043] = true by decide +kernel) (isX10_L ho0) (by decide) (isX10_r4 ho0) ?_
  refine jEv.blk [(.iload 4, 2, []), (.iload_n 2, 1, [])] (by decide +kernel) (pc' := 26) (ls' := [(2, Int.ofNat o0), (0, v1), (0, v2), (0, v3), (0, (Int.tmod (h o0 6) 40))]) (st' := [(0, v2), (0, (Int.tmod (h o0 6) 40)), (2, Int.ofNat (o0 + 4))]) rfl ?_
  refine jbind H (fun b2 Hb2 H => ?_)
  refine jEv.calS (st' := []) (show jfI 132 26 (.invokestatic 38) 3 [4, 138, 3, 5102] = true by decide +kernel) rfl (Or.inr rfl) rfl (Nat.le_of_ble_eq_true rfl) ((t_G_put (T := T) (xs := xs) (isX10_a4 ho0) Hb2).mono (jKle 1 hd)) rfl ?_
  refine jEv.blk [(.aload_n 0, 1, [])] (by decide +kernel) (pc' := 30) (ls' := [(2, Int.ofNat o0), (0, v1), (0, v2), (0, v3), (0, (Int.tmod (h o0 6) 40))]) (st' := [(2, Int.ofNat o0)]) rfl ?_
  refine jEv.gfR (o' := (o0 + 5)) (show jfI 132 30 (.getfield 24) 3 [10, 5, 5, 0, 2044] = true by decide +kernel) (isX10_L ho0) (by decide) (isX10_r5 ho0) ?_
  refine jEv.blk [(.iload 4, 2, []), (.iload_n 3, 1, [])] (by decide +kernel) (pc' := 36) (ls' := [(2, Int.ofNat o0), (0, v1), (0, v2), (0, v3), (0, (Int.tmod (h o0 6) 40))]) (st' := [(0, v3), (0, (Int.tmod (h o0 6) 40)), (2, Int.ofNat (o0 + 5))]) rfl ?_
  refine jbind H (fun b3 Hb3 H => ?_)
  refine jEv.calS (st' := []) (show jfI 132 36 (.invokestatic 38) 3 [4, 138, 3, 5102] = true by decide +kernel) rfl (Or.inr rfl) rfl (Nat.le_of_ble_eq_true rfl) ((t_G_put (T := T) (xs := xs) (isX10_a5 ho0) Hb3).mono (jKle 1 hd)) rfl ?_
  refine jEv.blk [(.aload_n 0, 1, []), (.dup, 1, [])] (by decide +kernel) (pc' := 41) (ls' := [(2, Int.ofNat o0), (0, v1), (0, v2), (0, v3), (0, (Int.tmod (h o0 6) 40))]) (st' := [(2, Int.ofNat o0), (2, Int.ofNat o0)]) rfl ?_
  refine jEv.gfI (show jfI 132 41 (.getfield 31) 3 [10, 6, 0, 0, 2045] = true by decide +kernel) (isX10_L ho0) (by decide) ?_
  refine jEv.blk [(.iconst 1, 1, []), (.iadd, 1, [])] (by decide +kernel) (pc' := 46) (ls' := [(2, Int.ofNat o0), (0, v1), (0, v2), (0, v3), (0, (Int.tmod (h o0 6) 40))]) (st' := [(0, (wr ((b3 o0 6) + 1))), (2, Int.ofNat o0)]) rfl ?_
  refine jEv.pfI (show jfI 132 46 (.putfield 31) 3 [10, 6, 0, 0, 2045] = true by decide +kernel) (isX10_L ho0) (by decide) ?_
  exact jEv.retV (show jfI 132 49 (.return_) 1 [] = true by decide +kernel) (by decide +kernel) (by cases H; exact HY)
def yk_Wa_release_L11 (T : jT) (xs : List Int) (d : Nat) (y : jV × jS)  (o0 : Nat) (v1 : Int) (v2 : Int) (v4 : Int) : ((Int × Int × jH) ⊕ (Int × jH)) → Prop
  | .inl (v3, v5, h) => jEv xs d (131, 11, [(2, Int.ofNat o0), (0, v1), (0, v2), (0, v3), (0, v4), (0, v5)], []) (T, h) y
  | .inr o => ykI T y o
set_option maxRecDepth 20000 in
noncomputable def Wa_release_B11  (h : jH) (o0 : Nat) (v1 : Int) (v2 : Int) (v3 : Int) (v4 : Int) (v5 : Int) : Option ((Int × Int × jH) ⊕ (Int × jH)) := (if v5 < v4 then Option.bind (G_cell h (o0 + 2) 8 v5) (fun b2 => (if b2 = v1 then Option.bind (G_cell h (o0 + 1) 8 v5) (fun b4 => Option.bind (Wa_keep h o0 v2 b4 v1) (fun b5 => some (.inl (v3, (wr (v5 + 1)), b5)))) else Option.bind (G_cell h (o0 + 1) 8 v5) (fun b6 => Option.bind (G_put h (o0 + 1) 8 v3 b6) (fun b7 => Option.bind (G_cell b7 (o0 + 2) 8 v5) (fun b8 => Option.bind (G_put b7 (o0 + 2) 8 v3 b8) (fun b9 => some (.inl ((wr (v3 + 1)), (wr (v5 + 1)), b9)))))))) else Option.map Sum.inr (some ((wr (v4 - v3)), (jup h o0 2 v3))))
noncomputable def Wa_release_L11  (h : jH) (o0 : Nat) (v1 : Int) (v2 : Int) (v3 : Int) (v4 : Int) (v5 : Int) : Option (Int × jH) := jloop (fun s : (Int × Int × jH) => Wa_release_B11 s.2.2 o0 v1 v2 s.1 v4 s.2.1) (v3, v5, h)
set_option maxRecDepth 20000 in
theorem t_Wa_release_B11 {T : jT} {xs : List Int} {d : Nat} {y : jV × jS} (hd : 2 ≤ d) {h : jH}  {o0 : Nat} {v1 : Int} {v2 : Int} {v3 : Int} {v4 : Int} {v5 : Int} {out : ((Int × Int × jH) ⊕ (Int × jH))} (ho0 : isX10 T o0) (H : Wa_release_B11 h o0 v1 v2 v3 v4 v5 = some out) (HY : yk_Wa_release_L11 T xs d y o0 v1 v2 v4 out) : jEv xs d (131, 11, [(2, Int.ofNat o0), (0, v1), (0, v2), (0, v3), (0, v4), (0, v5)], []) (T, h) y := by
  unfold Wa_release_B11 at H
  refine jEv.blk [(.iload 5, 2, []), (.iload 4, 2, [])] (by decide +kernel) (pc' := 15) (ls' := [(2, Int.ofNat o0), (0, v1), (0, v2), (0, v3), (0, v4), (0, v5)]) (st' := [(0, v4), (0, v5)]) rfl ?_
  refine jEv.ic_ge (t := 92) (show jfI 131 15 (.if_icmp .ge 77) 3 [] = true by decide +kernel) rfl H (fun c1 H => ?_) (fun c1 H => ?_)
  · refine jEv.blk [(.aload_n 0, 1, [])] (by decide +kernel) (pc' := 19) (ls' := [(2, Int.ofNat o0), (0, v1), (0, v2), (0, v3), (0, v4), (0, v5)]) (st' := [(2, Int.ofNat o0)]) rfl ?_
    refine jEv.gfR (o' := (o0 + 2)) (show jfI 131 19 (.getfield 15) 3 [10, 1, 5, 0, 2038] = true by decide +kernel) (isX10_L ho0) (by decide) (isX10_r1 ho0) ?_
    refine jEv.blk [(.iload 5, 2, [])] (by decide +kernel) (pc' := 24) (ls' := [(2, Int.ofNat o0), (0, v1), (0, v2), (0, v3), (0, v4), (0, v5)]) (st' := [(0, v5), (2, Int.ofNat (o0 + 2))]) rfl ?_
    refine jbind H (fun b2 Hb2 H => ?_)
    refine jEv.calS (st' := [(0, b2)]) (show jfI 131 24 (.invokestatic 42) 3 [4, 137, 2, 5033] = true by decide +kernel) rfl (Or.inr rfl) rfl (Nat.le_of_ble_eq_true rfl) ((t_G_cell (T := T) (xs := xs) (isX10_a1 ho0) Hb2).mono (jKle 1 hd)) rfl ?_
    refine jEv.blk [(.iload_n 1, 1, [])] (by decide +kernel) (pc' := 28) (ls' := [(2, Int.ofNat o0), (0, v1), (0, v2), (0, v3), (0, v4), (0, v5)]) (st' := [(0, v1), (0, b2)]) rfl ?_
    refine jEv.ic_ne (t := 49) (show jfI 131 28 (.if_icmp .ne 21) 3 [] = true by decide +kernel) rfl H (fun c3 H => ?_) (fun c3 H => ?_)
    · refine jEv.blk [(.aload_n 0, 1, []), (.iload_n 2, 1, []), (.aload_n 0, 1, [])] (by decide +kernel) (pc' := 34) (ls' := [(2, Int.ofNat o0), (0, v1), (0, v2), (0, v3), (0, v4), (0, v5)]) (st' := [(2, Int.ofNat o0), (0, v2), (2, Int.ofNat o0)]) rfl ?_
      refine jEv.gfR (o' := (o0 + 1)) (show jfI 131 34 (.getfield 9) 3 [10, 0, 5, 0, 2037] = true by decide +kernel) (isX10_L ho0) (by decide) (isX10_r0 ho0) ?_
      refine jEv.blk [(.iload 5, 2, [])] (by decide +kernel) (pc' := 39) (ls' := [(2, Int.ofNat o0), (0, v1), (0, v2), (0, v3), (0, v4), (0, v5)]) (st' := [(0, v5), (2, Int.ofNat (o0 + 1)), (0, v2), (2, Int.ofNat o0)]) rfl ?_
      refine jbind H (fun b4 Hb4 H => ?_)
      refine jEv.calS (st' := [(0, b4), (0, v2), (2, Int.ofNat o0)]) (show jfI 131 39 (.invokestatic 42) 3 [4, 137, 2, 5033] = true by decide +kernel) rfl (Or.inr rfl) rfl (Nat.le_of_ble_eq_true rfl) ((t_G_cell (T := T) (xs := xs) (isX10_a0 ho0) Hb4).mono (jKle 1 hd)) rfl ?_
      refine jEv.blk [(.iload_n 1, 1, [])] (by decide +kernel) (pc' := 43) (ls' := [(2, Int.ofNat o0), (0, v1), (0, v2), (0, v3), (0, v4), (0, v5)]) (st' := [(0, v1), (0, b4), (0, v2), (2, Int.ofNat o0)]) rfl ?_
      refine jbind H (fun b5 Hb5 H => ?_)
      refine jEv.calV (st' := []) (show jfI 131 43 (.invokevirtual 46) 3 [1, 132, 3, 5098] = true by decide +kernel) rfl (Or.inl rfl) rfl (Nat.le_of_ble_eq_true rfl) (by decide +kernel) (by decide) (isX10_L ho0) ((t_Wa_keep (T := T) (xs := xs) ho0 Hb5).mono (jKle 2 hd)) rfl ?_
      refine jEv.goto (t := 86) (show jfI 131 46 (.goto 40) 3 [] = true by decide +kernel) rfl ?_
      refine jEv.blk [(.iinc 5 1, 3, [])] (by decide +kernel) (pc' := 89) (ls' := [(2, Int.ofNat o0), (0, v1), (0, v2), (0, v3), (0, v4), (0, (wr (v5 + 1)))]) (st' := []) rfl ?_
      refine jEv.goto (t := 11) (show jfI 131 89 (.goto (-78)) 3 [] = true by decide +kernel) rfl ?_
      exact (by cases H; exact HY)
    · refine jEv.blk [(.aload_n 0, 1, [])] (by decide +kernel) (pc' := 50) (ls' := [(2, Int.ofNat o0), (0, v1), (0, v2), (0, v3), (0, v4), (0, v5)]) (st' := [(2, Int.ofNat o0)]) rfl ?_
      refine jEv.gfR (o' := (o0 + 1)) (show jfI 131 50 (.getfield 9) 3 [10, 0, 5, 0, 2037] = true by decide +kernel) (isX10_L ho0) (by decide) (isX10_r0 ho0) ?_
      refine jEv.blk [(.iload_n 3, 1, []), (.aload_n 0, 1, [])] (by decide +kernel) (pc' := 55) (ls' := [(2, Int.ofNat o0), (0, v1), (0, v2), (0, v3), (0, v4), (0, v5)]) (st' := [(2, Int.ofNat o0), (0, v3), (2, Int.ofNat (o0 + 1))]) rfl ?_
      refine jEv.gfR (o' := (o0 + 1)) (show jfI 131 55 (.getfield 9) 3 [10, 0, 5, 0, 2037] = true by decide +kernel) (isX10_L ho0) (by decide) (isX10_r0 ho0) ?_
      refine jEv.blk [(.iload 5, 2, [])] (by decide +kernel) (pc' := 60) (ls' := [(2, Int.ofNat o0), (0, v1), (0, v2), (0, v3), (0, v4), (0, v5)]) (st' := [(0, v5), (2, Int.ofNat (o0 + 1)), (0, v3), (2, Int.ofNat (o0 + 1))]) rfl ?_
      refine jbind H (fun b6 Hb6 H => ?_)
      refine jEv.calS (st' := [(0, b6), (0, v3), (2, Int.ofNat (o0 + 1))]) (show jfI 131 60 (.invokestatic 42) 3 [4, 137, 2, 5033] = true by decide +kernel) rfl (Or.inr rfl) rfl (Nat.le_of_ble_eq_true rfl) ((t_G_cell (T := T) (xs := xs) (isX10_a0 ho0) Hb6).mono (jKle 1 hd)) rfl ?_
      refine jbind H (fun b7 Hb7 H => ?_)
      refine jEv.calS (st' := []) (show jfI 131 63 (.invokestatic 38) 3 [4, 138, 3, 5102] = true by decide +kernel) rfl (Or.inr rfl) rfl (Nat.le_of_ble_eq_true rfl) ((t_G_put (T := T) (xs := xs) (isX10_a0 ho0) Hb7).mono (jKle 1 hd)) rfl ?_
      refine jEv.blk [(.aload_n 0, 1, [])] (by decide +kernel) (pc' := 67) (ls' := [(2, Int.ofNat o0), (0, v1), (0, v2), (0, v3), (0, v4), (0, v5)]) (st' := [(2, Int.ofNat o0)]) rfl ?_
      refine jEv.gfR (o' := (o0 + 2)) (show jfI 131 67 (.getfield 15) 3 [10, 1, 5, 0, 2038] = true by decide +kernel) (isX10_L ho0) (by decide) (isX10_r1 ho0) ?_
      refine jEv.blk [(.iload_n 3, 1, []), (.aload_n 0, 1, [])] (by decide +kernel) (pc' := 72) (ls' := [(2, Int.ofNat o0), (0, v1), (0, v2), (0, v3), (0, v4), (0, v5)]) (st' := [(2, Int.ofNat o0), (0, v3), (2, Int.ofNat (o0 + 2))]) rfl ?_
      refine jEv.gfR (o' := (o0 + 2)) (show jfI 131 72 (.getfield 15) 3 [10, 1, 5, 0, 2038] = true by decide +kernel) (isX10_L ho0) (by decide) (isX10_r1 ho0) ?_
      refine jEv.blk [(.iload 5, 2, [])] (by decide +kernel) (pc' := 77) (ls' := [(2, Int.ofNat o0), (0, v1), (0, v2), (0, v3), (0, v4), (0, v5)]) (st' := [(0, v5), (2, Int.ofNat (o0 + 2)), (0, v3), (2, Int.ofNat (o0 + 2))]) rfl ?_
      refine jbind H (fun b8 Hb8 H => ?_)
      refine jEv.calS (st' := [(0, b8), (0, v3), (2, Int.ofNat (o0 + 2))]) (show jfI 131 77 (.invokestatic 42) 3 [4, 137, 2, 5033] = true by decide +kernel) rfl (Or.inr rfl) rfl (Nat.le_of_ble_eq_true rfl) ((t_G_cell (T := T) (xs := xs) (isX10_a1 ho0) Hb8).mono (jKle 1 hd)) rfl ?_
      refine jbind H (fun b9 Hb9 H => ?_)
      refine jEv.calS (st' := []) (show jfI 131 80 (.invokestatic 38) 3 [4, 138, 3, 5102] = true by decide +kernel) rfl (Or.inr rfl) rfl (Nat.le_of_ble_eq_true rfl) ((t_G_put (T := T) (xs := xs) (isX10_a1 ho0) Hb9).mono (jKle 1 hd)) rfl ?_
      refine jEv.blk [(.iinc 3 1, 3, [])] (by decide +kernel) (pc' := 86) (ls' := [(2, Int.ofNat o0), (0, v1), (0, v2), (0, (wr (v3 + 1))), (0, v4), (0, v5)]) (st' := []) rfl ?_
      refine jEv.blk [(.iinc 5 1, 3, [])] (by decide +kernel) (pc' := 89) (ls' := [(2, Int.ofNat o0), (0, v1), (0, v2), (0, (wr (v3 + 1))), (0, v4), (0, (wr (v5 + 1)))]) (st' := []) rfl ?_
      refine jEv.goto (t := 11) (show jfI 131 89 (.goto (-78)) 3 [] = true by decide +kernel) rfl ?_
      exact (by cases H; exact HY)
  · refine jmapr H HY (fun out H (HY : ykI T y out) => ?_)
    refine jEv.blk [(.aload_n 0, 1, []), (.iload_n 3, 1, [])] (by decide +kernel) (pc' := 94) (ls' := [(2, Int.ofNat o0), (0, v1), (0, v2), (0, v3), (0, v4), (0, v5)]) (st' := [(0, v3), (2, Int.ofNat o0)]) rfl ?_
    refine jEv.pfI (show jfI 131 94 (.putfield 27) 3 [10, 2, 0, 0, 2039] = true by decide +kernel) (isX10_L ho0) (by decide) ?_
    refine jEv.blk [(.iload 4, 2, []), (.iload_n 3, 1, []), (.isub, 1, [])] (by decide +kernel) (pc' := 101) (ls' := [(2, Int.ofNat o0), (0, v1), (0, v2), (0, v3), (0, v4), (0, v5)]) (st' := [(0, (wr (v4 - v3)))]) rfl ?_
    exact jEv.retI (show jfI 131 101 (.ireturn) 1 [] = true by decide +kernel) (by decide +kernel) (by cases H; exact HY)
theorem t_Wa_release_L11 {T : jT} {xs : List Int} {d : Nat} {y : jV × jS} (hd : 2 ≤ d) {h : jH}  {o0 : Nat} {v1 : Int} {v2 : Int} {v3 : Int} {v4 : Int} {v5 : Int} {out : (Int × jH)} (ho0 : isX10 T o0) (H : Wa_release_L11 h o0 v1 v2 v3 v4 v5 = some out) (HY : ykI T y out) : jEv xs d (131, 11, [(2, Int.ofNat o0), (0, v1), (0, v2), (0, v3), (0, v4), (0, v5)], []) (T, h) y :=
  jloop_sound (G := fun s : (Int × Int × jH) => jEv xs d (131, 11, [(2, Int.ofNat o0), (0, v1), (0, v2), (0, s.1), (0, v4), (0, s.2.1)], []) (T, s.2.2) y) (K := yk_Wa_release_L11 T xs d y o0 v1 v2 v4) (fun s out H HY => t_Wa_release_B11 hd ho0 H HY) (fun s' hg => hg) (s := (v3, v5, h)) H HY
set_option maxRecDepth 20000 in
noncomputable def Wa_release  (h : jH) (o0 : Nat) (v1 : Int) (v2 : Int) : Option (Int × jH) := Wa_release_L11 h o0 v1 v2 0 (h o0 2) 0
set_option maxRecDepth 20000 in
theorem t_Wa_release {T : jT} {xs : List Int} {h : jH}  {o0 : Nat} {v1 : Int} {v2 : Int} {out : (Int × jH)} (ho0 : isX10 T o0) (H : Wa_release h o0 v1 v2 = some out) : jEm xs 3 131 [(2, Int.ofNat o0), (0, v1), (0, v2)] (T, h) ((0, out.1), (T, out.2)) := by
  have hd : 2 ≤ 2 := Nat.le_refl _
  obtain ⟨y, ey⟩ : ∃ y : jV × jS, y = ((0, out.1), (T, out.2)) := ⟨_, rfl⟩
  rw [← ey]
  have HY : ykI T y out := ey
  refine jEm.ent (n := 6) (by decide +kernel) (Nat.le_of_ble_eq_true rfl) ?_
  show jEv xs 2 (131, 0, [(2, Int.ofNat o0), (0, v1), (0, v2), (3, 0), (3, 0), (3, 0)], []) (T, h) y
  unfold Wa_release at H
  refine jEv.blk [(.iconst 0, 1, []), (.istore_n 3, 1, []), (.aload_n 0, 1, [])] (by decide +kernel) (pc' := 3) (ls' := [(2, Int.ofNat o0), (0, v1), (0, v2), (0, 0), (3, 0), (3, 0)]) (st' := [(2, Int.ofNat o0)]) rfl ?_
  refine jEv.gfI (show jfI 131 3 (.getfield 27) 3 [10, 2, 0, 0, 2039] = true by decide +kernel) (isX10_L ho0) (by decide) ?_
  refine jEv.blk [(.istore 4, 2, []), (.iconst 0, 1, []), (.istore 5, 2, [])] (by decide +kernel) (pc' := 11) (ls' := [(2, Int.ofNat o0), (0, v1), (0, v2), (0, 0), (0, (h o0 2)), (0, 0)]) (st' := []) rfl ?_
  exact t_Wa_release_L11 (T := T) (xs := xs) (y := y) hd ho0 H HY
def yk_St_acknowledge_L30 (T : jT) (xs : List Int) (d : Nat) (y : jV × jS)  (o0 : Nat) : ((Int × Int × jH) ⊕ (Int × jH)) → Prop
  | .inl (v1, v2, h) => jEv xs d (116, 30, [(2, Int.ofNat o0), (0, v1), (0, v2)], []) (T, h) y
  | .inr o => ykI T y o
set_option maxRecDepth 20000 in
noncomputable def St_acknowledge_B30  (h : jH) (o0 : Nat) (v1 : Int) (v2 : Int) : Option ((Int × Int × jH) ⊕ (Int × jH)) := (if v2 < (h (o0 + 7) 5) then Option.bind (G_cell h (o0 + 8) 32 v2) (fun b4 => Option.bind (G_cell h (o0 + 9) 32 v2) (fun b5 => Option.bind (G_put h (o0 + 18) 16 b4 b5) (fun b6 => Option.bind (Wa_release b6 (o0 + 12) (wr ((b6 (o0 + 7) 4) + v2)) (b6 o0 9)) (fun b7 => some (.inl ((wr (v1 + b7.1)), (wr (v2 + 1)), b7.2)))))) else Option.map Sum.inr (Option.bind (Qu_drop h (o0 + 7)) (fun b8 => some (v1, b8))))
noncomputable def St_acknowledge_L30  (h : jH) (o0 : Nat) (v1 : Int) (v2 : Int) : Option (Int × jH) := jloop (fun s : (Int × Int × jH) => St_acknowledge_B30 s.2.2 o0 s.1 s.2.1) (v1, v2, h)
set_option maxRecDepth 20000 in
theorem t_St_acknowledge_B30 {T : jT} {xs : List Int} {d : Nat} {y : jV × jS} (hd : 3 ≤ d) {h : jH}  {o0 : Nat} {v1 : Int} {v2 : Int} {out : ((Int × Int × jH) ⊕ (Int × jH))} (ho0 : isX9 T o0) (H : St_acknowledge_B30 h o0 v1 v2 = some out) (HY : yk_St_acknowledge_L30 T xs d y o0 out) : jEv xs d (116, 30, [(2, Int.ofNat o0), (0, v1), (0, v2)], []) (T, h) y := by
  unfold St_acknowledge_B30 at H
  refine jEv.blk [(.iload_n 2, 1, []), (.aload_n 0, 1, [])] (by decide +kernel) (pc' := 32) (ls' := [(2, Int.ofNat o0), (0, v1), (0, v2)]) (st' := [(2, Int.ofNat o0), (0, v2)]) rfl ?_
  refine jEv.gfR (o' := (o0 + 7)) (show jfI 116 32 (.getfield 28) 3 [9, 3, 5, 0, 2071] = true by decide +kernel) (isX9_L ho0) (by decide) (isX9_r3 ho0) ?_
  refine jEv.gfI (show jfI 116 35 (.getfield 155) 3 [7, 5, 0, 0, 2012] = true by decide +kernel) (isX7_L (isX9_s3 ho0)) (by decide) ?_
  refine jEv.ic_ge (t := 99) (show jfI 116 38 (.if_icmp .ge 61) 3 [] = true by decide +kernel) rfl H (fun c3 H => ?_) (fun c3 H => ?_)
  · refine jEv.blk [(.aload_n 0, 1, [])] (by decide +kernel) (pc' := 42) (ls' := [(2, Int.ofNat o0), (0, v1), (0, v2)]) (st' := [(2, Int.ofNat o0)]) rfl ?_
    refine jEv.gfR (o' := (o0 + 18)) (show jfI 116 42 (.getfield 39) 3 [9, 5, 5, 0, 2076] = true by decide +kernel) (isX9_L ho0) (by decide) (isX9_r5 ho0) ?_
    refine jEv.blk [(.aload_n 0, 1, [])] (by decide +kernel) (pc' := 46) (ls' := [(2, Int.ofNat o0), (0, v1), (0, v2)]) (st' := [(2, Int.ofNat o0), (2, Int.ofNat (o0 + 18))]) rfl ?_
    refine jEv.gfR (o' := (o0 + 7)) (show jfI 116 46 (.getfield 28) 3 [9, 3, 5, 0, 2071] = true by decide +kernel) (isX9_L ho0) (by decide) (isX9_r3 ho0) ?_
    refine jEv.gfR (o' := (o0 + 8)) (show jfI 116 49 (.getfield 158) 3 [7, 0, 5, 0, 1236] = true by decide +kernel) (isX7_L (isX9_s3 ho0)) (by decide) (isX7_r0 (isX9_s3 ho0)) ?_
    refine jEv.blk [(.iload_n 2, 1, [])] (by decide +kernel) (pc' := 53) (ls' := [(2, Int.ofNat o0), (0, v1), (0, v2)]) (st' := [(0, v2), (2, Int.ofNat (o0 + 8)), (2, Int.ofNat (o0 + 18))]) rfl ?_
    refine jbind H (fun b4 Hb4 H => ?_)
    refine jEv.calS (st' := [(0, b4), (2, Int.ofNat (o0 + 18))]) (show jfI 116 53 (.invokestatic 161) 3 [4, 137, 2, 5092] = true by decide +kernel) rfl (Or.inr rfl) rfl (Nat.le_of_ble_eq_true rfl) ((t_G_cell (T := T) (xs := xs) (isX7_a0 (isX9_s3 ho0)) Hb4).mono (jKle 1 hd)) rfl ?_
    refine jEv.blk [(.aload_n 0, 1, [])] (by decide +kernel) (pc' := 57) (ls' := [(2, Int.ofNat o0), (0, v1), (0, v2)]) (st' := [(2, Int.ofNat o0), (0, b4), (2, Int.ofNat (o0 + 18))]) rfl ?_
    refine jEv.gfR (o' := (o0 + 7)) (show jfI 116 57 (.getfield 28) 3 [9, 3, 5, 0, 2071] = true by decide +kernel) (isX9_L ho0) (by decide) (isX9_r3 ho0) ?_
    refine jEv.gfR (o' := (o0 + 9)) (show jfI 116 60 (.getfield 165) 3 [7, 1, 5, 0, 2000] = true by decide +kernel) (isX7_L (isX9_s3 ho0)) (by decide) (isX7_r1 (isX9_s3 ho0)) ?_
    refine jEv.blk [(.iload_n 2, 1, [])] (by decide +kernel) (pc' := 64) (ls' := [(2, Int.ofNat o0), (0, v1), (0, v2)]) (st' := [(0, v2), (2, Int.ofNat (o0 + 9)), (0, b4), (2, Int.ofNat (o0 + 18))]) rfl ?_
    refine jbind H (fun b5 Hb5 H => ?_)
    refine jEv.calS (st' := [(0, b5), (0, b4), (2, Int.ofNat (o0 + 18))]) (show jfI 116 64 (.invokestatic 161) 3 [4, 137, 2, 5092] = true by decide +kernel) rfl (Or.inr rfl) rfl (Nat.le_of_ble_eq_true rfl) ((t_G_cell (T := T) (xs := xs) (isX7_a1 (isX9_s3 ho0)) Hb5).mono (jKle 1 hd)) rfl ?_
    refine jbind H (fun b6 Hb6 H => ?_)
    refine jEv.calS (st' := []) (show jfI 116 67 (.invokestatic 168) 3 [4, 138, 3, 5093] = true by decide +kernel) rfl (Or.inr rfl) rfl (Nat.le_of_ble_eq_true rfl) ((t_G_put (T := T) (xs := xs) (isX9_a5 ho0) Hb6).mono (jKle 1 hd)) rfl ?_
    refine jEv.blk [(.iload_n 1, 1, []), (.aload_n 0, 1, [])] (by decide +kernel) (pc' := 72) (ls' := [(2, Int.ofNat o0), (0, v1), (0, v2)]) (st' := [(2, Int.ofNat o0), (0, v1)]) rfl ?_
    refine jEv.gfR (o' := (o0 + 12)) (show jfI 116 72 (.getfield 35) 3 [9, 4, 5, 0, 2074] = true by decide +kernel) (isX9_L ho0) (by decide) (isX9_r4 ho0) ?_
    refine jEv.blk [(.aload_n 0, 1, [])] (by decide +kernel) (pc' := 76) (ls' := [(2, Int.ofNat o0), (0, v1), (0, v2)]) (st' := [(2, Int.ofNat o0), (2, Int.ofNat (o0 + 12)), (0, v1)]) rfl ?_
    refine jEv.gfR (o' := (o0 + 7)) (show jfI 116 76 (.getfield 28) 3 [9, 3, 5, 0, 2071] = true by decide +kernel) (isX9_L ho0) (by decide) (isX9_r3 ho0) ?_
    refine jEv.gfI (show jfI 116 79 (.getfield 172) 3 [7, 4, 0, 0, 2009] = true by decide +kernel) (isX7_L (isX9_s3 ho0)) (by decide) ?_
    refine jEv.blk [(.iload_n 2, 1, []), (.iadd, 1, []), (.aload_n 0, 1, [])] (by decide +kernel) (pc' := 85) (ls' := [(2, Int.ofNat o0), (0, v1), (0, v2)]) (st' := [(2, Int.ofNat o0), (0, (wr ((b6 (o0 + 7) 4) + v2))), (2, Int.ofNat (o0 + 12)), (0, v1)]) rfl ?_
    refine jEv.gfI (show jfI 116 85 (.getfield 77) 3 [9, 9, 0, 0, 2084] = true by decide +kernel) (isX9_L ho0) (by decide) ?_
    refine jbind H (fun b7 Hb7 H => ?_)
    refine jEv.calV (st' := [(0, b7.1), (0, v1)]) (show jfI 116 88 (.invokevirtual 175) 3 [1, 131, 2, 5094] = true by decide +kernel) rfl (Or.inl rfl) rfl (Nat.le_of_ble_eq_true rfl) (by decide +kernel) (by decide) (isX10_L (isX9_s4 ho0)) ((t_Wa_release (T := T) (xs := xs) (isX9_s4 ho0) Hb7).mono (jKle 3 hd)) rfl ?_
    refine jEv.blk [(.iadd, 1, []), (.istore_n 1, 1, []), (.iinc 2 1, 3, [])] (by decide +kernel) (pc' := 96) (ls' := [(2, Int.ofNat o0), (0, (wr (v1 + b7.1))), (0, (wr (v2 + 1)))]) (st' := []) rfl ?_
    refine jEv.goto (t := 30) (show jfI 116 96 (.goto (-66)) 3 [] = true by decide +kernel) rfl ?_
    exact (by cases H; exact HY)
  · refine jmapr H HY (fun out H (HY : ykI T y out) => ?_)
    refine jEv.blk [(.aload_n 0, 1, [])] (by decide +kernel) (pc' := 100) (ls' := [(2, Int.ofNat o0), (0, v1), (0, v2)]) (st' := [(2, Int.ofNat o0)]) rfl ?_
    refine jEv.gfR (o' := (o0 + 7)) (show jfI 116 100 (.getfield 28) 3 [9, 3, 5, 0, 2071] = true by decide +kernel) (isX9_L ho0) (by decide) (isX9_r3 ho0) ?_
    refine jbind H (fun b8 Hb8 H => ?_)
    refine jEv.calV (st' := []) (show jfI 116 103 (.invokevirtual 178) 3 [1, 97, 0, 5103] = true by decide +kernel) rfl (Or.inl rfl) rfl (Nat.le_of_ble_eq_true rfl) (by decide +kernel) (by decide) (isX7_L (isX9_s3 ho0)) ((t_Qu_drop (T := T) (xs := xs) (isX9_s3 ho0) Hb8).mono (jKle 2 hd)) rfl ?_
    refine jEv.blk [(.iload_n 1, 1, [])] (by decide +kernel) (pc' := 107) (ls' := [(2, Int.ofNat o0), (0, v1), (0, v2)]) (st' := [(0, v1)]) rfl ?_
    exact jEv.retI (show jfI 116 107 (.ireturn) 1 [] = true by decide +kernel) (by decide +kernel) (by cases H; exact HY)
theorem t_St_acknowledge_L30 {T : jT} {xs : List Int} {d : Nat} {y : jV × jS} (hd : 3 ≤ d) {h : jH}  {o0 : Nat} {v1 : Int} {v2 : Int} {out : (Int × jH)} (ho0 : isX9 T o0) (H : St_acknowledge_L30 h o0 v1 v2 = some out) (HY : ykI T y out) : jEv xs d (116, 30, [(2, Int.ofNat o0), (0, v1), (0, v2)], []) (T, h) y :=
  jloop_sound (G := fun s : (Int × Int × jH) => jEv xs d (116, 30, [(2, Int.ofNat o0), (0, s.1), (0, s.2.1)], []) (T, s.2.2) y) (K := yk_St_acknowledge_L30 T xs d y o0) (fun s out H HY => t_St_acknowledge_B30 hd ho0 H HY) (fun s' hg => hg) (s := (v1, v2, h)) H HY
set_option maxRecDepth 20000 in
noncomputable def St_acknowledge  (h : jH) (o0 : Nat) : Option (Int × jH) := Option.bind (Fl_arrive h (o0 + 4) (o0 + 1) 0 (h (o0 + 4) 2)) (fun b1 => Option.bind (Fl_clear b1 (o0 + 4)) (fun b2 => St_acknowledge_L30 b2 o0 0 0))
set_option maxRecDepth 20000 in
theorem t_St_acknowledge {T : jT} {xs : List Int} {h : jH}  {o0 : Nat} {out : (Int × jH)} (ho0 : isX9 T o0) (H : St_acknowledge h o0 = some out) : jEm xs 4 116 [(2, Int.ofNat o0)] (T, h) ((0, out.1), (T, out.2)) := by
  have hd : 3 ≤ 3 := Nat.le_refl _
  obtain ⟨y, ey⟩ : ∃ y : jV × jS, y = ((0, out.1), (T, out.2)) := ⟨_, rfl⟩
  rw [← ey]
  have HY : ykI T y out := ey
  refine jEm.ent (n := 3) (by decide +kernel) (Nat.le_of_ble_eq_true rfl) ?_
  show jEv xs 3 (116, 0, [(2, Int.ofNat o0), (3, 0), (3, 0)], []) (T, h) y
  unfold St_acknowledge at H
  refine jEv.blk [(.aload_n 0, 1, [])] (by decide +kernel) (pc' := 1) (ls' := [(2, Int.ofNat o0), (3, 0), (3, 0)]) (st' := [(2, Int.ofNat o0)]) rfl ?_
  refine jEv.gfR (o' := (o0 + 4)) (show jfI 116 1 (.getfield 21) 3 [9, 2, 5, 0, 2068] = true by decide +kernel) (isX9_L ho0) (by decide) (isX9_r2 ho0) ?_
  refine jEv.blk [(.aload_n 0, 1, [])] (by decide +kernel) (pc' := 5) (ls' := [(2, Int.ofNat o0), (3, 0), (3, 0)]) (st' := [(2, Int.ofNat o0), (2, Int.ofNat (o0 + 4))]) rfl ?_
  refine jEv.gfR (o' := (o0 + 1)) (show jfI 116 5 (.getfield 12) 3 [9, 1, 5, 0, 2065] = true by decide +kernel) (isX9_L ho0) (by decide) (isX9_r1 ho0) ?_
  refine jEv.blk [(.iconst 0, 1, []), (.aload_n 0, 1, [])] (by decide +kernel) (pc' := 10) (ls' := [(2, Int.ofNat o0), (3, 0), (3, 0)]) (st' := [(2, Int.ofNat o0), (0, 0), (2, Int.ofNat (o0 + 1)), (2, Int.ofNat (o0 + 4))]) rfl ?_
  refine jEv.gfR (o' := (o0 + 4)) (show jfI 116 10 (.getfield 21) 3 [9, 2, 5, 0, 2068] = true by decide +kernel) (isX9_L ho0) (by decide) (isX9_r2 ho0) ?_
  refine jEv.gfI (show jfI 116 13 (.getfield 129) 3 [1, 2, 0, 0, 1215] = true by decide +kernel) (isX1_L (isX9_s2 ho0)) (by decide) ?_
  refine jbind H (fun b1 Hb1 H => ?_)
  refine jEv.calV (st' := []) (show jfI 116 16 (.invokevirtual 151) 3 [1, 24, 3, 5086] = true by decide +kernel) rfl (Or.inl rfl) rfl (Nat.le_of_ble_eq_true rfl) (by decide +kernel) (by decide) (isX1_L (isX9_s2 ho0)) ((t_Fl_arrive (T := T) (xs := xs) (isX9_s2 ho0) (isX9_s1 ho0) Hb1).mono (jKle 3 hd)) rfl ?_
  refine jEv.blk [(.aload_n 0, 1, [])] (by decide +kernel) (pc' := 20) (ls' := [(2, Int.ofNat o0), (3, 0), (3, 0)]) (st' := [(2, Int.ofNat o0)]) rfl ?_
  refine jEv.gfR (o' := (o0 + 4)) (show jfI 116 20 (.getfield 21) 3 [9, 2, 5, 0, 2068] = true by decide +kernel) (isX9_L ho0) (by decide) (isX9_r2 ho0) ?_
  refine jbind H (fun b2 Hb2 H => ?_)
  refine jEv.calV (st' := []) (show jfI 116 23 (.invokevirtual 63) 3 [1, 22, 0, 4079] = true by decide +kernel) rfl (Or.inl rfl) rfl (Nat.le_of_ble_eq_true rfl) (by decide +kernel) (by decide) (isX1_L (isX9_s2 ho0)) ((t_Fl_clear (T := T) (xs := xs) (isX9_s2 ho0) Hb2).mono (jKle 1 hd)) rfl ?_
  refine jEv.blk [(.iconst 0, 1, []), (.istore_n 1, 1, []), (.iconst 0, 1, []), (.istore_n 2, 1, [])] (by decide +kernel) (pc' := 30) (ls' := [(2, Int.ofNat o0), (0, 0), (0, 0)]) (st' := []) rfl ?_
  exact t_St_acknowledge_L30 (T := T) (xs := xs) (y := y) hd ho0 H HY
set_option maxRecDepth 20000 in
noncomputable def St_tellGroup  (h : jH) (o0 : Nat) (o1 : Nat) (v2 : Int) : Option jH := Option.bind (Fo_tell h o1 0 (h o0 9)) (fun b1 => Option.bind (Fo_tell b1 o1 1 v2) (fun b2 => Option.bind (Qu_payloadOf b2 (o0 + 7) v2) (fun b3 => Option.bind (Fo_tell b2 o1 2 b3) (fun b4 => some b4))))
set_option maxRecDepth 20000 in
theorem t_St_tellGroup {T : jT} {xs : List Int} {h : jH}  {o0 : Nat} {o1 : Nat} {v2 : Int} {out : jH} (ho0 : isX9 T o0) (ho1 : isX2 T o1) (H : St_tellGroup h o0 o1 v2 = some out) : jEm xs 4 118 [(2, Int.ofNat o0), (2, Int.ofNat o1), (0, v2)] (T, h) ((3, 0), (T, out)) := by
  have hd : 3 ≤ 3 := Nat.le_refl _
  obtain ⟨y, ey⟩ : ∃ y : jV × jS, y = ((3, 0), (T, out)) := ⟨_, rfl⟩
  rw [← ey]
  have HY : ykV T y out := ey
  refine jEm.ent (n := 3) (by decide +kernel) (Nat.le_of_ble_eq_true rfl) ?_
  show jEv xs 3 (118, 0, [(2, Int.ofNat o0), (2, Int.ofNat o1), (0, v2)], []) (T, h) y
  unfold St_tellGroup at H
  refine jEv.blk [(.aload_n 1, 1, []), (.iconst 0, 1, []), (.aload_n 0, 1, [])] (by decide +kernel) (pc' := 3) (ls' := [(2, Int.ofNat o0), (2, Int.ofNat o1), (0, v2)]) (st' := [(2, Int.ofNat o0), (0, 0), (2, Int.ofNat o1)]) rfl ?_
  refine jEv.gfI (show jfI 118 3 (.getfield 77) 3 [9, 9, 0, 0, 2084] = true by decide +kernel) (isX9_L ho0) (by decide) ?_
  refine jbind H (fun b1 Hb1 H => ?_)
  refine jEv.calV (st' := []) (show jfI 118 6 (.invokevirtual 181) 3 [1, 30, 2, 5115] = true by decide +kernel) rfl (Or.inl rfl) rfl (Nat.le_of_ble_eq_true rfl) (by decide +kernel) (by decide) (isX2_L ho1) ((t_Fo_tell (T := T) (xs := xs) ho1 Hb1).mono (jKle 2 hd)) rfl ?_
  refine jEv.blk [(.aload_n 1, 1, []), (.iconst 1, 1, []), (.iload_n 2, 1, [])] (by decide +kernel) (pc' := 12) (ls' := [(2, Int.ofNat o0), (2, Int.ofNat o1), (0, v2)]) (st' := [(0, v2), (0, 1), (2, Int.ofNat o1)]) rfl ?_
  refine jbind H (fun b2 Hb2 H => ?_)
  refine jEv.calV (st' := []) (show jfI 118 12 (.invokevirtual 181) 3 [1, 30, 2, 5115] = true by decide +kernel) rfl (Or.inl rfl) rfl (Nat.le_of_ble_eq_true rfl) (by decide +kernel) (by decide) (isX2_L ho1) ((t_Fo_tell (T := T) (xs := xs) ho1 Hb2).mono (jKle 2 hd)) rfl ?_
  refine jEv.blk [(.aload_n 1, 1, []), (.iconst 2, 1, []), (.aload_n 0, 1, [])] (by decide +kernel) (pc' := 18) (ls' := [(2, Int.ofNat o0), (2, Int.ofNat o1), (0, v2)]) (st' := [(2, Int.ofNat o0), (0, 2), (2, Int.ofNat o1)]) rfl ?_
  refine jEv.gfR (o' := (o0 + 7)) (show jfI 118 18 (.getfield 28) 3 [9, 3, 5, 0, 2071] = true by decide +kernel) (isX9_L ho0) (by decide) (isX9_r3 ho0) ?_
  refine jEv.blk [(.iload_n 2, 1, [])] (by decide +kernel) (pc' := 22) (ls' := [(2, Int.ofNat o0), (2, Int.ofNat o1), (0, v2)]) (st' := [(0, v2), (2, Int.ofNat (o0 + 7)), (0, 2), (2, Int.ofNat o1)]) rfl ?_
  refine jbind H (fun b3 Hb3 H => ?_)
  refine jEv.calV (st' := [(0, b3), (0, 2), (2, Int.ofNat o1)]) (show jfI 118 22 (.invokevirtual 187) 3 [1, 98, 1, 5119] = true by decide +kernel) rfl (Or.inl rfl) rfl (Nat.le_of_ble_eq_true rfl) (by decide +kernel) (by decide) (isX7_L (isX9_s3 ho0)) ((t_Qu_payloadOf (T := T) (xs := xs) (isX9_s3 ho0) Hb3).mono (jKle 3 hd)) rfl ?_
  refine jbind H (fun b4 Hb4 H => ?_)
  refine jEv.calV (st' := []) (show jfI 118 25 (.invokevirtual 181) 3 [1, 30, 2, 5115] = true by decide +kernel) rfl (Or.inl rfl) rfl (Nat.le_of_ble_eq_true rfl) (by decide +kernel) (by decide) (isX2_L ho1) ((t_Fo_tell (T := T) (xs := xs) ho1 Hb4).mono (jKle 2 hd)) rfl ?_
  exact jEv.retV (show jfI 118 28 (.return_) 1 [] = true by decide +kernel) (by decide +kernel) (by cases H; exact HY)
set_option maxRecDepth 20000 in
noncomputable def St_testHolds (T : jT) (h : jH) (o0 : Nat) : Option (Int × jH) := Option.bind (jdyn (isX6 T) (h o0 0)) (fun q1 => Option.bind (Qu_waitingCount h (o0 + 7)) (fun b2 => Option.bind (St_tellGroup h o0 (q1 + 1) b2) (fun b3 => Option.bind (Qu_firstBorn b3 (o0 + 7)) (fun b4 => Option.bind (Fo_tell b3 (q1 + 1) 3 (wr ((b3 o0 9) - b4))) (fun b5 => Option.bind (Fo_tell b5 (q1 + 1) 4 (b5 (o0 + 12) 2)) (fun b6 => Option.bind (Fo_evaluate b6 (q1 + 1)) (fun b7 => (if b7.1 = 0 then some (0, b7.2) else some (1, b7.2)))))))))
set_option maxRecDepth 20000 in
theorem t_St_testHolds {T : jT} {xs : List Int} {h : jH}  {o0 : Nat} {out : (Int × jH)} (ho0 : isX9 T o0) (H : St_testHolds T h o0 = some out) : jEm xs 5 117 [(2, Int.ofNat o0)] (T, h) ((0, out.1), (T, out.2)) := by
  have hd : 4 ≤ 4 := Nat.le_refl _
  obtain ⟨y, ey⟩ : ∃ y : jV × jS, y = ((0, out.1), (T, out.2)) := ⟨_, rfl⟩
  rw [← ey]
  have HY : ykI T y out := ey
  refine jEm.ent (n := 2) (by decide +kernel) (Nat.le_of_ble_eq_true rfl) ?_
  show jEv xs 4 (117, 0, [(2, Int.ofNat o0), (3, 0)], []) (T, h) y
  unfold St_testHolds at H
  refine jEv.blk [(.aload_n 0, 1, [])] (by decide +kernel) (pc' := 1) (ls' := [(2, Int.ofNat o0), (3, 0)]) (st' := [(2, Int.ofNat o0)]) rfl ?_
  refine jEv.gfD (show jfI 117 1 (.getfield 49) 3 [9, 0, 2, 0, 2064] = true by decide +kernel) (isX9_L ho0) (by decide) H (fun q1 hq1 H => ?_)
  refine jEv.gfR (o' := (q1 + 1)) (show jfI 117 4 (.getfield 191) 3 [6, 7, 5, 0, 1076] = true by decide +kernel) (isX6_L hq1) (by decide) (isX6_r7 hq1) ?_
  refine jEv.blk [(.astore_n 1, 1, []), (.aload_n 0, 1, []), (.aload_n 1, 1, []), (.aload_n 0, 1, [])] (by decide +kernel) (pc' := 11) (ls' := [(2, Int.ofNat o0), (2, Int.ofNat (q1 + 1))]) (st' := [(2, Int.ofNat o0), (2, Int.ofNat (q1 + 1)), (2, Int.ofNat o0)]) rfl ?_
  refine jEv.gfR (o' := (o0 + 7)) (show jfI 117 11 (.getfield 28) 3 [9, 3, 5, 0, 2071] = true by decide +kernel) (isX9_L ho0) (by decide) (isX9_r3 ho0) ?_
  refine jbind H (fun b2 Hb2 H => ?_)
  refine jEv.calV (st' := [(0, b2), (2, Int.ofNat (q1 + 1)), (2, Int.ofNat o0)]) (show jfI 117 14 (.invokevirtual 121) 3 [1, 92, 0, 4119] = true by decide +kernel) rfl (Or.inl rfl) rfl (Nat.le_of_ble_eq_true rfl) (by decide +kernel) (by decide) (isX7_L (isX9_s3 ho0)) ((t_Qu_waitingCount (T := T) (xs := xs) (isX9_s3 ho0) Hb2).mono (jKle 1 hd)) rfl ?_
  refine jbind H (fun b3 Hb3 H => ?_)
  refine jEv.calV (st' := []) (show jfI 117 17 (.invokevirtual 197) 3 [1, 118, 2, 5111] = true by decide +kernel) rfl (Or.inl rfl) rfl (Nat.le_of_ble_eq_true rfl) (by decide +kernel) (by decide) (isX9_L ho0) ((t_St_tellGroup (T := T) (xs := xs) ho0 (isX6_s7 hq1) Hb3).mono (jKle 4 hd)) rfl ?_
  refine jEv.blk [(.aload_n 1, 1, []), (.iconst 3, 1, []), (.aload_n 0, 1, [])] (by decide +kernel) (pc' := 23) (ls' := [(2, Int.ofNat o0), (2, Int.ofNat (q1 + 1))]) (st' := [(2, Int.ofNat o0), (0, 3), (2, Int.ofNat (q1 + 1))]) rfl ?_
  refine jEv.gfI (show jfI 117 23 (.getfield 77) 3 [9, 9, 0, 0, 2084] = true by decide +kernel) (isX9_L ho0) (by decide) ?_
  refine jEv.blk [(.aload_n 0, 1, [])] (by decide +kernel) (pc' := 27) (ls' := [(2, Int.ofNat o0), (2, Int.ofNat (q1 + 1))]) (st' := [(2, Int.ofNat o0), (0, (b3 o0 9)), (0, 3), (2, Int.ofNat (q1 + 1))]) rfl ?_
  refine jEv.gfR (o' := (o0 + 7)) (show jfI 117 27 (.getfield 28) 3 [9, 3, 5, 0, 2071] = true by decide +kernel) (isX9_L ho0) (by decide) (isX9_r3 ho0) ?_
  refine jbind H (fun b4 Hb4 H => ?_)
  refine jEv.calV (st' := [(0, b4), (0, (b3 o0 9)), (0, 3), (2, Int.ofNat (q1 + 1))]) (show jfI 117 30 (.invokevirtual 201) 3 [1, 100, 0, 5127] = true by decide +kernel) rfl (Or.inl rfl) rfl (Nat.le_of_ble_eq_true rfl) (by decide +kernel) (by decide) (isX7_L (isX9_s3 ho0)) ((t_Qu_firstBorn (T := T) (xs := xs) (isX9_s3 ho0) Hb4).mono (jKle 2 hd)) rfl ?_
  refine jEv.blk [(.isub, 1, [])] (by decide +kernel) (pc' := 34) (ls' := [(2, Int.ofNat o0), (2, Int.ofNat (q1 + 1))]) (st' := [(0, (wr ((b3 o0 9) - b4))), (0, 3), (2, Int.ofNat (q1 + 1))]) rfl ?_
  refine jbind H (fun b5 Hb5 H => ?_)
  refine jEv.calV (st' := []) (show jfI 117 34 (.invokevirtual 181) 3 [1, 30, 2, 5115] = true by decide +kernel) rfl (Or.inl rfl) rfl (Nat.le_of_ble_eq_true rfl) (by decide +kernel) (by decide) (isX2_L (isX6_s7 hq1)) ((t_Fo_tell (T := T) (xs := xs) (isX6_s7 hq1) Hb5).mono (jKle 2 hd)) rfl ?_
  refine jEv.blk [(.aload_n 1, 1, []), (.iconst 4, 1, []), (.aload_n 0, 1, [])] (by decide +kernel) (pc' := 40) (ls' := [(2, Int.ofNat o0), (2, Int.ofNat (q1 + 1))]) (st' := [(2, Int.ofNat o0), (0, 4), (2, Int.ofNat (q1 + 1))]) rfl ?_
  refine jEv.gfR (o' := (o0 + 12)) (show jfI 117 40 (.getfield 35) 3 [9, 4, 5, 0, 2074] = true by decide +kernel) (isX9_L ho0) (by decide) (isX9_r4 ho0) ?_
  refine jEv.gfI (show jfI 117 43 (.getfield 204) 3 [10, 2, 0, 0, 2041] = true by decide +kernel) (isX10_L (isX9_s4 ho0)) (by decide) ?_
  refine jbind H (fun b6 Hb6 H => ?_)
  refine jEv.calV (st' := []) (show jfI 117 46 (.invokevirtual 181) 3 [1, 30, 2, 5115] = true by decide +kernel) rfl (Or.inl rfl) rfl (Nat.le_of_ble_eq_true rfl) (by decide +kernel) (by decide) (isX2_L (isX6_s7 hq1)) ((t_Fo_tell (T := T) (xs := xs) (isX6_s7 hq1) Hb6).mono (jKle 2 hd)) rfl ?_
  refine jEv.blk [(.aload_n 1, 1, [])] (by decide +kernel) (pc' := 50) (ls' := [(2, Int.ofNat o0), (2, Int.ofNat (q1 + 1))]) (st' := [(2, Int.ofNat (q1 + 1))]) rfl ?_
  refine jbind H (fun b7 Hb7 H => ?_)
  refine jEv.calV (st' := [(0, b7.1)]) (show jfI 117 50 (.invokevirtual 205) 3 [1, 31, 0, 5131] = true by decide +kernel) rfl (Or.inl rfl) rfl (Nat.le_of_ble_eq_true rfl) (by decide +kernel) (by decide) (isX2_L (isX6_s7 hq1)) ((t_Fo_evaluate (T := T) (xs := xs) (isX6_s7 hq1) Hb7).mono (jKle 4 hd)) rfl ?_
  refine jEv.if_eq (t := 60) (show jfI 117 53 (.ifCond .eq 7) 3 [] = true by decide +kernel) rfl H (fun c8 H => ?_) (fun c8 H => ?_)
  · refine jEv.blk [(.iconst 0, 1, [])] (by decide +kernel) (pc' := 61) (ls' := [(2, Int.ofNat o0), (2, Int.ofNat (q1 + 1))]) (st' := [(0, 0)]) rfl ?_
    exact jEv.retZ (show jfI 117 61 (.ireturn) 1 [] = true by decide +kernel) (by decide +kernel) (by decide) (by cases H; exact HY)
  · refine jEv.blk [(.iconst 1, 1, [])] (by decide +kernel) (pc' := 57) (ls' := [(2, Int.ofNat o0), (2, Int.ofNat (q1 + 1))]) (st' := [(0, 1)]) rfl ?_
    refine jEv.goto (t := 61) (show jfI 117 57 (.goto 4) 3 [] = true by decide +kernel) rfl ?_
    exact jEv.retZ (show jfI 117 61 (.ireturn) 1 [] = true by decide +kernel) (by decide +kernel) (by decide) (by cases H; exact HY)
set_option maxRecDepth 20000 in
noncomputable def St_close (T : jT) (h : jH) (o0 : Nat) (o1 : Nat) (v2 : Int) : Option jH := Option.bind (Pe_hasRoom h o1 o0 v2) (fun b1 => (if b1.1 = 0 then some b1.2 else Option.bind (jdyn (isX6 T) (b1.2 o0 0)) (fun q3 => Option.bind (St_tellGroup b1.2 o0 (q3 + 5) v2) (fun b4 => Option.bind (jdyn (isX6 T) (b4 o0 0)) (fun q5 => Option.bind (Fo_evaluate b4 (q5 + 5)) (fun b6 => Option.bind (Pe_lay b6.2 o1 o0 v2) (fun b7 => some (jup b7 (o0 + 4) 3 (max 1 (min 99 b6.1))))))))))
set_option maxRecDepth 20000 in
theorem t_St_close {T : jT} {xs : List Int} {h : jH}  {o0 : Nat} {o1 : Nat} {v2 : Int} {out : jH} (ho0 : isX9 T o0) (ho1 : isX5 T o1) (H : St_close T h o0 o1 v2 = some out) : jEm xs 5 119 [(2, Int.ofNat o0), (2, Int.ofNat o1), (0, v2)] (T, h) ((3, 0), (T, out)) := by
  have hd : 4 ≤ 4 := Nat.le_refl _
  obtain ⟨y, ey⟩ : ∃ y : jV × jS, y = ((3, 0), (T, out)) := ⟨_, rfl⟩
  rw [← ey]
  have HY : ykV T y out := ey
  refine jEm.ent (n := 4) (by decide +kernel) (Nat.le_of_ble_eq_true rfl) ?_
  show jEv xs 4 (119, 0, [(2, Int.ofNat o0), (2, Int.ofNat o1), (0, v2), (3, 0)], []) (T, h) y
  unfold St_close at H
  refine jEv.blk [(.aload_n 1, 1, []), (.aload_n 0, 1, []), (.iload_n 2, 1, [])] (by decide +kernel) (pc' := 3) (ls' := [(2, Int.ofNat o0), (2, Int.ofNat o1), (0, v2), (3, 0)]) (st' := [(0, v2), (2, Int.ofNat o0), (2, Int.ofNat o1)]) rfl ?_
  refine jbind H (fun b1 Hb1 H => ?_)
  refine jEv.calV (st' := [(0, b1.1)]) (show jfI 119 3 (.invokevirtual 208) 3 [1, 78, 2, 5176] = true by decide +kernel) rfl (Or.inl rfl) rfl (Nat.le_of_ble_eq_true rfl) (by decide +kernel) (by decide) (isX5_L ho1) ((t_Pe_hasRoom (T := T) (xs := xs) ho1 ho0 Hb1).mono (jKle 4 hd)) rfl ?_
  refine jEv.if_ne (t := 10) (show jfI 119 6 (.ifCond .ne 4) 3 [] = true by decide +kernel) rfl H (fun c2 H => ?_) (fun c2 H => ?_)
  · exact jEv.retV (show jfI 119 9 (.return_) 1 [] = true by decide +kernel) (by decide +kernel) (by cases H; exact HY)
  · refine jEv.blk [(.aload_n 0, 1, []), (.aload_n 0, 1, [])] (by decide +kernel) (pc' := 12) (ls' := [(2, Int.ofNat o0), (2, Int.ofNat o1), (0, v2), (3, 0)]) (st' := [(2, Int.ofNat o0), (2, Int.ofNat o0)]) rfl ?_
    refine jEv.gfD (show jfI 119 12 (.getfield 49) 3 [9, 0, 2, 0, 2064] = true by decide +kernel) (isX9_L ho0) (by decide) H (fun q3 hq3 H => ?_)
    refine jEv.gfR (o' := (q3 + 5)) (show jfI 119 15 (.getfield 214) 3 [6, 8, 5, 0, 1079] = true by decide +kernel) (isX6_L hq3) (by decide) (isX6_r8 hq3) ?_
    refine jEv.blk [(.iload_n 2, 1, [])] (by decide +kernel) (pc' := 19) (ls' := [(2, Int.ofNat o0), (2, Int.ofNat o1), (0, v2), (3, 0)]) (st' := [(0, v2), (2, Int.ofNat (q3 + 5)), (2, Int.ofNat o0)]) rfl ?_
    refine jbind H (fun b4 Hb4 H => ?_)
    refine jEv.calV (st' := []) (show jfI 119 19 (.invokevirtual 197) 3 [1, 118, 2, 5111] = true by decide +kernel) rfl (Or.inl rfl) rfl (Nat.le_of_ble_eq_true rfl) (by decide +kernel) (by decide) (isX9_L ho0) ((t_St_tellGroup (T := T) (xs := xs) ho0 (isX6_s8 hq3) Hb4).mono (jKle 4 hd)) rfl ?_
    refine jEv.blk [(.aload_n 0, 1, [])] (by decide +kernel) (pc' := 23) (ls' := [(2, Int.ofNat o0), (2, Int.ofNat o1), (0, v2), (3, 0)]) (st' := [(2, Int.ofNat o0)]) rfl ?_
    refine jEv.gfD (show jfI 119 23 (.getfield 49) 3 [9, 0, 2, 0, 2064] = true by decide +kernel) (isX9_L ho0) (by decide) H (fun q5 hq5 H => ?_)
    refine jEv.gfR (o' := (q5 + 5)) (show jfI 119 26 (.getfield 214) 3 [6, 8, 5, 0, 1079] = true by decide +kernel) (isX6_L hq5) (by decide) (isX6_r8 hq5) ?_
    refine jbind H (fun b6 Hb6 H => ?_)
    refine jEv.calV (st' := [(0, b6.1)]) (show jfI 119 29 (.invokevirtual 205) 3 [1, 31, 0, 5131] = true by decide +kernel) rfl (Or.inl rfl) rfl (Nat.le_of_ble_eq_true rfl) (by decide +kernel) (by decide) (isX2_L (isX6_s8 hq5)) ((t_Fo_evaluate (T := T) (xs := xs) (isX6_s8 hq5) Hb6).mono (jKle 4 hd)) rfl ?_
    refine jEv.blk [(.istore_n 3, 1, []), (.aload_n 1, 1, []), (.aload_n 0, 1, []), (.iload_n 2, 1, [])] (by decide +kernel) (pc' := 36) (ls' := [(2, Int.ofNat o0), (2, Int.ofNat o1), (0, v2), (0, b6.1)]) (st' := [(0, v2), (2, Int.ofNat o0), (2, Int.ofNat o1)]) rfl ?_
    refine jbind H (fun b7 Hb7 H => ?_)
    refine jEv.calV (st' := []) (show jfI 119 36 (.invokevirtual 217) 3 [1, 82, 2, 5195] = true by decide +kernel) rfl (Or.inl rfl) rfl (Nat.le_of_ble_eq_true rfl) (by decide +kernel) (by decide) (isX5_L ho1) ((t_Pe_lay (T := T) (xs := xs) ho1 ho0 Hb7).mono (jKle 4 hd)) rfl ?_
    refine jEv.blk [(.aload_n 0, 1, [])] (by decide +kernel) (pc' := 40) (ls' := [(2, Int.ofNat o0), (2, Int.ofNat o1), (0, v2), (0, b6.1)]) (st' := [(2, Int.ofNat o0)]) rfl ?_
    refine jEv.gfR (o' := (o0 + 4)) (show jfI 119 40 (.getfield 21) 3 [9, 2, 5, 0, 2068] = true by decide +kernel) (isX9_L ho0) (by decide) (isX9_r2 ho0) ?_
    refine jEv.blk [(.iconst 1, 1, []), (.bipush 99, 2, []), (.iload_n 3, 1, [])] (by decide +kernel) (pc' := 47) (ls' := [(2, Int.ofNat o0), (2, Int.ofNat o1), (0, v2), (0, b6.1)]) (st' := [(0, b6.1), (0, 99), (0, 1), (2, Int.ofNat (o0 + 4))]) rfl ?_
    refine jEv.calS (st' := [(0, (min 99 b6.1)), (0, 1), (2, Int.ofNat (o0 + 4))]) (show jfI 119 47 (.invokestatic 142) 3 [3, 360, 2, 5171] = true by decide +kernel) rfl (Or.inl rfl) rfl (Nat.le_of_ble_eq_true rfl) ((t_JMath_min_0 (T := T) (xs := xs)).mono (jKle 1 hd)) rfl ?_
    refine jEv.calS (st' := [(0, (max 1 (min 99 b6.1))), (2, Int.ofNat (o0 + 4))]) (show jfI 119 50 (.invokestatic 221) 3 [3, 371, 2, 5227] = true by decide +kernel) rfl (Or.inl rfl) rfl (Nat.le_of_ble_eq_true rfl) ((t_JMath_max_1 (T := T) (xs := xs)).mono (jKle 1 hd)) rfl ?_
    refine jEv.pfI (show jfI 119 53 (.putfield 132) 3 [1, 3, 0, 0, 1219] = true by decide +kernel) (isX1_L (isX9_s2 ho0)) (by decide) ?_
    exact jEv.retV (show jfI 119 56 (.return_) 1 [] = true by decide +kernel) (by decide +kernel) (by cases H; exact HY)
set_option maxRecDepth 20000 in
noncomputable def St_passTick_p106 (T : jT) (h : jH) (o0 : Nat) (v3 : Int) : Option (Int × jH) := some (v3, (jup h o0 9 (wr ((h o0 9) + 1))))
set_option maxRecDepth 20000 in
theorem t_St_passTick_p106 {T : jT} {xs : List Int} {d : Nat} {y : jV × jS} (hd : 5 ≤ d) {h : jH}  {o0 : Nat} {v3 : Int} {out : (Int × jH)} (ho0 : isX9 T o0) (H : St_passTick_p106 T h o0 v3 = some out) (HY : ykI T y out) : jEv xs d (115, 106, [(2, Int.ofNat o0), (3, 0), (3, 0), (0, v3), (3, 0)], []) (T, h) y := by
  unfold St_passTick_p106 at H
  refine jEv.blk [(.aload_n 0, 1, []), (.dup, 1, [])] (by decide +kernel) (pc' := 108) (ls' := [(2, Int.ofNat o0), (3, 0), (3, 0), (0, v3), (3, 0)]) (st' := [(2, Int.ofNat o0), (2, Int.ofNat o0)]) rfl ?_
  refine jEv.gfI (show jfI 115 108 (.getfield 77) 3 [9, 9, 0, 0, 2084] = true by decide +kernel) (isX9_L ho0) (by decide) ?_
  refine jEv.blk [(.iconst 1, 1, []), (.iadd, 1, [])] (by decide +kernel) (pc' := 113) (ls' := [(2, Int.ofNat o0), (3, 0), (3, 0), (0, v3), (3, 0)]) (st' := [(0, (wr ((h o0 9) + 1))), (2, Int.ofNat o0)]) rfl ?_
  refine jEv.pfI (show jfI 115 113 (.putfield 77) 3 [9, 9, 0, 0, 2084] = true by decide +kernel) (isX9_L ho0) (by decide) ?_
  refine jEv.blk [(.iload_n 3, 1, [])] (by decide +kernel) (pc' := 117) (ls' := [(2, Int.ofNat o0), (3, 0), (3, 0), (0, v3), (3, 0)]) (st' := [(0, v3)]) rfl ?_
  exact jEv.retI (show jfI 115 117 (.ireturn) 1 [] = true by decide +kernel) (by decide +kernel) (by cases H; exact HY)
set_option maxRecDepth 20000 in
noncomputable def St_passTick_p103 (T : jT) (h : jH) (o0 : Nat) (v3 : Int) (os0 : Nat) (os1 : Nat) (vs2 : Int) : Option (Int × jH) := Option.bind (St_close T h os0 os1 vs2) (fun b12 => St_passTick_p106 T b12 o0 v3)
set_option maxRecDepth 20000 in
theorem t_St_passTick_p103 {T : jT} {xs : List Int} {d : Nat} {y : jV × jS} (hd : 5 ≤ d) {h : jH}  {o0 : Nat} {v3 : Int} {os0 : Nat} {os1 : Nat} {vs2 : Int} {out : (Int × jH)} (ho0 : isX9 T o0) (hos0 : isX9 T os0) (hos1 : isX5 T os1) (H : St_passTick_p103 T h o0 v3 os0 os1 vs2 = some out) (HY : ykI T y out) : jEv xs d (115, 103, [(2, Int.ofNat o0), (3, 0), (3, 0), (0, v3), (3, 0)], [(0, vs2), (2, Int.ofNat os1), (2, Int.ofNat os0)]) (T, h) y := by
  unfold St_passTick_p103 at H
  refine jbind H (fun b12 Hb12 H => ?_)
  refine jEv.calV (st' := []) (show jfI 115 103 (.invokevirtual 147) 3 [1, 119, 2, 5172] = true by decide +kernel) rfl (Or.inl rfl) rfl (Nat.le_of_ble_eq_true rfl) (by decide +kernel) (by decide) (isX9_L hos0) ((t_St_close (T := T) (xs := xs) hos0 hos1 Hb12).mono (jKle 5 hd)) rfl ?_
  exact t_St_passTick_p106 (T := T) (xs := xs) (y := y) hd ho0 H HY
set_option maxRecDepth 20000 in
noncomputable def St_passTick_p86 (T : jT) (h : jH) (o0 : Nat) (o1 : Nat) (v2 : Int) (v3 : Int) (v4 : Int) : Option (Int × jH) := (if 0 < v2 then St_passTick_p103 T h o0 v3 o0 o1 (min v2 v4) else St_passTick_p103 T h o0 v3 o0 o1 v4)
set_option maxRecDepth 20000 in
theorem t_St_passTick_p86 {T : jT} {xs : List Int} {d : Nat} {y : jV × jS} (hd : 5 ≤ d) {h : jH}  {o0 : Nat} {o1 : Nat} {v2 : Int} {v3 : Int} {v4 : Int} {out : (Int × jH)} (ho0 : isX9 T o0) (ho1 : isX5 T o1) (H : St_passTick_p86 T h o0 o1 v2 v3 v4 = some out) (HY : ykI T y out) : jEv xs d (115, 86, [(2, Int.ofNat o0), (2, Int.ofNat o1), (0, v2), (0, v3), (0, v4)], []) (T, h) y := by
  unfold St_passTick_p86 at H
  refine jEv.blk [(.aload_n 0, 1, []), (.aload_n 1, 1, []), (.iload_n 2, 1, [])] (by decide +kernel) (pc' := 89) (ls' := [(2, Int.ofNat o0), (2, Int.ofNat o1), (0, v2), (0, v3), (0, v4)]) (st' := [(0, v2), (2, Int.ofNat o1), (2, Int.ofNat o0)]) rfl ?_
  refine jEv.if_le (t := 101) (show jfI 115 89 (.ifCond .le 12) 3 [] = true by decide +kernel) rfl H (fun c11 H => ?_) (fun c11 H => ?_)
  · refine jEv.blk [(.iload_n 2, 1, []), (.iload 4, 2, [])] (by decide +kernel) (pc' := 95) (ls' := [(2, Int.ofNat o0), (2, Int.ofNat o1), (0, v2), (0, v3), (0, v4)]) (st' := [(0, v4), (0, v2), (2, Int.ofNat o1), (2, Int.ofNat o0)]) rfl ?_
    refine jEv.calS (st' := [(0, (min v2 v4)), (2, Int.ofNat o1), (2, Int.ofNat o0)]) (show jfI 115 95 (.invokestatic 142) 3 [3, 360, 2, 5171] = true by decide +kernel) rfl (Or.inl rfl) rfl (Nat.le_of_ble_eq_true rfl) ((t_JMath_min_0 (T := T) (xs := xs)).mono (jKle 1 hd)) rfl ?_
    refine jEv.goto (t := 103) (show jfI 115 98 (.goto 5) 3 [] = true by decide +kernel) rfl ?_
    exact jEv.weak (a := [(2, Int.ofNat o0), (3, 0), (3, 0), (0, v3), (3, 0)]) (jles.c1 (jles.c0 (jles.c0 (jles.c1 (jles.c0 jles.nl))))) (t_St_passTick_p103 (T := T) (xs := xs) (y := y) hd ho0 ho0 ho1 H HY)
  · refine jEv.blk [(.iload 4, 2, [])] (by decide +kernel) (pc' := 103) (ls' := [(2, Int.ofNat o0), (2, Int.ofNat o1), (0, v2), (0, v3), (0, v4)]) (st' := [(0, v4), (2, Int.ofNat o1), (2, Int.ofNat o0)]) rfl ?_
    exact jEv.weak (a := [(2, Int.ofNat o0), (3, 0), (3, 0), (0, v3), (3, 0)]) (jles.c1 (jles.c0 (jles.c0 (jles.c1 (jles.c0 jles.nl))))) (t_St_passTick_p103 (T := T) (xs := xs) (y := y) hd ho0 ho0 ho1 H HY)
set_option maxRecDepth 20000 in
noncomputable def St_passTick_p44 (T : jT) (h : jH) (o0 : Nat) (o1 : Nat) (v2 : Int) (v3 : Int) : Option (Int × jH) := Option.bind (Qu_waitingCount h (o0 + 7)) (fun b4 => (if (h (o0 + 4) 2) = 0 then (if 0 < b4 then (if (h o0 14) = 0 then (if 0 < v2 then St_passTick_p86 T h o0 o1 v2 v3 b4 else Option.bind (St_testHolds T h o0) (fun b9 => (if b9.1 = 0 then St_passTick_p106 T b9.2 o0 v3 else St_passTick_p86 T b9.2 o0 o1 v2 v3 b4))) else St_passTick_p106 T h o0 v3) else St_passTick_p106 T h o0 v3) else St_passTick_p106 T h o0 v3))
set_option maxRecDepth 20000 in
theorem t_St_passTick_p44 {T : jT} {xs : List Int} {d : Nat} {y : jV × jS} (hd : 5 ≤ d) {h : jH}  {o0 : Nat} {o1 : Nat} {v2 : Int} {v3 : Int} {out : (Int × jH)} (ho0 : isX9 T o0) (ho1 : isX5 T o1) (H : St_passTick_p44 T h o0 o1 v2 v3 = some out) (HY : ykI T y out) : jEv xs d (115, 44, [(2, Int.ofNat o0), (2, Int.ofNat o1), (0, v2), (0, v3), (3, 0)], []) (T, h) y := by
  unfold St_passTick_p44 at H
  refine jEv.blk [(.aload_n 0, 1, [])] (by decide +kernel) (pc' := 45) (ls' := [(2, Int.ofNat o0), (2, Int.ofNat o1), (0, v2), (0, v3), (3, 0)]) (st' := [(2, Int.ofNat o0)]) rfl ?_
  refine jEv.gfR (o' := (o0 + 7)) (show jfI 115 45 (.getfield 28) 3 [9, 3, 5, 0, 2071] = true by decide +kernel) (isX9_L ho0) (by decide) (isX9_r3 ho0) ?_
  refine jbind H (fun b4 Hb4 H => ?_)
  refine jEv.calV (st' := [(0, b4)]) (show jfI 115 48 (.invokevirtual 121) 3 [1, 92, 0, 4119] = true by decide +kernel) rfl (Or.inl rfl) rfl (Nat.le_of_ble_eq_true rfl) (by decide +kernel) (by decide) (isX7_L (isX9_s3 ho0)) ((t_Qu_waitingCount (T := T) (xs := xs) (isX9_s3 ho0) Hb4).mono (jKle 1 hd)) rfl ?_
  refine jEv.blk [(.istore 4, 2, []), (.aload_n 0, 1, [])] (by decide +kernel) (pc' := 54) (ls' := [(2, Int.ofNat o0), (2, Int.ofNat o1), (0, v2), (0, v3), (0, b4)]) (st' := [(2, Int.ofNat o0)]) rfl ?_
  refine jEv.gfR (o' := (o0 + 4)) (show jfI 115 54 (.getfield 21) 3 [9, 2, 5, 0, 2068] = true by decide +kernel) (isX9_L ho0) (by decide) (isX9_r2 ho0) ?_
  refine jEv.gfI (show jfI 115 57 (.getfield 129) 3 [1, 2, 0, 0, 1215] = true by decide +kernel) (isX1_L (isX9_s2 ho0)) (by decide) ?_
  refine jEv.if_ne (t := 106) (show jfI 115 60 (.ifCond .ne 46) 3 [] = true by decide +kernel) rfl H (fun c5 H => ?_) (fun c5 H => ?_)
  · refine jEv.blk [(.iload 4, 2, [])] (by decide +kernel) (pc' := 65) (ls' := [(2, Int.ofNat o0), (2, Int.ofNat o1), (0, v2), (0, v3), (0, b4)]) (st' := [(0, b4)]) rfl ?_
    refine jEv.if_le (t := 106) (show jfI 115 65 (.ifCond .le 41) 3 [] = true by decide +kernel) rfl H (fun c6 H => ?_) (fun c6 H => ?_)
    · refine jEv.blk [(.aload_n 0, 1, [])] (by decide +kernel) (pc' := 69) (ls' := [(2, Int.ofNat o0), (2, Int.ofNat o1), (0, v2), (0, v3), (0, b4)]) (st' := [(2, Int.ofNat o0)]) rfl ?_
      refine jEv.gfI (show jfI 115 69 (.getfield 83) 3 [9, 14, 0, 1, 2098] = true by decide +kernel) (isX9_L ho0) (by decide) ?_
      refine jEv.if_ne (t := 106) (show jfI 115 72 (.ifCond .ne 34) 3 [] = true by decide +kernel) rfl H (fun c7 H => ?_) (fun c7 H => ?_)
      · refine jEv.blk [(.iload_n 2, 1, [])] (by decide +kernel) (pc' := 76) (ls' := [(2, Int.ofNat o0), (2, Int.ofNat o1), (0, v2), (0, v3), (0, b4)]) (st' := [(0, v2)]) rfl ?_
        refine jEv.if_gt (t := 86) (show jfI 115 76 (.ifCond .gt 10) 3 [] = true by decide +kernel) rfl H (fun c8 H => ?_) (fun c8 H => ?_)
        · exact t_St_passTick_p86 (T := T) (xs := xs) (y := y) hd ho0 ho1 H HY
        · refine jEv.blk [(.aload_n 0, 1, [])] (by decide +kernel) (pc' := 80) (ls' := [(2, Int.ofNat o0), (2, Int.ofNat o1), (0, v2), (0, v3), (0, b4)]) (st' := [(2, Int.ofNat o0)]) rfl ?_
          refine jbind H (fun b9 Hb9 H => ?_)
          refine jEv.calV (st' := [(0, b9.1)]) (show jfI 115 80 (.invokevirtual 138) 3 [1, 117, 0, 5107] = true by decide +kernel) rfl (Or.inl rfl) rfl (Nat.le_of_ble_eq_true rfl) (by decide +kernel) (by decide) (isX9_L ho0) ((t_St_testHolds (T := T) (xs := xs) ho0 Hb9).mono (jKle 5 hd)) rfl ?_
          refine jEv.if_eq (t := 106) (show jfI 115 83 (.ifCond .eq 23) 3 [] = true by decide +kernel) rfl H (fun c10 H => ?_) (fun c10 H => ?_)
          · exact jEv.weak (a := [(2, Int.ofNat o0), (3, 0), (3, 0), (0, v3), (3, 0)]) (jles.c1 (jles.c0 (jles.c0 (jles.c1 (jles.c0 jles.nl))))) (t_St_passTick_p106 (T := T) (xs := xs) (y := y) hd ho0 H HY)
          · exact t_St_passTick_p86 (T := T) (xs := xs) (y := y) hd ho0 ho1 H HY
      · exact jEv.weak (a := [(2, Int.ofNat o0), (3, 0), (3, 0), (0, v3), (3, 0)]) (jles.c1 (jles.c0 (jles.c0 (jles.c1 (jles.c0 jles.nl))))) (t_St_passTick_p106 (T := T) (xs := xs) (y := y) hd ho0 H HY)
    · exact jEv.weak (a := [(2, Int.ofNat o0), (3, 0), (3, 0), (0, v3), (3, 0)]) (jles.c1 (jles.c0 (jles.c0 (jles.c1 (jles.c0 jles.nl))))) (t_St_passTick_p106 (T := T) (xs := xs) (y := y) hd ho0 H HY)
  · exact jEv.weak (a := [(2, Int.ofNat o0), (3, 0), (3, 0), (0, v3), (3, 0)]) (jles.c1 (jles.c0 (jles.c0 (jles.c1 (jles.c0 jles.nl))))) (t_St_passTick_p106 (T := T) (xs := xs) (y := y) hd ho0 H HY)
set_option maxRecDepth 20000 in
noncomputable def St_passTick_p43 (T : jT) (h : jH) (o0 : Nat) (o1 : Nat) (v2 : Int) (vs0 : Int) : Option (Int × jH) := St_passTick_p44 T h o0 o1 v2 vs0
set_option maxRecDepth 20000 in
theorem t_St_passTick_p43 {T : jT} {xs : List Int} {d : Nat} {y : jV × jS} (hd : 5 ≤ d) {h : jH}  {o0 : Nat} {o1 : Nat} {v2 : Int} {vs0 : Int} {out : (Int × jH)} (ho0 : isX9 T o0) (ho1 : isX5 T o1) (H : St_passTick_p43 T h o0 o1 v2 vs0 = some out) (HY : ykI T y out) : jEv xs d (115, 43, [(2, Int.ofNat o0), (2, Int.ofNat o1), (0, v2), (3, 0), (3, 0)], [(0, vs0)]) (T, h) y := by
  unfold St_passTick_p43 at H
  refine jEv.blk [(.istore_n 3, 1, [])] (by decide +kernel) (pc' := 44) (ls' := [(2, Int.ofNat o0), (2, Int.ofNat o1), (0, v2), (0, vs0), (3, 0)]) (st' := []) rfl ?_
  exact t_St_passTick_p44 (T := T) (xs := xs) (y := y) hd ho0 ho1 H HY
set_option maxRecDepth 20000 in
noncomputable def St_passTick (T : jT) (h : jH) (o0 : Nat) (o1 : Nat) (v2 : Int) : Option (Int × jH) := (if 0 < (h (o0 + 4) 2) then (if 0 < ((jup h (o0 + 4) 3 (wr ((h (o0 + 4) 3) - 1))) (o0 + 4) 3) then St_passTick_p43 T (jup h (o0 + 4) 3 (wr ((h (o0 + 4) 3) - 1))) o0 o1 v2 0 else Option.bind (St_acknowledge (jup h (o0 + 4) 3 (wr ((h (o0 + 4) 3) - 1))) o0) (fun b3 => St_passTick_p43 T b3.2 o0 o1 v2 b3.1)) else St_passTick_p44 T h o0 o1 v2 0)
set_option maxRecDepth 20000 in
theorem t_St_passTick {T : jT} {xs : List Int} {h : jH}  {o0 : Nat} {o1 : Nat} {v2 : Int} {out : (Int × jH)} (ho0 : isX9 T o0) (ho1 : isX5 T o1) (H : St_passTick T h o0 o1 v2 = some out) : jEm xs 6 115 [(2, Int.ofNat o0), (2, Int.ofNat o1), (0, v2)] (T, h) ((0, out.1), (T, out.2)) := by
  have hd : 5 ≤ 5 := Nat.le_refl _
  obtain ⟨y, ey⟩ : ∃ y : jV × jS, y = ((0, out.1), (T, out.2)) := ⟨_, rfl⟩
  rw [← ey]
  have HY : ykI T y out := ey
  refine jEm.ent (n := 5) (by decide +kernel) (Nat.le_of_ble_eq_true rfl) ?_
  show jEv xs 5 (115, 0, [(2, Int.ofNat o0), (2, Int.ofNat o1), (0, v2), (3, 0), (3, 0)], []) (T, h) y
  unfold St_passTick at H
  refine jEv.blk [(.iconst 0, 1, []), (.istore_n 3, 1, []), (.aload_n 0, 1, [])] (by decide +kernel) (pc' := 3) (ls' := [(2, Int.ofNat o0), (2, Int.ofNat o1), (0, v2), (0, 0), (3, 0)]) (st' := [(2, Int.ofNat o0)]) rfl ?_
  refine jEv.gfR (o' := (o0 + 4)) (show jfI 115 3 (.getfield 21) 3 [9, 2, 5, 0, 2068] = true by decide +kernel) (isX9_L ho0) (by decide) (isX9_r2 ho0) ?_
  refine jEv.gfI (show jfI 115 6 (.getfield 129) 3 [1, 2, 0, 0, 1215] = true by decide +kernel) (isX1_L (isX9_s2 ho0)) (by decide) ?_
  refine jEv.if_le (t := 44) (show jfI 115 9 (.ifCond .le 35) 3 [] = true by decide +kernel) rfl H (fun c1 H => ?_) (fun c1 H => ?_)
  · refine jEv.blk [(.aload_n 0, 1, [])] (by decide +kernel) (pc' := 13) (ls' := [(2, Int.ofNat o0), (2, Int.ofNat o1), (0, v2), (0, 0), (3, 0)]) (st' := [(2, Int.ofNat o0)]) rfl ?_
    refine jEv.gfR (o' := (o0 + 4)) (show jfI 115 13 (.getfield 21) 3 [9, 2, 5, 0, 2068] = true by decide +kernel) (isX9_L ho0) (by decide) (isX9_r2 ho0) ?_
    refine jEv.blk [(.dup, 1, [])] (by decide +kernel) (pc' := 17) (ls' := [(2, Int.ofNat o0), (2, Int.ofNat o1), (0, v2), (0, 0), (3, 0)]) (st' := [(2, Int.ofNat (o0 + 4)), (2, Int.ofNat (o0 + 4))]) rfl ?_
    refine jEv.gfI (show jfI 115 17 (.getfield 132) 3 [1, 3, 0, 0, 1219] = true by decide +kernel) (isX1_L (isX9_s2 ho0)) (by decide) ?_
    refine jEv.blk [(.iconst 1, 1, []), (.isub, 1, [])] (by decide +kernel) (pc' := 22) (ls' := [(2, Int.ofNat o0), (2, Int.ofNat o1), (0, v2), (0, 0), (3, 0)]) (st' := [(0, (wr ((h (o0 + 4) 3) - 1))), (2, Int.ofNat (o0 + 4))]) rfl ?_
    refine jEv.pfI (show jfI 115 22 (.putfield 132) 3 [1, 3, 0, 0, 1219] = true by decide +kernel) (isX1_L (isX9_s2 ho0)) (by decide) ?_
    refine jEv.blk [(.aload_n 0, 1, [])] (by decide +kernel) (pc' := 26) (ls' := [(2, Int.ofNat o0), (2, Int.ofNat o1), (0, v2), (0, 0), (3, 0)]) (st' := [(2, Int.ofNat o0)]) rfl ?_
    refine jEv.gfR (o' := (o0 + 4)) (show jfI 115 26 (.getfield 21) 3 [9, 2, 5, 0, 2068] = true by decide +kernel) (isX9_L ho0) (by decide) (isX9_r2 ho0) ?_
    refine jEv.gfI (show jfI 115 29 (.getfield 132) 3 [1, 3, 0, 0, 1219] = true by decide +kernel) (isX1_L (isX9_s2 ho0)) (by decide) ?_
    refine jEv.if_gt (t := 42) (show jfI 115 32 (.ifCond .gt 10) 3 [] = true by decide +kernel) rfl H (fun c2 H => ?_) (fun c2 H => ?_)
    · refine jEv.blk [(.iconst 0, 1, [])] (by decide +kernel) (pc' := 43) (ls' := [(2, Int.ofNat o0), (2, Int.ofNat o1), (0, v2), (0, 0), (3, 0)]) (st' := [(0, 0)]) rfl ?_
      exact jEv.weak (a := [(2, Int.ofNat o0), (2, Int.ofNat o1), (0, v2), (3, 0), (3, 0)]) (jles.c1 (jles.c1 (jles.c1 (jles.c0 (jles.c0 jles.nl))))) (t_St_passTick_p43 (T := T) (xs := xs) (y := y) hd ho0 ho1 H HY)
    · refine jEv.blk [(.aload_n 0, 1, [])] (by decide +kernel) (pc' := 36) (ls' := [(2, Int.ofNat o0), (2, Int.ofNat o1), (0, v2), (0, 0), (3, 0)]) (st' := [(2, Int.ofNat o0)]) rfl ?_
      refine jbind H (fun b3 Hb3 H => ?_)
      refine jEv.calV (st' := [(0, b3.1)]) (show jfI 115 36 (.invokevirtual 135) 3 [1, 116, 0, 5082] = true by decide +kernel) rfl (Or.inl rfl) rfl (Nat.le_of_ble_eq_true rfl) (by decide +kernel) (by decide) (isX9_L ho0) ((t_St_acknowledge (T := T) (xs := xs) ho0 Hb3).mono (jKle 4 hd)) rfl ?_
      refine jEv.goto (t := 43) (show jfI 115 39 (.goto 4) 3 [] = true by decide +kernel) rfl ?_
      exact jEv.weak (a := [(2, Int.ofNat o0), (2, Int.ofNat o1), (0, v2), (3, 0), (3, 0)]) (jles.c1 (jles.c1 (jles.c1 (jles.c0 (jles.c0 jles.nl))))) (t_St_passTick_p43 (T := T) (xs := xs) (y := y) hd ho0 ho1 H HY)
  · exact t_St_passTick_p44 (T := T) (xs := xs) (y := y) hd ho0 ho1 H HY
set_option maxRecDepth 20000 in
noncomputable def St_takeSnap  (h : jH) (o0 : Nat) : Option jH := Option.bind (G_copy h (o0 + 18) 16 (o0 + 19) 16) (fun b1 => some (jup b1 o0 7 (b1 (o0 + 7) 4)))
set_option maxRecDepth 20000 in
theorem t_St_takeSnap {T : jT} {xs : List Int} {h : jH}  {o0 : Nat} {out : jH} (ho0 : isX9 T o0) (H : St_takeSnap h o0 = some out) : jEm xs 3 120 [(2, Int.ofNat o0)] (T, h) ((3, 0), (T, out)) := by
  have hd : 2 ≤ 2 := Nat.le_refl _
  obtain ⟨y, ey⟩ : ∃ y : jV × jS, y = ((3, 0), (T, out)) := ⟨_, rfl⟩
  rw [← ey]
  have HY : ykV T y out := ey
  refine jEm.ent (n := 1) (by decide +kernel) (Nat.le_of_ble_eq_true rfl) ?_
  show jEv xs 2 (120, 0, [(2, Int.ofNat o0)], []) (T, h) y
  unfold St_takeSnap at H
  refine jEv.blk [(.aload_n 0, 1, [])] (by decide +kernel) (pc' := 1) (ls' := [(2, Int.ofNat o0)]) (st' := [(2, Int.ofNat o0)]) rfl ?_
  refine jEv.gfR (o' := (o0 + 18)) (show jfI 120 1 (.getfield 39) 3 [9, 5, 5, 0, 2076] = true by decide +kernel) (isX9_L ho0) (by decide) (isX9_r5 ho0) ?_
  refine jEv.blk [(.aload_n 0, 1, [])] (by decide +kernel) (pc' := 5) (ls' := [(2, Int.ofNat o0)]) (st' := [(2, Int.ofNat o0), (2, Int.ofNat (o0 + 18))]) rfl ?_
  refine jEv.gfR (o' := (o0 + 19)) (show jfI 120 5 (.getfield 43) 3 [9, 6, 5, 0, 2078] = true by decide +kernel) (isX9_L ho0) (by decide) (isX9_r6 ho0) ?_
  refine jbind H (fun b1 Hb1 H => ?_)
  refine jEv.calS (st' := []) (show jfI 120 8 (.invokestatic 100) 3 [4, 159, 2, 5077] = true by decide +kernel) rfl (Or.inr rfl) rfl (Nat.le_of_ble_eq_true rfl) ((t_G_copy (T := T) (xs := xs) (isX9_a5 ho0) (isX9_a6 ho0) Hb1).mono (jKle 2 hd)) rfl ?_
  refine jEv.blk [(.aload_n 0, 1, []), (.aload_n 0, 1, [])] (by decide +kernel) (pc' := 13) (ls' := [(2, Int.ofNat o0)]) (st' := [(2, Int.ofNat o0), (2, Int.ofNat o0)]) rfl ?_
  refine jEv.gfR (o' := (o0 + 7)) (show jfI 120 13 (.getfield 28) 3 [9, 3, 5, 0, 2071] = true by decide +kernel) (isX9_L ho0) (by decide) (isX9_r3 ho0) ?_
  refine jEv.gfI (show jfI 120 16 (.getfield 172) 3 [7, 4, 0, 0, 2009] = true by decide +kernel) (isX7_L (isX9_s3 ho0)) (by decide) ?_
  refine jEv.pfI (show jfI 120 19 (.putfield 73) 3 [9, 7, 0, 0, 2080] = true by decide +kernel) (isX9_L ho0) (by decide) ?_
  exact jEv.retV (show jfI 120 22 (.return_) 1 [] = true by decide +kernel) (by decide +kernel) (by cases H; exact HY)
set_option maxRecDepth 20000 in
noncomputable def St_recover  (h : jH) (o0 : Nat) (o1 : Nat) : Option jH := Option.bind (Re_read h o1 (o0 + 1) (h o0 7) (o0 + 19) 16) (fun b1 => Option.bind (G_copy b1 (o1 + 2) 16 (o0 + 18) 16) (fun b2 => Option.bind (G_copy b2 (o1 + 3) 4 (o0 + 20) 4) (fun b3 => Option.bind (Qu_clear b3 (o0 + 7) (b3 o1 3)) (fun b4 => Option.bind (St_movePlace b4 o0 (b4 o1 4) (b4 o1 5) (b4 o1 6) (b4 o0 13)) (fun b5 => (if (b5 o1 7) = 0 ∨ (b5 o1 7) = 1 then (if ((jup b5 o0 14 (b5 o1 7)) o0 14) = 0 then Option.bind (Di_wipe (jup b5 o0 14 (b5 o1 7)) (o0 + 1) ((jup b5 o0 14 (b5 o1 7)) o0 10) ((jup b5 o0 14 (b5 o1 7)) o0 11)) (fun b8 => some b8.2) else some (jup b5 o0 14 (b5 o1 7))) else none))))))
set_option maxRecDepth 20000 in
theorem t_St_recover {T : jT} {xs : List Int} {h : jH}  {o0 : Nat} {o1 : Nat} {out : jH} (ho0 : isX9 T o0) (ho1 : isX8 T o1) (H : St_recover h o0 o1 = some out) : jEm xs 6 122 [(2, Int.ofNat o0), (2, Int.ofNat o1)] (T, h) ((3, 0), (T, out)) := by
  have hd : 5 ≤ 5 := Nat.le_refl _
  obtain ⟨y, ey⟩ : ∃ y : jV × jS, y = ((3, 0), (T, out)) := ⟨_, rfl⟩
  rw [← ey]
  have HY : ykV T y out := ey
  refine jEm.ent (n := 2) (by decide +kernel) (Nat.le_of_ble_eq_true rfl) ?_
  show jEv xs 5 (122, 0, [(2, Int.ofNat o0), (2, Int.ofNat o1)], []) (T, h) y
  unfold St_recover at H
  refine jEv.blk [(.aload_n 1, 1, []), (.aload_n 0, 1, [])] (by decide +kernel) (pc' := 2) (ls' := [(2, Int.ofNat o0), (2, Int.ofNat o1)]) (st' := [(2, Int.ofNat o0), (2, Int.ofNat o1)]) rfl ?_
  refine jEv.gfR (o' := (o0 + 1)) (show jfI 122 2 (.getfield 12) 3 [9, 1, 5, 0, 2065] = true by decide +kernel) (isX9_L ho0) (by decide) (isX9_r1 ho0) ?_
  refine jEv.blk [(.aload_n 0, 1, [])] (by decide +kernel) (pc' := 6) (ls' := [(2, Int.ofNat o0), (2, Int.ofNat o1)]) (st' := [(2, Int.ofNat o0), (2, Int.ofNat (o0 + 1)), (2, Int.ofNat o1)]) rfl ?_
  refine jEv.gfI (show jfI 122 6 (.getfield 73) 3 [9, 7, 0, 0, 2080] = true by decide +kernel) (isX9_L ho0) (by decide) ?_
  refine jEv.blk [(.aload_n 0, 1, [])] (by decide +kernel) (pc' := 10) (ls' := [(2, Int.ofNat o0), (2, Int.ofNat o1)]) (st' := [(2, Int.ofNat o0), (0, (h o0 7)), (2, Int.ofNat (o0 + 1)), (2, Int.ofNat o1)]) rfl ?_
  refine jEv.gfR (o' := (o0 + 19)) (show jfI 122 10 (.getfield 43) 3 [9, 6, 5, 0, 2078] = true by decide +kernel) (isX9_L ho0) (by decide) (isX9_r6 ho0) ?_
  refine jbind H (fun b1 Hb1 H => ?_)
  refine jEv.calV (st' := []) (show jfI 122 13 (.invokevirtual 228) 3 [1, 102, 3, 6172] = true by decide +kernel) rfl (Or.inl rfl) rfl (Nat.le_of_ble_eq_true rfl) (by decide +kernel) (by decide) (isX8_L ho1) ((t_Re_read (T := T) (xs := xs) ho1 (isX9_s1 ho0) (isX9_a6 ho0) Hb1).mono (jKle 5 hd)) rfl ?_
  refine jEv.blk [(.aload_n 1, 1, [])] (by decide +kernel) (pc' := 17) (ls' := [(2, Int.ofNat o0), (2, Int.ofNat o1)]) (st' := [(2, Int.ofNat o1)]) rfl ?_
  refine jEv.gfR (o' := (o1 + 2)) (show jfI 122 17 (.getfield 234) 3 [8, 1, 5, 0, 2206] = true by decide +kernel) (isX8_L ho1) (by decide) (isX8_r1 ho1) ?_
  refine jEv.blk [(.aload_n 0, 1, [])] (by decide +kernel) (pc' := 21) (ls' := [(2, Int.ofNat o0), (2, Int.ofNat o1)]) (st' := [(2, Int.ofNat o0), (2, Int.ofNat (o1 + 2))]) rfl ?_
  refine jEv.gfR (o' := (o0 + 18)) (show jfI 122 21 (.getfield 39) 3 [9, 5, 5, 0, 2076] = true by decide +kernel) (isX9_L ho0) (by decide) (isX9_r5 ho0) ?_
  refine jbind H (fun b2 Hb2 H => ?_)
  refine jEv.calS (st' := []) (show jfI 122 24 (.invokestatic 100) 3 [4, 159, 2, 5077] = true by decide +kernel) rfl (Or.inr rfl) rfl (Nat.le_of_ble_eq_true rfl) ((t_G_copy (T := T) (xs := xs) (isX8_a1 ho1) (isX9_a5 ho0) Hb2).mono (jKle 2 hd)) rfl ?_
  refine jEv.blk [(.aload_n 1, 1, [])] (by decide +kernel) (pc' := 28) (ls' := [(2, Int.ofNat o0), (2, Int.ofNat o1)]) (st' := [(2, Int.ofNat o1)]) rfl ?_
  refine jEv.gfR (o' := (o1 + 3)) (show jfI 122 28 (.getfield 235) 3 [8, 2, 5, 0, 2209] = true by decide +kernel) (isX8_L ho1) (by decide) (isX8_r2 ho1) ?_
  refine jEv.blk [(.aload_n 0, 1, [])] (by decide +kernel) (pc' := 32) (ls' := [(2, Int.ofNat o0), (2, Int.ofNat o1)]) (st' := [(2, Int.ofNat o0), (2, Int.ofNat (o1 + 3))]) rfl ?_
  refine jEv.gfR (o' := (o0 + 20)) (show jfI 122 32 (.getfield 46) 3 [9, 8, 5, 0, 2082] = true by decide +kernel) (isX9_L ho0) (by decide) (isX9_r8 ho0) ?_
  refine jbind H (fun b3 Hb3 H => ?_)
  refine jEv.calS (st' := []) (show jfI 122 35 (.invokestatic 100) 3 [4, 159, 2, 5077] = true by decide +kernel) rfl (Or.inr rfl) rfl (Nat.le_of_ble_eq_true rfl) ((t_G_copy (T := T) (xs := xs) (isX8_a2 ho1) (isX9_a8 ho0) Hb3).mono (jKle 2 hd)) rfl ?_
  refine jEv.blk [(.aload_n 0, 1, [])] (by decide +kernel) (pc' := 39) (ls' := [(2, Int.ofNat o0), (2, Int.ofNat o1)]) (st' := [(2, Int.ofNat o0)]) rfl ?_
  refine jEv.gfR (o' := (o0 + 7)) (show jfI 122 39 (.getfield 28) 3 [9, 3, 5, 0, 2071] = true by decide +kernel) (isX9_L ho0) (by decide) (isX9_r3 ho0) ?_
  refine jEv.blk [(.aload_n 1, 1, [])] (by decide +kernel) (pc' := 43) (ls' := [(2, Int.ofNat o0), (2, Int.ofNat o1)]) (st' := [(2, Int.ofNat o1), (2, Int.ofNat (o0 + 7))]) rfl ?_
  refine jEv.gfI (show jfI 122 43 (.getfield 236) 3 [8, 3, 0, 0, 2211] = true by decide +kernel) (isX8_L ho1) (by decide) ?_
  refine jbind H (fun b4 Hb4 H => ?_)
  refine jEv.calV (st' := []) (show jfI 122 46 (.invokevirtual 66) 3 [1, 91, 1, 4083] = true by decide +kernel) rfl (Or.inl rfl) rfl (Nat.le_of_ble_eq_true rfl) (by decide +kernel) (by decide) (isX7_L (isX9_s3 ho0)) ((t_Qu_clear (T := T) (xs := xs) (isX9_s3 ho0) Hb4).mono (jKle 1 hd)) rfl ?_
  refine jEv.blk [(.aload_n 0, 1, []), (.aload_n 1, 1, [])] (by decide +kernel) (pc' := 51) (ls' := [(2, Int.ofNat o0), (2, Int.ofNat o1)]) (st' := [(2, Int.ofNat o1), (2, Int.ofNat o0)]) rfl ?_
  refine jEv.gfI (show jfI 122 51 (.getfield 239) 3 [8, 4, 0, 0, 2214] = true by decide +kernel) (isX8_L ho1) (by decide) ?_
  refine jEv.blk [(.aload_n 1, 1, [])] (by decide +kernel) (pc' := 55) (ls' := [(2, Int.ofNat o0), (2, Int.ofNat o1)]) (st' := [(2, Int.ofNat o1), (0, (b4 o1 4)), (2, Int.ofNat o0)]) rfl ?_
  refine jEv.gfI (show jfI 122 55 (.getfield 242) 3 [8, 5, 0, 0, 2217] = true by decide +kernel) (isX8_L ho1) (by decide) ?_
  refine jEv.blk [(.aload_n 1, 1, [])] (by decide +kernel) (pc' := 59) (ls' := [(2, Int.ofNat o0), (2, Int.ofNat o1)]) (st' := [(2, Int.ofNat o1), (0, (b4 o1 5)), (0, (b4 o1 4)), (2, Int.ofNat o0)]) rfl ?_
  refine jEv.gfI (show jfI 122 59 (.getfield 245) 3 [8, 6, 0, 0, 2220] = true by decide +kernel) (isX8_L ho1) (by decide) ?_
  refine jEv.blk [(.aload_n 0, 1, [])] (by decide +kernel) (pc' := 63) (ls' := [(2, Int.ofNat o0), (2, Int.ofNat o1)]) (st' := [(2, Int.ofNat o0), (0, (b4 o1 6)), (0, (b4 o1 5)), (0, (b4 o1 4)), (2, Int.ofNat o0)]) rfl ?_
  refine jEv.gfI (show jfI 122 63 (.getfield 80) 3 [9, 13, 0, 0, 2096] = true by decide +kernel) (isX9_L ho0) (by decide) ?_
  refine jbind H (fun b5 Hb5 H => ?_)
  refine jEv.calV (st' := []) (show jfI 122 66 (.invokevirtual 113) 3 [1, 111, 4, 4111] = true by decide +kernel) rfl (Or.inl rfl) rfl (Nat.le_of_ble_eq_true rfl) (by decide +kernel) (by decide) (isX9_L ho0) ((t_St_movePlace (T := T) (xs := xs) ho0 Hb5).mono (jKle 1 hd)) rfl ?_
  refine jEv.blk [(.aload_n 0, 1, []), (.aload_n 1, 1, [])] (by decide +kernel) (pc' := 71) (ls' := [(2, Int.ofNat o0), (2, Int.ofNat o1)]) (st' := [(2, Int.ofNat o1), (2, Int.ofNat o0)]) rfl ?_
  refine jEv.gfI (show jfI 122 71 (.getfield 248) 3 [8, 7, 0, 1, 2222] = true by decide +kernel) (isX8_L ho1) (by decide) ?_
  refine jchk H (fun c6 H => ?_)
  refine jEv.pfZ (show jfI 122 74 (.putfield 83) 3 [9, 14, 0, 1, 2098] = true by decide +kernel) (isX9_L ho0) (by decide) c6 ?_
  refine jEv.blk [(.aload_n 0, 1, [])] (by decide +kernel) (pc' := 78) (ls' := [(2, Int.ofNat o0), (2, Int.ofNat o1)]) (st' := [(2, Int.ofNat o0)]) rfl ?_
  refine jEv.gfI (show jfI 122 78 (.getfield 83) 3 [9, 14, 0, 1, 2098] = true by decide +kernel) (isX9_L ho0) (by decide) ?_
  refine jEv.if_ne (t := 100) (show jfI 122 81 (.ifCond .ne 19) 3 [] = true by decide +kernel) rfl H (fun c7 H => ?_) (fun c7 H => ?_)
  · refine jEv.blk [(.aload_n 0, 1, [])] (by decide +kernel) (pc' := 85) (ls' := [(2, Int.ofNat o0), (2, Int.ofNat o1)]) (st' := [(2, Int.ofNat o0)]) rfl ?_
    refine jEv.gfR (o' := (o0 + 1)) (show jfI 122 85 (.getfield 12) 3 [9, 1, 5, 0, 2065] = true by decide +kernel) (isX9_L ho0) (by decide) (isX9_r1 ho0) ?_
    refine jEv.blk [(.aload_n 0, 1, [])] (by decide +kernel) (pc' := 89) (ls' := [(2, Int.ofNat o0), (2, Int.ofNat o1)]) (st' := [(2, Int.ofNat o0), (2, Int.ofNat (o0 + 1))]) rfl ?_
    refine jEv.gfI (show jfI 122 89 (.getfield 104) 3 [9, 10, 0, 0, 2087] = true by decide +kernel) (isX9_L ho0) (by decide) ?_
    refine jEv.blk [(.aload_n 0, 1, [])] (by decide +kernel) (pc' := 93) (ls' := [(2, Int.ofNat o0), (2, Int.ofNat o1)]) (st' := [(2, Int.ofNat o0), (0, ((jup b5 o0 14 (b5 o1 7)) o0 10)), (2, Int.ofNat (o0 + 1))]) rfl ?_
    refine jEv.gfI (show jfI 122 93 (.getfield 107) 3 [9, 11, 0, 0, 2090] = true by decide +kernel) (isX9_L ho0) (by decide) ?_
    refine jbind H (fun b8 Hb8 H => ?_)
    refine jEv.calV (st' := [(0, b8.1)]) (show jfI 122 96 (.invokevirtual 251) 3 [1, 20, 2, 6173] = true by decide +kernel) rfl (Or.inl rfl) rfl (Nat.le_of_ble_eq_true rfl) (by decide +kernel) (by decide) (isX0_L (isX9_s1 ho0)) ((t_Di_wipe (T := T) (xs := xs) (isX9_s1 ho0) Hb8).mono (jKle 3 hd)) rfl ?_
    refine jEv.blk [(.pop, 1, [])] (by decide +kernel) (pc' := 100) (ls' := [(2, Int.ofNat o0), (2, Int.ofNat o1)]) (st' := []) rfl ?_
    exact jEv.retV (show jfI 122 100 (.return_) 1 [] = true by decide +kernel) (by decide +kernel) (by cases H; exact HY)
  · exact jEv.retV (show jfI 122 100 (.return_) 1 [] = true by decide +kernel) (by decide +kernel) (by cases H; exact HY)
