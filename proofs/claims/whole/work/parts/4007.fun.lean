/-! methods as functions -/
set_option maxRecDepth 20000 in
noncomputable def St_crashBy  (h : jH) (o0 : Nat) (v1 : Int) (o2 : Nat) : Option jH := Option.bind (Fl_arrive h (o0 + 4) (o0 + 1) 0 v1) (fun b1 => Option.bind (Fl_clear b1 (o0 + 4)) (fun b2 => Option.bind (Wa_clear b2 (o0 + 12)) (fun b3 => Option.bind (St_recover b3 o0 o2) (fun b4 => some b4))))
set_option maxRecDepth 20000 in
theorem t_St_crashBy {T : jT} {xs : List Int} {h : jH}  {o0 : Nat} {v1 : Int} {o2 : Nat} {out : jH} (ho0 : isX9 T o0) (ho2 : isX8 T o2) (H : St_crashBy h o0 v1 o2 = some out) : jEm xs 7 121 [(2, Int.ofNat o0), (0, v1), (2, Int.ofNat o2)] (T, h) ((3, 0), (T, out)) := by
  have hd : 6 ≤ 6 := Nat.le_refl _
  obtain ⟨y, ey⟩ : ∃ y : jV × jS, y = ((3, 0), (T, out)) := ⟨_, rfl⟩
  rw [← ey]
  have HY : ykV T y out := ey
  refine jEm.ent (n := 3) (by decide +kernel) (Nat.le_of_ble_eq_true rfl) ?_
  show jEv xs 6 (121, 0, [(2, Int.ofNat o0), (0, v1), (2, Int.ofNat o2)], []) (T, h) y
  unfold St_crashBy at H
  refine jEv.blk [(.aload_n 0, 1, [])] (by decide +kernel) (pc' := 1) (ls' := [(2, Int.ofNat o0), (0, v1), (2, Int.ofNat o2)]) (st' := [(2, Int.ofNat o0)]) rfl ?_
  refine jEv.gfR (o' := (o0 + 4)) (show jfI 121 1 (.getfield 21) 3 [9, 2, 5, 0, 2068] = true by decide +kernel) (isX9_L ho0) (by decide) (isX9_r2 ho0) ?_
  refine jEv.blk [(.aload_n 0, 1, [])] (by decide +kernel) (pc' := 5) (ls' := [(2, Int.ofNat o0), (0, v1), (2, Int.ofNat o2)]) (st' := [(2, Int.ofNat o0), (2, Int.ofNat (o0 + 4))]) rfl ?_
  refine jEv.gfR (o' := (o0 + 1)) (show jfI 121 5 (.getfield 12) 3 [9, 1, 5, 0, 2065] = true by decide +kernel) (isX9_L ho0) (by decide) (isX9_r1 ho0) ?_
  refine jEv.blk [(.iconst 0, 1, []), (.iload_n 1, 1, [])] (by decide +kernel) (pc' := 10) (ls' := [(2, Int.ofNat o0), (0, v1), (2, Int.ofNat o2)]) (st' := [(0, v1), (0, 0), (2, Int.ofNat (o0 + 1)), (2, Int.ofNat (o0 + 4))]) rfl ?_
  refine jbind H (fun b1 Hb1 H => ?_)
  refine jEv.calV (st' := []) (show jfI 121 10 (.invokevirtual 151) 3 [1, 24, 3, 5086] = true by decide +kernel) rfl (Or.inl rfl) rfl (Nat.le_of_ble_eq_true rfl) (by decide +kernel) (by decide) (isX1_L (isX9_s2 ho0)) ((t_Fl_arrive (T := T) (xs := xs) (isX9_s2 ho0) (isX9_s1 ho0) Hb1).mono (jKle 3 hd)) rfl ?_
  refine jEv.blk [(.aload_n 0, 1, [])] (by decide +kernel) (pc' := 14) (ls' := [(2, Int.ofNat o0), (0, v1), (2, Int.ofNat o2)]) (st' := [(2, Int.ofNat o0)]) rfl ?_
  refine jEv.gfR (o' := (o0 + 4)) (show jfI 121 14 (.getfield 21) 3 [9, 2, 5, 0, 2068] = true by decide +kernel) (isX9_L ho0) (by decide) (isX9_r2 ho0) ?_
  refine jbind H (fun b2 Hb2 H => ?_)
  refine jEv.calV (st' := []) (show jfI 121 17 (.invokevirtual 63) 3 [1, 22, 0, 4079] = true by decide +kernel) rfl (Or.inl rfl) rfl (Nat.le_of_ble_eq_true rfl) (by decide +kernel) (by decide) (isX1_L (isX9_s2 ho0)) ((t_Fl_clear (T := T) (xs := xs) (isX9_s2 ho0) Hb2).mono (jKle 1 hd)) rfl ?_
  refine jEv.blk [(.aload_n 0, 1, [])] (by decide +kernel) (pc' := 21) (ls' := [(2, Int.ofNat o0), (0, v1), (2, Int.ofNat o2)]) (st' := [(2, Int.ofNat o0)]) rfl ?_
  refine jEv.gfR (o' := (o0 + 12)) (show jfI 121 21 (.getfield 35) 3 [9, 4, 5, 0, 2074] = true by decide +kernel) (isX9_L ho0) (by decide) (isX9_r4 ho0) ?_
  refine jbind H (fun b3 Hb3 H => ?_)
  refine jEv.calV (st' := []) (show jfI 121 24 (.invokevirtual 69) 3 [1, 125, 0, 4087] = true by decide +kernel) rfl (Or.inl rfl) rfl (Nat.le_of_ble_eq_true rfl) (by decide +kernel) (by decide) (isX10_L (isX9_s4 ho0)) ((t_Wa_clear (T := T) (xs := xs) (isX9_s4 ho0) Hb3).mono (jKle 1 hd)) rfl ?_
  refine jEv.blk [(.aload_n 0, 1, []), (.aload_n 2, 1, [])] (by decide +kernel) (pc' := 29) (ls' := [(2, Int.ofNat o0), (0, v1), (2, Int.ofNat o2)]) (st' := [(2, Int.ofNat o2), (2, Int.ofNat o0)]) rfl ?_
  refine jbind H (fun b4 Hb4 H => ?_)
  refine jEv.calV (st' := []) (show jfI 121 29 (.invokevirtual 224) 3 [1, 122, 1, 6168] = true by decide +kernel) rfl (Or.inl rfl) rfl (Nat.le_of_ble_eq_true rfl) (by decide +kernel) (by decide) (isX9_L ho0) ((t_St_recover (T := T) (xs := xs) ho0 ho2 Hb4).mono (jKle 6 hd)) rfl ?_
  exact jEv.retV (show jfI 121 32 (.return_) 1 [] = true by decide +kernel) (by decide +kernel) (by cases H; exact HY)
def yk_St_giveUpRest_L44 (T : jT) (xs : List Int) (d : Nat) (y : jV × jS)  (o0 : Nat) (v1 : Int) : ((Int × Int × jH) ⊕ (Int × jH)) → Prop
  | .inl (v2, v3, h) => jEv xs d (123, 44, [(2, Int.ofNat o0), (0, v1), (0, v2), (0, v3), (3, 0)], []) (T, h) y
  | .inr o => ykI T y o
set_option maxRecDepth 20000 in
noncomputable def St_giveUpRest_p105  (h : jH) (o0 : Nat) (v1 : Int) (v2 : Int) (v3 : Int) : Option ((Int × Int × jH) ⊕ (Int × jH)) := Option.bind (Di_wipe h (o0 + 1) v3 0) (fun b14 => some (.inl ((wr (v2 + b14.1)), (wr (v3 + 1)), b14.2)))
set_option maxRecDepth 20000 in
theorem t_St_giveUpRest_p105 {T : jT} {xs : List Int} {d : Nat} {y : jV × jS} (hd : 4 ≤ d) {h : jH}  {o0 : Nat} {v1 : Int} {v2 : Int} {v3 : Int} {out : ((Int × Int × jH) ⊕ (Int × jH))} (ho0 : isX9 T o0) (H : St_giveUpRest_p105 h o0 v1 v2 v3 = some out) (HY : yk_St_giveUpRest_L44 T xs d y o0 v1 out) : jEv xs d (123, 105, [(2, Int.ofNat o0), (0, v1), (0, v2), (0, v3), (3, 0)], []) (T, h) y := by
  unfold St_giveUpRest_p105 at H
  refine jEv.blk [(.iload_n 2, 1, []), (.aload_n 0, 1, [])] (by decide +kernel) (pc' := 107) (ls' := [(2, Int.ofNat o0), (0, v1), (0, v2), (0, v3), (3, 0)]) (st' := [(2, Int.ofNat o0), (0, v2)]) rfl ?_
  refine jEv.gfR (o' := (o0 + 1)) (show jfI 123 107 (.getfield 12) 3 [9, 1, 5, 0, 2065] = true by decide +kernel) (isX9_L ho0) (by decide) (isX9_r1 ho0) ?_
  refine jEv.blk [(.iload_n 3, 1, []), (.iconst 0, 1, [])] (by decide +kernel) (pc' := 112) (ls' := [(2, Int.ofNat o0), (0, v1), (0, v2), (0, v3), (3, 0)]) (st' := [(0, 0), (0, v3), (2, Int.ofNat (o0 + 1)), (0, v2)]) rfl ?_
  refine jbind H (fun b14 Hb14 H => ?_)
  refine jEv.calV (st' := [(0, b14.1), (0, v2)]) (show jfI 123 112 (.invokevirtual 251) 3 [1, 20, 2, 6173] = true by decide +kernel) rfl (Or.inl rfl) rfl (Nat.le_of_ble_eq_true rfl) (by decide +kernel) (by decide) (isX0_L (isX9_s1 ho0)) ((t_Di_wipe (T := T) (xs := xs) (isX9_s1 ho0) Hb14).mono (jKle 3 hd)) rfl ?_
  refine jEv.blk [(.iadd, 1, []), (.istore_n 2, 1, [])] (by decide +kernel) (pc' := 117) (ls' := [(2, Int.ofNat o0), (0, v1), (0, (wr (v2 + b14.1))), (0, v3), (3, 0)]) (st' := []) rfl ?_
  refine jEv.blk [(.iinc 3 1, 3, [])] (by decide +kernel) (pc' := 120) (ls' := [(2, Int.ofNat o0), (0, v1), (0, (wr (v2 + b14.1))), (0, (wr (v3 + 1))), (3, 0)]) (st' := []) rfl ?_
  refine jEv.goto (t := 44) (show jfI 123 120 (.goto (-76)) 3 [] = true by decide +kernel) rfl ?_
  exact (by cases H; exact HY)
set_option maxRecDepth 20000 in
noncomputable def St_giveUpRest_p94  (h : jH) (o0 : Nat) (v1 : Int) (v2 : Int) (v3 : Int) (vs0 : Int) : Option ((Int × Int × jH) ⊕ (Int × jH)) := (if v1 = 0 then St_giveUpRest_p105 h o0 v1 v2 v3 else (if vs0 = 0 then some (.inl (v2, (wr (v3 + 1)), h)) else St_giveUpRest_p105 h o0 v1 v2 v3))
set_option maxRecDepth 20000 in
theorem t_St_giveUpRest_p94 {T : jT} {xs : List Int} {d : Nat} {y : jV × jS} (hd : 4 ≤ d) {h : jH}  {o0 : Nat} {v1 : Int} {v2 : Int} {v3 : Int} {vs0 : Int} {out : ((Int × Int × jH) ⊕ (Int × jH))} (ho0 : isX9 T o0) (H : St_giveUpRest_p94 h o0 v1 v2 v3 vs0 = some out) (HY : yk_St_giveUpRest_L44 T xs d y o0 v1 out) : jEv xs d (123, 94, [(2, Int.ofNat o0), (0, v1), (0, v2), (0, v3), (3, 0)], [(0, vs0)]) (T, h) y := by
  unfold St_giveUpRest_p94 at H
  refine jEv.blk [(.istore 4, 2, []), (.iload_n 1, 1, [])] (by decide +kernel) (pc' := 97) (ls' := [(2, Int.ofNat o0), (0, v1), (0, v2), (0, v3), (0, vs0)]) (st' := [(0, v1)]) rfl ?_
  refine jEv.if_eq (t := 105) (show jfI 123 97 (.ifCond .eq 8) 3 [] = true by decide +kernel) rfl H (fun c12 H => ?_) (fun c12 H => ?_)
  · exact jEv.weak (a := [(2, Int.ofNat o0), (0, v1), (0, v2), (0, v3), (3, 0)]) (jles.c1 (jles.c1 (jles.c1 (jles.c1 (jles.c0 jles.nl))))) (t_St_giveUpRest_p105 (T := T) (xs := xs) (y := y) hd ho0 H HY)
  · refine jEv.blk [(.iload 4, 2, [])] (by decide +kernel) (pc' := 102) (ls' := [(2, Int.ofNat o0), (0, v1), (0, v2), (0, v3), (0, vs0)]) (st' := [(0, vs0)]) rfl ?_
    refine jEv.if_eq (t := 117) (show jfI 123 102 (.ifCond .eq 15) 3 [] = true by decide +kernel) rfl H (fun c13 H => ?_) (fun c13 H => ?_)
    · refine jEv.blk [(.iinc 3 1, 3, [])] (by decide +kernel) (pc' := 120) (ls' := [(2, Int.ofNat o0), (0, v1), (0, v2), (0, (wr (v3 + 1))), (0, vs0)]) (st' := []) rfl ?_
      refine jEv.goto (t := 44) (show jfI 123 120 (.goto (-76)) 3 [] = true by decide +kernel) rfl ?_
      exact jEv.weak (a := [(2, Int.ofNat o0), (0, v1), (0, v2), (0, (wr (v3 + 1))), (3, 0)]) (jles.c1 (jles.c1 (jles.c1 (jles.c1 (jles.c0 jles.nl))))) ((by cases H; exact HY))
    · exact jEv.weak (a := [(2, Int.ofNat o0), (0, v1), (0, v2), (0, v3), (3, 0)]) (jles.c1 (jles.c1 (jles.c1 (jles.c1 (jles.c0 jles.nl))))) (t_St_giveUpRest_p105 (T := T) (xs := xs) (y := y) hd ho0 H HY)
set_option maxRecDepth 20000 in
noncomputable def St_giveUpRest_p93  (h : jH) (o0 : Nat) (v1 : Int) (v2 : Int) (v3 : Int) : Option ((Int × Int × jH) ⊕ (Int × jH)) := St_giveUpRest_p94 h o0 v1 v2 v3 0
set_option maxRecDepth 20000 in
theorem t_St_giveUpRest_p93 {T : jT} {xs : List Int} {d : Nat} {y : jV × jS} (hd : 4 ≤ d) {h : jH}  {o0 : Nat} {v1 : Int} {v2 : Int} {v3 : Int} {out : ((Int × Int × jH) ⊕ (Int × jH))} (ho0 : isX9 T o0) (H : St_giveUpRest_p93 h o0 v1 v2 v3 = some out) (HY : yk_St_giveUpRest_L44 T xs d y o0 v1 out) : jEv xs d (123, 93, [(2, Int.ofNat o0), (0, v1), (0, v2), (0, v3), (3, 0)], []) (T, h) y := by
  unfold St_giveUpRest_p93 at H
  refine jEv.blk [(.iconst 0, 1, [])] (by decide +kernel) (pc' := 94) (ls' := [(2, Int.ofNat o0), (0, v1), (0, v2), (0, v3), (3, 0)]) (st' := [(0, 0)]) rfl ?_
  exact t_St_giveUpRest_p94 (T := T) (xs := xs) (y := y) hd ho0 H HY
set_option maxRecDepth 20000 in
noncomputable def St_giveUpRest_B44  (h : jH) (o0 : Nat) (v1 : Int) (v2 : Int) (v3 : Int) : Option ((Int × Int × jH) ⊕ (Int × jH)) := (if v3 < (h (o0 + 1) 2) then (if v3 = (h o0 10) then St_giveUpRest_p93 h o0 v1 v2 v3 else Option.bind (Di_headStands h (o0 + 1) v3) (fun b6 => (if b6 = 0 then St_giveUpRest_p93 h o0 v1 v2 v3 else Option.bind (Di_serialOf h (o0 + 1) v3) (fun b8 => (if (h o0 12) < b8 then St_giveUpRest_p94 h o0 v1 v2 v3 1 else St_giveUpRest_p93 h o0 v1 v2 v3))))) else Option.map Sum.inr ((if v1 = 0 then Option.bind (St_openAtOnce h o0 (h (o0 + 7) 4)) (fun b11 => some (v2, b11)) else some (v2, h))))
noncomputable def St_giveUpRest_L44  (h : jH) (o0 : Nat) (v1 : Int) (v2 : Int) (v3 : Int) : Option (Int × jH) := jloop (fun s : (Int × Int × jH) => St_giveUpRest_B44 s.2.2 o0 v1 s.1 s.2.1) (v2, v3, h)
set_option maxRecDepth 20000 in
theorem t_St_giveUpRest_B44 {T : jT} {xs : List Int} {d : Nat} {y : jV × jS} (hd : 4 ≤ d) {h : jH}  {o0 : Nat} {v1 : Int} {v2 : Int} {v3 : Int} {out : ((Int × Int × jH) ⊕ (Int × jH))} (ho0 : isX9 T o0) (H : St_giveUpRest_B44 h o0 v1 v2 v3 = some out) (HY : yk_St_giveUpRest_L44 T xs d y o0 v1 out) : jEv xs d (123, 44, [(2, Int.ofNat o0), (0, v1), (0, v2), (0, v3), (3, 0)], []) (T, h) y := by
  unfold St_giveUpRest_B44 at H
  refine jEv.blk [(.iload_n 3, 1, []), (.aload_n 0, 1, [])] (by decide +kernel) (pc' := 46) (ls' := [(2, Int.ofNat o0), (0, v1), (0, v2), (0, v3), (3, 0)]) (st' := [(2, Int.ofNat o0), (0, v3)]) rfl ?_
  refine jEv.gfR (o' := (o0 + 1)) (show jfI 123 46 (.getfield 12) 3 [9, 1, 5, 0, 2065] = true by decide +kernel) (isX9_L ho0) (by decide) (isX9_r1 ho0) ?_
  refine jEv.gfI (show jfI 123 49 (.getfield 254) 3 [0, 2, 0, 0, 1187] = true by decide +kernel) (isX0_L (isX9_s1 ho0)) (by decide) ?_
  refine jEv.ic_ge (t := 123) (show jfI 123 52 (.if_icmp .ge 71) 3 [] = true by decide +kernel) rfl H (fun c4 H => ?_) (fun c4 H => ?_)
  · refine jEv.blk [(.iload_n 3, 1, []), (.aload_n 0, 1, [])] (by decide +kernel) (pc' := 57) (ls' := [(2, Int.ofNat o0), (0, v1), (0, v2), (0, v3), (3, 0)]) (st' := [(2, Int.ofNat o0), (0, v3)]) rfl ?_
    refine jEv.gfI (show jfI 123 57 (.getfield 104) 3 [9, 10, 0, 0, 2087] = true by decide +kernel) (isX9_L ho0) (by decide) ?_
    refine jEv.ic_eq (t := 93) (show jfI 123 60 (.if_icmp .eq 33) 3 [] = true by decide +kernel) rfl H (fun c5 H => ?_) (fun c5 H => ?_)
    · exact t_St_giveUpRest_p93 (T := T) (xs := xs) (y := y) hd ho0 H HY
    · refine jEv.blk [(.aload_n 0, 1, [])] (by decide +kernel) (pc' := 64) (ls' := [(2, Int.ofNat o0), (0, v1), (0, v2), (0, v3), (3, 0)]) (st' := [(2, Int.ofNat o0)]) rfl ?_
      refine jEv.gfR (o' := (o0 + 1)) (show jfI 123 64 (.getfield 12) 3 [9, 1, 5, 0, 2065] = true by decide +kernel) (isX9_L ho0) (by decide) (isX9_r1 ho0) ?_
      refine jEv.blk [(.iload_n 3, 1, [])] (by decide +kernel) (pc' := 68) (ls' := [(2, Int.ofNat o0), (0, v1), (0, v2), (0, v3), (3, 0)]) (st' := [(0, v3), (2, Int.ofNat (o0 + 1))]) rfl ?_
      refine jbind H (fun b6 Hb6 H => ?_)
      refine jEv.calV (st' := [(0, b6)]) (show jfI 123 68 (.invokevirtual 257) 3 [1, 8, 1, 6185] = true by decide +kernel) rfl (Or.inl rfl) rfl (Nat.le_of_ble_eq_true rfl) (by decide +kernel) (by decide) (isX0_L (isX9_s1 ho0)) ((t_Di_headStands (T := T) (xs := xs) (isX9_s1 ho0) Hb6).mono (jKle 3 hd)) rfl ?_
      refine jEv.if_eq (t := 93) (show jfI 123 71 (.ifCond .eq 22) 3 [] = true by decide +kernel) rfl H (fun c7 H => ?_) (fun c7 H => ?_)
      · exact t_St_giveUpRest_p93 (T := T) (xs := xs) (y := y) hd ho0 H HY
      · refine jEv.blk [(.aload_n 0, 1, [])] (by decide +kernel) (pc' := 75) (ls' := [(2, Int.ofNat o0), (0, v1), (0, v2), (0, v3), (3, 0)]) (st' := [(2, Int.ofNat o0)]) rfl ?_
        refine jEv.gfR (o' := (o0 + 1)) (show jfI 123 75 (.getfield 12) 3 [9, 1, 5, 0, 2065] = true by decide +kernel) (isX9_L ho0) (by decide) (isX9_r1 ho0) ?_
        refine jEv.blk [(.iload_n 3, 1, [])] (by decide +kernel) (pc' := 79) (ls' := [(2, Int.ofNat o0), (0, v1), (0, v2), (0, v3), (3, 0)]) (st' := [(0, v3), (2, Int.ofNat (o0 + 1))]) rfl ?_
        refine jbind H (fun b8 Hb8 H => ?_)
        refine jEv.calV (st' := [(0, b8)]) (show jfI 123 79 (.invokevirtual 261) 3 [1, 10, 1, 6186] = true by decide +kernel) rfl (Or.inl rfl) rfl (Nat.le_of_ble_eq_true rfl) (by decide +kernel) (by decide) (isX0_L (isX9_s1 ho0)) ((t_Di_serialOf (T := T) (xs := xs) (isX9_s1 ho0) Hb8).mono (jKle 2 hd)) rfl ?_
        refine jEv.blk [(.aload_n 0, 1, [])] (by decide +kernel) (pc' := 83) (ls' := [(2, Int.ofNat o0), (0, v1), (0, v2), (0, v3), (3, 0)]) (st' := [(2, Int.ofNat o0), (0, b8)]) rfl ?_
        refine jEv.gfI (show jfI 123 83 (.getfield 110) 3 [9, 12, 0, 0, 2093] = true by decide +kernel) (isX9_L ho0) (by decide) ?_
        refine jEv.ic_le (t := 93) (show jfI 123 86 (.if_icmp .le 7) 3 [] = true by decide +kernel) rfl H (fun c9 H => ?_) (fun c9 H => ?_)
        · refine jEv.blk [(.iconst 1, 1, [])] (by decide +kernel) (pc' := 90) (ls' := [(2, Int.ofNat o0), (0, v1), (0, v2), (0, v3), (3, 0)]) (st' := [(0, 1)]) rfl ?_
          refine jEv.goto (t := 94) (show jfI 123 90 (.goto 4) 3 [] = true by decide +kernel) rfl ?_
          exact t_St_giveUpRest_p94 (T := T) (xs := xs) (y := y) hd ho0 H HY
        · exact t_St_giveUpRest_p93 (T := T) (xs := xs) (y := y) hd ho0 H HY
  · refine jmapr H HY (fun out H (HY : ykI T y out) => ?_)
    refine jEv.blk [(.iload_n 1, 1, [])] (by decide +kernel) (pc' := 124) (ls' := [(2, Int.ofNat o0), (0, v1), (0, v2), (0, v3), (3, 0)]) (st' := [(0, v1)]) rfl ?_
    refine jEv.if_ne (t := 138) (show jfI 123 124 (.ifCond .ne 14) 3 [] = true by decide +kernel) rfl H (fun c10 H => ?_) (fun c10 H => ?_)
    · refine jEv.blk [(.aload_n 0, 1, []), (.aload_n 0, 1, [])] (by decide +kernel) (pc' := 129) (ls' := [(2, Int.ofNat o0), (0, v1), (0, v2), (0, v3), (3, 0)]) (st' := [(2, Int.ofNat o0), (2, Int.ofNat o0)]) rfl ?_
      refine jEv.gfR (o' := (o0 + 7)) (show jfI 123 129 (.getfield 28) 3 [9, 3, 5, 0, 2071] = true by decide +kernel) (isX9_L ho0) (by decide) (isX9_r3 ho0) ?_
      refine jEv.gfI (show jfI 123 132 (.getfield 172) 3 [7, 4, 0, 0, 2009] = true by decide +kernel) (isX7_L (isX9_s3 ho0)) (by decide) ?_
      refine jbind H (fun b11 Hb11 H => ?_)
      refine jEv.calV (st' := []) (show jfI 123 135 (.invokevirtual 264) 3 [1, 110, 1, 6187] = true by decide +kernel) rfl (Or.inl rfl) rfl (Nat.le_of_ble_eq_true rfl) (by decide +kernel) (by decide) (isX9_L ho0) ((t_St_openAtOnce (T := T) (xs := xs) ho0 Hb11).mono (jKle 4 hd)) rfl ?_
      refine jEv.blk [(.iload_n 2, 1, [])] (by decide +kernel) (pc' := 139) (ls' := [(2, Int.ofNat o0), (0, v1), (0, v2), (0, v3), (3, 0)]) (st' := [(0, v2)]) rfl ?_
      exact jEv.retI (show jfI 123 139 (.ireturn) 1 [] = true by decide +kernel) (by decide +kernel) (by cases H; exact HY)
    · refine jEv.blk [(.iload_n 2, 1, [])] (by decide +kernel) (pc' := 139) (ls' := [(2, Int.ofNat o0), (0, v1), (0, v2), (0, v3), (3, 0)]) (st' := [(0, v2)]) rfl ?_
      exact jEv.retI (show jfI 123 139 (.ireturn) 1 [] = true by decide +kernel) (by decide +kernel) (by cases H; exact HY)
theorem t_St_giveUpRest_L44 {T : jT} {xs : List Int} {d : Nat} {y : jV × jS} (hd : 4 ≤ d) {h : jH}  {o0 : Nat} {v1 : Int} {v2 : Int} {v3 : Int} {out : (Int × jH)} (ho0 : isX9 T o0) (H : St_giveUpRest_L44 h o0 v1 v2 v3 = some out) (HY : ykI T y out) : jEv xs d (123, 44, [(2, Int.ofNat o0), (0, v1), (0, v2), (0, v3), (3, 0)], []) (T, h) y :=
  jloop_sound (G := fun s : (Int × Int × jH) => jEv xs d (123, 44, [(2, Int.ofNat o0), (0, v1), (0, s.1), (0, s.2.1), (3, 0)], []) (T, s.2.2) y) (K := yk_St_giveUpRest_L44 T xs d y o0 v1) (fun s out H HY => t_St_giveUpRest_B44 hd ho0 H HY) (fun s' hg => hg) (s := (v2, v3, h)) H HY
set_option maxRecDepth 20000 in
noncomputable def St_giveUpRest_p41  (h : jH) (o0 : Nat) (v1 : Int) (vs0 : Int) : Option (Int × jH) := St_giveUpRest_L44 h o0 v1 vs0 0
set_option maxRecDepth 20000 in
theorem t_St_giveUpRest_p41 {T : jT} {xs : List Int} {d : Nat} {y : jV × jS} (hd : 4 ≤ d) {h : jH}  {o0 : Nat} {v1 : Int} {vs0 : Int} {out : (Int × jH)} (ho0 : isX9 T o0) (H : St_giveUpRest_p41 h o0 v1 vs0 = some out) (HY : ykI T y out) : jEv xs d (123, 41, [(2, Int.ofNat o0), (0, v1), (3, 0), (3, 0), (3, 0)], [(0, vs0)]) (T, h) y := by
  unfold St_giveUpRest_p41 at H
  refine jEv.blk [(.istore_n 2, 1, []), (.iconst 0, 1, []), (.istore_n 3, 1, [])] (by decide +kernel) (pc' := 44) (ls' := [(2, Int.ofNat o0), (0, v1), (0, vs0), (0, 0), (3, 0)]) (st' := []) rfl ?_
  exact t_St_giveUpRest_L44 (T := T) (xs := xs) (y := y) hd ho0 H HY
set_option maxRecDepth 20000 in
noncomputable def St_giveUpRest_p17  (h : jH) (o0 : Nat) (vs0 : Int) : Option (Int × jH) := (if vs0 = 0 then St_giveUpRest_p41 h o0 vs0 0 else Option.bind (Di_wipe h (o0 + 1) (h o0 10) (h o0 11)) (fun b3 => St_giveUpRest_p41 b3.2 o0 vs0 b3.1))
set_option maxRecDepth 20000 in
theorem t_St_giveUpRest_p17 {T : jT} {xs : List Int} {d : Nat} {y : jV × jS} (hd : 4 ≤ d) {h : jH}  {o0 : Nat} {vs0 : Int} {out : (Int × jH)} (ho0 : isX9 T o0) (H : St_giveUpRest_p17 h o0 vs0 = some out) (HY : ykI T y out) : jEv xs d (123, 17, [(2, Int.ofNat o0), (3, 0), (3, 0), (3, 0), (3, 0)], [(0, vs0)]) (T, h) y := by
  unfold St_giveUpRest_p17 at H
  refine jEv.blk [(.istore_n 1, 1, []), (.iload_n 1, 1, [])] (by decide +kernel) (pc' := 19) (ls' := [(2, Int.ofNat o0), (0, vs0), (3, 0), (3, 0), (3, 0)]) (st' := [(0, vs0)]) rfl ?_
  refine jEv.if_eq (t := 40) (show jfI 123 19 (.ifCond .eq 21) 3 [] = true by decide +kernel) rfl H (fun c2 H => ?_) (fun c2 H => ?_)
  · refine jEv.blk [(.iconst 0, 1, [])] (by decide +kernel) (pc' := 41) (ls' := [(2, Int.ofNat o0), (0, vs0), (3, 0), (3, 0), (3, 0)]) (st' := [(0, 0)]) rfl ?_
    exact t_St_giveUpRest_p41 (T := T) (xs := xs) (y := y) hd ho0 H HY
  · refine jEv.blk [(.aload_n 0, 1, [])] (by decide +kernel) (pc' := 23) (ls' := [(2, Int.ofNat o0), (0, vs0), (3, 0), (3, 0), (3, 0)]) (st' := [(2, Int.ofNat o0)]) rfl ?_
    refine jEv.gfR (o' := (o0 + 1)) (show jfI 123 23 (.getfield 12) 3 [9, 1, 5, 0, 2065] = true by decide +kernel) (isX9_L ho0) (by decide) (isX9_r1 ho0) ?_
    refine jEv.blk [(.aload_n 0, 1, [])] (by decide +kernel) (pc' := 27) (ls' := [(2, Int.ofNat o0), (0, vs0), (3, 0), (3, 0), (3, 0)]) (st' := [(2, Int.ofNat o0), (2, Int.ofNat (o0 + 1))]) rfl ?_
    refine jEv.gfI (show jfI 123 27 (.getfield 104) 3 [9, 10, 0, 0, 2087] = true by decide +kernel) (isX9_L ho0) (by decide) ?_
    refine jEv.blk [(.aload_n 0, 1, [])] (by decide +kernel) (pc' := 31) (ls' := [(2, Int.ofNat o0), (0, vs0), (3, 0), (3, 0), (3, 0)]) (st' := [(2, Int.ofNat o0), (0, (h o0 10)), (2, Int.ofNat (o0 + 1))]) rfl ?_
    refine jEv.gfI (show jfI 123 31 (.getfield 107) 3 [9, 11, 0, 0, 2090] = true by decide +kernel) (isX9_L ho0) (by decide) ?_
    refine jbind H (fun b3 Hb3 H => ?_)
    refine jEv.calV (st' := [(0, b3.1)]) (show jfI 123 34 (.invokevirtual 251) 3 [1, 20, 2, 6173] = true by decide +kernel) rfl (Or.inl rfl) rfl (Nat.le_of_ble_eq_true rfl) (by decide +kernel) (by decide) (isX0_L (isX9_s1 ho0)) ((t_Di_wipe (T := T) (xs := xs) (isX9_s1 ho0) Hb3).mono (jKle 3 hd)) rfl ?_
    refine jEv.goto (t := 41) (show jfI 123 37 (.goto 4) 3 [] = true by decide +kernel) rfl ?_
    exact t_St_giveUpRest_p41 (T := T) (xs := xs) (y := y) hd ho0 H HY
set_option maxRecDepth 20000 in
noncomputable def St_giveUpRest  (h : jH) (o0 : Nat) : Option (Int × jH) := (if ((jup h o0 14 0) o0 12) = 0 then St_giveUpRest_p17 (jup h o0 14 0) o0 0 else St_giveUpRest_p17 (jup h o0 14 0) o0 1)
set_option maxRecDepth 20000 in
theorem t_St_giveUpRest {T : jT} {xs : List Int} {h : jH}  {o0 : Nat} {out : (Int × jH)} (ho0 : isX9 T o0) (H : St_giveUpRest h o0 = some out) : jEm xs 5 123 [(2, Int.ofNat o0)] (T, h) ((0, out.1), (T, out.2)) := by
  have hd : 4 ≤ 4 := Nat.le_refl _
  obtain ⟨y, ey⟩ : ∃ y : jV × jS, y = ((0, out.1), (T, out.2)) := ⟨_, rfl⟩
  rw [← ey]
  have HY : ykI T y out := ey
  refine jEm.ent (n := 5) (by decide +kernel) (Nat.le_of_ble_eq_true rfl) ?_
  show jEv xs 4 (123, 0, [(2, Int.ofNat o0), (3, 0), (3, 0), (3, 0), (3, 0)], []) (T, h) y
  unfold St_giveUpRest at H
  refine jEv.blk [(.aload_n 0, 1, []), (.iconst 0, 1, [])] (by decide +kernel) (pc' := 2) (ls' := [(2, Int.ofNat o0), (3, 0), (3, 0), (3, 0), (3, 0)]) (st' := [(0, 0), (2, Int.ofNat o0)]) rfl ?_
  refine jEv.pfZ (show jfI 123 2 (.putfield 83) 3 [9, 14, 0, 1, 2098] = true by decide +kernel) (isX9_L ho0) (by decide) (by decide) ?_
  refine jEv.blk [(.aload_n 0, 1, [])] (by decide +kernel) (pc' := 6) (ls' := [(2, Int.ofNat o0), (3, 0), (3, 0), (3, 0), (3, 0)]) (st' := [(2, Int.ofNat o0)]) rfl ?_
  refine jEv.gfI (show jfI 123 6 (.getfield 110) 3 [9, 12, 0, 0, 2093] = true by decide +kernel) (isX9_L ho0) (by decide) ?_
  refine jEv.if_eq (t := 16) (show jfI 123 9 (.ifCond .eq 7) 3 [] = true by decide +kernel) rfl H (fun c1 H => ?_) (fun c1 H => ?_)
  · refine jEv.blk [(.iconst 0, 1, [])] (by decide +kernel) (pc' := 17) (ls' := [(2, Int.ofNat o0), (3, 0), (3, 0), (3, 0), (3, 0)]) (st' := [(0, 0)]) rfl ?_
    exact t_St_giveUpRest_p17 (T := T) (xs := xs) (y := y) hd ho0 H HY
  · refine jEv.blk [(.iconst 1, 1, [])] (by decide +kernel) (pc' := 13) (ls' := [(2, Int.ofNat o0), (3, 0), (3, 0), (3, 0), (3, 0)]) (st' := [(0, 1)]) rfl ?_
    refine jEv.goto (t := 17) (show jfI 123 13 (.goto 4) 3 [] = true by decide +kernel) rfl ?_
    exact t_St_giveUpRest_p17 (T := T) (xs := xs) (y := y) hd ho0 H HY
set_option maxRecDepth 20000 in
noncomputable def Wa_told  (h : jH) (o0 : Nat) : Option Int := some (min (h o0 6) 40)
set_option maxRecDepth 20000 in
theorem t_Wa_told {T : jT} {xs : List Int} {h : jH}  {o0 : Nat} {out : Int} (ho0 : isX10 T o0) (H : Wa_told h o0 = some out) : jEm xs 2 127 [(2, Int.ofNat o0)] (T, h) ((0, out), (T, h)) := by
  have hd : 1 ≤ 1 := Nat.le_refl _
  obtain ⟨y, ey⟩ : ∃ y : jV × jS, y = ((0, out), (T, h)) := ⟨_, rfl⟩
  rw [← ey]
  have HY : ykIp T h y out := ey
  refine jEm.ent (n := 1) (by decide +kernel) (Nat.le_of_ble_eq_true rfl) ?_
  show jEv xs 1 (127, 0, [(2, Int.ofNat o0)], []) (T, h) y
  unfold Wa_told at H
  refine jEv.blk [(.aload_n 0, 1, [])] (by decide +kernel) (pc' := 1) (ls' := [(2, Int.ofNat o0)]) (st' := [(2, Int.ofNat o0)]) rfl ?_
  refine jEv.gfI (show jfI 127 1 (.getfield 31) 3 [10, 6, 0, 0, 2045] = true by decide +kernel) (isX10_L ho0) (by decide) ?_
  refine jEv.blk [(.bipush 40, 2, [])] (by decide +kernel) (pc' := 6) (ls' := [(2, Int.ofNat o0)]) (st' := [(0, 40), (0, (h o0 6))]) rfl ?_
  refine jEv.calS (st' := [(0, (min (h o0 6) 40))]) (show jfI 127 6 (.invokestatic 50) 3 [3, 360, 2, 4159] = true by decide +kernel) rfl (Or.inl rfl) rfl (Nat.le_of_ble_eq_true rfl) ((t_JMath_min_0 (T := T) (xs := xs)).mono (jKle 1 hd)) rfl ?_
  exact jEv.retI (show jfI 127 9 (.ireturn) 1 [] = true by decide +kernel) (by decide +kernel) (by cases H; exact HY)
def yk_Wa_awaitedBy_L2 (T : jT) (xs : List Int) (d : Nat) (y : jV × jS) (h : jH)  (o0 : Nat) (v1 : Int) : (Int ⊕ Int) → Prop
  | .inl v2 => jEv xs d (128, 2, [(2, Int.ofNat o0), (0, v1), (0, v2)], []) (T, h) y
  | .inr o => ykIp T h y o
set_option maxRecDepth 20000 in
noncomputable def Wa_awaitedBy_B2  (h : jH) (o0 : Nat) (v1 : Int) (v2 : Int) : Option (Int ⊕ Int) := (if v2 < (h o0 2) then Option.bind (G_cell h (o0 + 1) 8 v2) (fun b2 => (if b2 = v1 then Option.map Sum.inr (Option.bind (G_cell h (o0 + 2) 8 v2) (fun b4 => some b4)) else some (.inl ((wr (v2 + 1)))))) else Option.map Sum.inr (some (-1)))
noncomputable def Wa_awaitedBy_L2  (h : jH) (o0 : Nat) (v1 : Int) (v2 : Int) : Option Int := jloop (fun s : Int => Wa_awaitedBy_B2 h o0 v1 s) (v2)
set_option maxRecDepth 20000 in
theorem t_Wa_awaitedBy_B2 {T : jT} {xs : List Int} {d : Nat} {y : jV × jS} (hd : 1 ≤ d) {h : jH}  {o0 : Nat} {v1 : Int} {v2 : Int} {out : (Int ⊕ Int)} (ho0 : isX10 T o0) (H : Wa_awaitedBy_B2 h o0 v1 v2 = some out) (HY : yk_Wa_awaitedBy_L2 T xs d y h o0 v1 out) : jEv xs d (128, 2, [(2, Int.ofNat o0), (0, v1), (0, v2)], []) (T, h) y := by
  unfold Wa_awaitedBy_B2 at H
  refine jEv.blk [(.iload_n 2, 1, []), (.aload_n 0, 1, [])] (by decide +kernel) (pc' := 4) (ls' := [(2, Int.ofNat o0), (0, v1), (0, v2)]) (st' := [(2, Int.ofNat o0), (0, v2)]) rfl ?_
  refine jEv.gfI (show jfI 128 4 (.getfield 27) 3 [10, 2, 0, 0, 2039] = true by decide +kernel) (isX10_L ho0) (by decide) ?_
  refine jEv.ic_ge (t := 37) (show jfI 128 7 (.if_icmp .ge 30) 3 [] = true by decide +kernel) rfl H (fun c1 H => ?_) (fun c1 H => ?_)
  · refine jEv.blk [(.aload_n 0, 1, [])] (by decide +kernel) (pc' := 11) (ls' := [(2, Int.ofNat o0), (0, v1), (0, v2)]) (st' := [(2, Int.ofNat o0)]) rfl ?_
    refine jEv.gfR (o' := (o0 + 1)) (show jfI 128 11 (.getfield 9) 3 [10, 0, 5, 0, 2037] = true by decide +kernel) (isX10_L ho0) (by decide) (isX10_r0 ho0) ?_
    refine jEv.blk [(.iload_n 2, 1, [])] (by decide +kernel) (pc' := 15) (ls' := [(2, Int.ofNat o0), (0, v1), (0, v2)]) (st' := [(0, v2), (2, Int.ofNat (o0 + 1))]) rfl ?_
    refine jbind H (fun b2 Hb2 H => ?_)
    refine jEv.calS (st' := [(0, b2)]) (show jfI 128 15 (.invokestatic 42) 3 [4, 137, 2, 5033] = true by decide +kernel) rfl (Or.inr rfl) rfl (Nat.le_of_ble_eq_true rfl) ((t_G_cell (T := T) (xs := xs) (isX10_a0 ho0) Hb2).mono (jKle 1 hd)) rfl ?_
    refine jEv.blk [(.iload_n 1, 1, [])] (by decide +kernel) (pc' := 19) (ls' := [(2, Int.ofNat o0), (0, v1), (0, v2)]) (st' := [(0, v1), (0, b2)]) rfl ?_
    refine jEv.ic_ne (t := 31) (show jfI 128 19 (.if_icmp .ne 12) 3 [] = true by decide +kernel) rfl H (fun c3 H => ?_) (fun c3 H => ?_)
    · refine jmapr H HY (fun out H (HY : ykIp T h y out) => ?_)
      refine jEv.blk [(.aload_n 0, 1, [])] (by decide +kernel) (pc' := 23) (ls' := [(2, Int.ofNat o0), (0, v1), (0, v2)]) (st' := [(2, Int.ofNat o0)]) rfl ?_
      refine jEv.gfR (o' := (o0 + 2)) (show jfI 128 23 (.getfield 15) 3 [10, 1, 5, 0, 2038] = true by decide +kernel) (isX10_L ho0) (by decide) (isX10_r1 ho0) ?_
      refine jEv.blk [(.iload_n 2, 1, [])] (by decide +kernel) (pc' := 27) (ls' := [(2, Int.ofNat o0), (0, v1), (0, v2)]) (st' := [(0, v2), (2, Int.ofNat (o0 + 2))]) rfl ?_
      refine jbind H (fun b4 Hb4 H => ?_)
      refine jEv.calS (st' := [(0, b4)]) (show jfI 128 27 (.invokestatic 42) 3 [4, 137, 2, 5033] = true by decide +kernel) rfl (Or.inr rfl) rfl (Nat.le_of_ble_eq_true rfl) ((t_G_cell (T := T) (xs := xs) (isX10_a1 ho0) Hb4).mono (jKle 1 hd)) rfl ?_
      exact jEv.retI (show jfI 128 30 (.ireturn) 1 [] = true by decide +kernel) (by decide +kernel) (by cases H; exact HY)
    · refine jEv.blk [(.iinc 2 1, 3, [])] (by decide +kernel) (pc' := 34) (ls' := [(2, Int.ofNat o0), (0, v1), (0, (wr (v2 + 1)))]) (st' := []) rfl ?_
      refine jEv.goto (t := 2) (show jfI 128 34 (.goto (-32)) 3 [] = true by decide +kernel) rfl ?_
      exact (by cases H; exact HY)
  · refine jmapr H HY (fun out H (HY : ykIp T h y out) => ?_)
    refine jEv.blk [(.iconst (-1), 1, [])] (by decide +kernel) (pc' := 38) (ls' := [(2, Int.ofNat o0), (0, v1), (0, v2)]) (st' := [(0, (-1))]) rfl ?_
    exact jEv.retI (show jfI 128 38 (.ireturn) 1 [] = true by decide +kernel) (by decide +kernel) (by cases H; exact HY)
theorem t_Wa_awaitedBy_L2 {T : jT} {xs : List Int} {d : Nat} {y : jV × jS} (hd : 1 ≤ d) {h : jH}  {o0 : Nat} {v1 : Int} {v2 : Int} {out : Int} (ho0 : isX10 T o0) (H : Wa_awaitedBy_L2 h o0 v1 v2 = some out) (HY : ykIp T h y out) : jEv xs d (128, 2, [(2, Int.ofNat o0), (0, v1), (0, v2)], []) (T, h) y :=
  jloop_sound (G := fun s : Int => jEv xs d (128, 2, [(2, Int.ofNat o0), (0, v1), (0, s)], []) (T, h) y) (K := yk_Wa_awaitedBy_L2 T xs d y h o0 v1) (fun s out H HY => t_Wa_awaitedBy_B2 hd ho0 H HY) (fun s' hg => hg) (s := (v2)) H HY
set_option maxRecDepth 20000 in
noncomputable def Wa_awaitedBy  (h : jH) (o0 : Nat) (v1 : Int) : Option Int := Wa_awaitedBy_L2 h o0 v1 0
set_option maxRecDepth 20000 in
theorem t_Wa_awaitedBy {T : jT} {xs : List Int} {h : jH}  {o0 : Nat} {v1 : Int} {out : Int} (ho0 : isX10 T o0) (H : Wa_awaitedBy h o0 v1 = some out) : jEm xs 2 128 [(2, Int.ofNat o0), (0, v1)] (T, h) ((0, out), (T, h)) := by
  have hd : 1 ≤ 1 := Nat.le_refl _
  obtain ⟨y, ey⟩ : ∃ y : jV × jS, y = ((0, out), (T, h)) := ⟨_, rfl⟩
  rw [← ey]
  have HY : ykIp T h y out := ey
  refine jEm.ent (n := 3) (by decide +kernel) (Nat.le_of_ble_eq_true rfl) ?_
  show jEv xs 1 (128, 0, [(2, Int.ofNat o0), (0, v1), (3, 0)], []) (T, h) y
  unfold Wa_awaitedBy at H
  refine jEv.blk [(.iconst 0, 1, []), (.istore_n 2, 1, [])] (by decide +kernel) (pc' := 2) (ls' := [(2, Int.ofNat o0), (0, v1), (0, 0)]) (st' := []) rfl ?_
  exact t_Wa_awaitedBy_L2 (T := T) (xs := xs) (y := y) hd ho0 H HY
set_option maxRecDepth 20000 in
noncomputable def Wa_keptAt  (h : jH) (o0 : Nat) (v1 : Int) (v2 : Int) : Option Int := (if v1 < 0 then some (-1) else Option.bind (Wa_told h o0) (fun b2 => (if v1 < b2 then Option.bind (Wa_told h o0) (fun b4 => (if v2 = 0 then Option.bind (G_cell h (o0 + 3) 40 (Int.tmod (wr ((wr ((h o0 6) - b4)) + v1)) 40)) (fun b6 => some b6) else (if v2 = 1 then Option.bind (G_cell h (o0 + 4) 40 (Int.tmod (wr ((wr ((h o0 6) - b4)) + v1)) 40)) (fun b8 => some b8) else (if v2 = 2 then Option.bind (G_cell h (o0 + 5) 40 (Int.tmod (wr ((wr ((h o0 6) - b4)) + v1)) 40)) (fun b10 => some b10) else some (-1))))) else some (-1))))
set_option maxRecDepth 20000 in
theorem t_Wa_keptAt {T : jT} {xs : List Int} {h : jH}  {o0 : Nat} {v1 : Int} {v2 : Int} {out : Int} (ho0 : isX10 T o0) (H : Wa_keptAt h o0 v1 v2 = some out) : jEm xs 3 129 [(2, Int.ofNat o0), (0, v1), (0, v2)] (T, h) ((0, out), (T, h)) := by
  have hd : 2 ≤ 2 := Nat.le_refl _
  obtain ⟨y, ey⟩ : ∃ y : jV × jS, y = ((0, out), (T, h)) := ⟨_, rfl⟩
  rw [← ey]
  have HY : ykIp T h y out := ey
  refine jEm.ent (n := 4) (by decide +kernel) (Nat.le_of_ble_eq_true rfl) ?_
  show jEv xs 2 (129, 0, [(2, Int.ofNat o0), (0, v1), (0, v2), (3, 0)], []) (T, h) y
  unfold Wa_keptAt at H
  refine jEv.blk [(.iload_n 1, 1, [])] (by decide +kernel) (pc' := 1) (ls' := [(2, Int.ofNat o0), (0, v1), (0, v2), (3, 0)]) (st' := [(0, v1)]) rfl ?_
  refine jEv.if_lt (t := 12) (show jfI 129 1 (.ifCond .lt 11) 3 [] = true by decide +kernel) rfl H (fun c1 H => ?_) (fun c1 H => ?_)
  · refine jEv.blk [(.iconst (-1), 1, [])] (by decide +kernel) (pc' := 13) (ls' := [(2, Int.ofNat o0), (0, v1), (0, v2), (3, 0)]) (st' := [(0, (-1))]) rfl ?_
    exact jEv.retI (show jfI 129 13 (.ireturn) 1 [] = true by decide +kernel) (by decide +kernel) (by cases H; exact HY)
  · refine jEv.blk [(.iload_n 1, 1, []), (.aload_n 0, 1, [])] (by decide +kernel) (pc' := 6) (ls' := [(2, Int.ofNat o0), (0, v1), (0, v2), (3, 0)]) (st' := [(2, Int.ofNat o0), (0, v1)]) rfl ?_
    refine jbind H (fun b2 Hb2 H => ?_)
    refine jEv.calV (st' := [(0, b2), (0, v1)]) (show jfI 129 6 (.invokevirtual 56) 3 [1, 127, 0, 5042] = true by decide +kernel) rfl (Or.inl rfl) rfl (Nat.le_of_ble_eq_true rfl) (by decide +kernel) (by decide) (isX10_L ho0) ((t_Wa_told (T := T) (xs := xs) ho0 Hb2).mono (jKle 2 hd)) rfl ?_
    refine jEv.ic_lt (t := 14) (show jfI 129 9 (.if_icmp .lt 5) 3 [] = true by decide +kernel) rfl H (fun c3 H => ?_) (fun c3 H => ?_)
    · refine jEv.blk [(.aload_n 0, 1, [])] (by decide +kernel) (pc' := 15) (ls' := [(2, Int.ofNat o0), (0, v1), (0, v2), (3, 0)]) (st' := [(2, Int.ofNat o0)]) rfl ?_
      refine jEv.gfI (show jfI 129 15 (.getfield 31) 3 [10, 6, 0, 0, 2045] = true by decide +kernel) (isX10_L ho0) (by decide) ?_
      refine jEv.blk [(.aload_n 0, 1, [])] (by decide +kernel) (pc' := 19) (ls' := [(2, Int.ofNat o0), (0, v1), (0, v2), (3, 0)]) (st' := [(2, Int.ofNat o0), (0, (h o0 6))]) rfl ?_
      refine jbind H (fun b4 Hb4 H => ?_)
      refine jEv.calV (st' := [(0, b4), (0, (h o0 6))]) (show jfI 129 19 (.invokevirtual 56) 3 [1, 127, 0, 5042] = true by decide +kernel) rfl (Or.inl rfl) rfl (Nat.le_of_ble_eq_true rfl) (by decide +kernel) (by decide) (isX10_L ho0) ((t_Wa_told (T := T) (xs := xs) ho0 Hb4).mono (jKle 2 hd)) rfl ?_
      refine jEv.blk [(.isub, 1, []), (.iload_n 1, 1, []), (.iadd, 1, []), (.bipush 40, 2, [])] (by decide +kernel) (pc' := 27) (ls' := [(2, Int.ofNat o0), (0, v1), (0, v2), (3, 0)]) (st' := [(0, 40), (0, (wr ((wr ((h o0 6) - b4)) + v1)))]) rfl ?_
      refine jEv.irem (show jfI 129 27 (.irem) 1 [] = true by decide +kernel) (by decide) ?_
      refine jEv.blk [(.istore_n 3, 1, []), (.iload_n 2, 1, [])] (by decide +kernel) (pc' := 30) (ls' := [(2, Int.ofNat o0), (0, v1), (0, v2), (0, (Int.tmod (wr ((wr ((h o0 6) - b4)) + v1)) 40))]) (st' := [(0, v2)]) rfl ?_
      refine jite H (fun c5 H => ?_) (fun c5 H => ?_)
      · refine jEv.tsI (v := 0) (off := 26) (t := 56) (show jfI 129 30 (.tableswitch 53 0 2 #[26, 35, 44]) 26 [] = true by decide +kernel) c5 (by decide) (by decide) rfl (by decide) ?_
        refine jEv.blk [(.aload_n 0, 1, [])] (by decide +kernel) (pc' := 57) (ls' := [(2, Int.ofNat o0), (0, v1), (0, v2), (0, (Int.tmod (wr ((wr ((h o0 6) - b4)) + v1)) 40))]) (st' := [(2, Int.ofNat o0)]) rfl ?_
        refine jEv.gfR (o' := (o0 + 3)) (show jfI 129 57 (.getfield 18) 3 [10, 3, 5, 0, 2042] = true by decide +kernel) (isX10_L ho0) (by decide) (isX10_r3 ho0) ?_
        refine jEv.blk [(.iload_n 3, 1, [])] (by decide +kernel) (pc' := 61) (ls' := [(2, Int.ofNat o0), (0, v1), (0, v2), (0, (Int.tmod (wr ((wr ((h o0 6) - b4)) + v1)) 40))]) (st' := [(0, (Int.tmod (wr ((wr ((h o0 6) - b4)) + v1)) 40)), (2, Int.ofNat (o0 + 3))]) rfl ?_
        refine jbind H (fun b6 Hb6 H => ?_)
        refine jEv.calS (st' := [(0, b6)]) (show jfI 129 61 (.invokestatic 42) 3 [4, 137, 2, 5033] = true by decide +kernel) rfl (Or.inr rfl) rfl (Nat.le_of_ble_eq_true rfl) ((t_G_cell (T := T) (xs := xs) (isX10_a3 ho0) Hb6).mono (jKle 1 hd)) rfl ?_
        exact jEv.retI (show jfI 129 64 (.ireturn) 1 [] = true by decide +kernel) (by decide +kernel) (by cases H; exact HY)
      · refine jite H (fun c7 H => ?_) (fun c7 H => ?_)
        · refine jEv.tsI (v := 1) (off := 35) (t := 65) (show jfI 129 30 (.tableswitch 53 0 2 #[26, 35, 44]) 26 [] = true by decide +kernel) c7 (by decide) (by decide) rfl (by decide) ?_
          refine jEv.blk [(.aload_n 0, 1, [])] (by decide +kernel) (pc' := 66) (ls' := [(2, Int.ofNat o0), (0, v1), (0, v2), (0, (Int.tmod (wr ((wr ((h o0 6) - b4)) + v1)) 40))]) (st' := [(2, Int.ofNat o0)]) rfl ?_
          refine jEv.gfR (o' := (o0 + 4)) (show jfI 129 66 (.getfield 21) 3 [10, 4, 5, 0, 2043] = true by decide +kernel) (isX10_L ho0) (by decide) (isX10_r4 ho0) ?_
          refine jEv.blk [(.iload_n 3, 1, [])] (by decide +kernel) (pc' := 70) (ls' := [(2, Int.ofNat o0), (0, v1), (0, v2), (0, (Int.tmod (wr ((wr ((h o0 6) - b4)) + v1)) 40))]) (st' := [(0, (Int.tmod (wr ((wr ((h o0 6) - b4)) + v1)) 40)), (2, Int.ofNat (o0 + 4))]) rfl ?_
          refine jbind H (fun b8 Hb8 H => ?_)
          refine jEv.calS (st' := [(0, b8)]) (show jfI 129 70 (.invokestatic 42) 3 [4, 137, 2, 5033] = true by decide +kernel) rfl (Or.inr rfl) rfl (Nat.le_of_ble_eq_true rfl) ((t_G_cell (T := T) (xs := xs) (isX10_a4 ho0) Hb8).mono (jKle 1 hd)) rfl ?_
          exact jEv.retI (show jfI 129 73 (.ireturn) 1 [] = true by decide +kernel) (by decide +kernel) (by cases H; exact HY)
        · refine jite H (fun c9 H => ?_) (fun c9 H => ?_)
          · refine jEv.tsI (v := 2) (off := 44) (t := 74) (show jfI 129 30 (.tableswitch 53 0 2 #[26, 35, 44]) 26 [] = true by decide +kernel) c9 (by decide) (by decide) rfl (by decide) ?_
            refine jEv.blk [(.aload_n 0, 1, [])] (by decide +kernel) (pc' := 75) (ls' := [(2, Int.ofNat o0), (0, v1), (0, v2), (0, (Int.tmod (wr ((wr ((h o0 6) - b4)) + v1)) 40))]) (st' := [(2, Int.ofNat o0)]) rfl ?_
            refine jEv.gfR (o' := (o0 + 5)) (show jfI 129 75 (.getfield 24) 3 [10, 5, 5, 0, 2044] = true by decide +kernel) (isX10_L ho0) (by decide) (isX10_r5 ho0) ?_
            refine jEv.blk [(.iload_n 3, 1, [])] (by decide +kernel) (pc' := 79) (ls' := [(2, Int.ofNat o0), (0, v1), (0, v2), (0, (Int.tmod (wr ((wr ((h o0 6) - b4)) + v1)) 40))]) (st' := [(0, (Int.tmod (wr ((wr ((h o0 6) - b4)) + v1)) 40)), (2, Int.ofNat (o0 + 5))]) rfl ?_
            refine jbind H (fun b10 Hb10 H => ?_)
            refine jEv.calS (st' := [(0, b10)]) (show jfI 129 79 (.invokestatic 42) 3 [4, 137, 2, 5033] = true by decide +kernel) rfl (Or.inr rfl) rfl (Nat.le_of_ble_eq_true rfl) ((t_G_cell (T := T) (xs := xs) (isX10_a5 ho0) Hb10).mono (jKle 1 hd)) rfl ?_
            exact jEv.retI (show jfI 129 82 (.ireturn) 1 [] = true by decide +kernel) (by decide +kernel) (by cases H; exact HY)
          · refine jEv.tsO (t := 83) (show jfI 129 30 (.tableswitch 53 0 2 #[26, 35, 44]) 26 [] = true by decide +kernel) (by omega) rfl (by decide) ?_
            refine jEv.blk [(.iconst (-1), 1, [])] (by decide +kernel) (pc' := 84) (ls' := [(2, Int.ofNat o0), (0, v1), (0, v2), (0, (Int.tmod (wr ((wr ((h o0 6) - b4)) + v1)) 40))]) (st' := [(0, (-1))]) rfl ?_
            exact jEv.retI (show jfI 129 84 (.ireturn) 1 [] = true by decide +kernel) (by decide +kernel) (by cases H; exact HY)
    · refine jEv.blk [(.iconst (-1), 1, [])] (by decide +kernel) (pc' := 13) (ls' := [(2, Int.ofNat o0), (0, v1), (0, v2), (3, 0)]) (st' := [(0, (-1))]) rfl ?_
      exact jEv.retI (show jfI 129 13 (.ireturn) 1 [] = true by decide +kernel) (by decide +kernel) (by cases H; exact HY)
set_option maxRecDepth 20000 in
noncomputable def Wa_add  (h : jH) (o0 : Nat) (v1 : Int) (v2 : Int) : Option jH := Option.bind (G_put h (o0 + 1) 8 (h o0 2) v1) (fun b1 => Option.bind (G_put b1 (o0 + 2) 8 (b1 o0 2) v2) (fun b2 => some (jup b2 o0 2 (wr ((b2 o0 2) + 1)))))
set_option maxRecDepth 20000 in
theorem t_Wa_add {T : jT} {xs : List Int} {h : jH}  {o0 : Nat} {v1 : Int} {v2 : Int} {out : jH} (ho0 : isX10 T o0) (H : Wa_add h o0 v1 v2 = some out) : jEm xs 2 133 [(2, Int.ofNat o0), (0, v1), (0, v2)] (T, h) ((3, 0), (T, out)) := by
  have hd : 1 ≤ 1 := Nat.le_refl _
  obtain ⟨y, ey⟩ : ∃ y : jV × jS, y = ((3, 0), (T, out)) := ⟨_, rfl⟩
  rw [← ey]
  have HY : ykV T y out := ey
  refine jEm.ent (n := 3) (by decide +kernel) (Nat.le_of_ble_eq_true rfl) ?_
  show jEv xs 1 (133, 0, [(2, Int.ofNat o0), (0, v1), (0, v2)], []) (T, h) y
  unfold Wa_add at H
  refine jEv.blk [(.aload_n 0, 1, [])] (by decide +kernel) (pc' := 1) (ls' := [(2, Int.ofNat o0), (0, v1), (0, v2)]) (st' := [(2, Int.ofNat o0)]) rfl ?_
  refine jEv.gfR (o' := (o0 + 1)) (show jfI 133 1 (.getfield 9) 3 [10, 0, 5, 0, 2037] = true by decide +kernel) (isX10_L ho0) (by decide) (isX10_r0 ho0) ?_
  refine jEv.blk [(.aload_n 0, 1, [])] (by decide +kernel) (pc' := 5) (ls' := [(2, Int.ofNat o0), (0, v1), (0, v2)]) (st' := [(2, Int.ofNat o0), (2, Int.ofNat (o0 + 1))]) rfl ?_
  refine jEv.gfI (show jfI 133 5 (.getfield 27) 3 [10, 2, 0, 0, 2039] = true by decide +kernel) (isX10_L ho0) (by decide) ?_
  refine jEv.blk [(.iload_n 1, 1, [])] (by decide +kernel) (pc' := 9) (ls' := [(2, Int.ofNat o0), (0, v1), (0, v2)]) (st' := [(0, v1), (0, (h o0 2)), (2, Int.ofNat (o0 + 1))]) rfl ?_
  refine jbind H (fun b1 Hb1 H => ?_)
  refine jEv.calS (st' := []) (show jfI 133 9 (.invokestatic 38) 3 [4, 138, 3, 5102] = true by decide +kernel) rfl (Or.inr rfl) rfl (Nat.le_of_ble_eq_true rfl) ((t_G_put (T := T) (xs := xs) (isX10_a0 ho0) Hb1).mono (jKle 1 hd)) rfl ?_
  refine jEv.blk [(.aload_n 0, 1, [])] (by decide +kernel) (pc' := 13) (ls' := [(2, Int.ofNat o0), (0, v1), (0, v2)]) (st' := [(2, Int.ofNat o0)]) rfl ?_
  refine jEv.gfR (o' := (o0 + 2)) (show jfI 133 13 (.getfield 15) 3 [10, 1, 5, 0, 2038] = true by decide +kernel) (isX10_L ho0) (by decide) (isX10_r1 ho0) ?_
  refine jEv.blk [(.aload_n 0, 1, [])] (by decide +kernel) (pc' := 17) (ls' := [(2, Int.ofNat o0), (0, v1), (0, v2)]) (st' := [(2, Int.ofNat o0), (2, Int.ofNat (o0 + 2))]) rfl ?_
  refine jEv.gfI (show jfI 133 17 (.getfield 27) 3 [10, 2, 0, 0, 2039] = true by decide +kernel) (isX10_L ho0) (by decide) ?_
  refine jEv.blk [(.iload_n 2, 1, [])] (by decide +kernel) (pc' := 21) (ls' := [(2, Int.ofNat o0), (0, v1), (0, v2)]) (st' := [(0, v2), (0, (b1 o0 2)), (2, Int.ofNat (o0 + 2))]) rfl ?_
  refine jbind H (fun b2 Hb2 H => ?_)
  refine jEv.calS (st' := []) (show jfI 133 21 (.invokestatic 38) 3 [4, 138, 3, 5102] = true by decide +kernel) rfl (Or.inr rfl) rfl (Nat.le_of_ble_eq_true rfl) ((t_G_put (T := T) (xs := xs) (isX10_a1 ho0) Hb2).mono (jKle 1 hd)) rfl ?_
  refine jEv.blk [(.aload_n 0, 1, []), (.dup, 1, [])] (by decide +kernel) (pc' := 26) (ls' := [(2, Int.ofNat o0), (0, v1), (0, v2)]) (st' := [(2, Int.ofNat o0), (2, Int.ofNat o0)]) rfl ?_
  refine jEv.gfI (show jfI 133 26 (.getfield 27) 3 [10, 2, 0, 0, 2039] = true by decide +kernel) (isX10_L ho0) (by decide) ?_
  refine jEv.blk [(.iconst 1, 1, []), (.iadd, 1, [])] (by decide +kernel) (pc' := 31) (ls' := [(2, Int.ofNat o0), (0, v1), (0, v2)]) (st' := [(0, (wr ((b2 o0 2) + 1))), (2, Int.ofNat o0)]) rfl ?_
  refine jEv.pfI (show jfI 133 31 (.putfield 27) 3 [10, 2, 0, 0, 2039] = true by decide +kernel) (isX10_L ho0) (by decide) ?_
  exact jEv.retV (show jfI 133 34 (.return_) 1 [] = true by decide +kernel) (by decide +kernel) (by cases H; exact HY)
set_option maxRecDepth 20000 in
noncomputable def G_refuse  (h : jH) (o0 : Nat) (v1 : Int) : Option (Int × jH) := Option.bind (G_cell h (o0 + 3) 7 v1) (fun b1 => Option.bind (G_put h (o0 + 3) 7 v1 (wr (b1 + 1))) (fun b2 => some ((-1), b2)))
set_option maxRecDepth 20000 in
theorem t_G_refuse {T : jT} {xs : List Int} {h : jH}  {o0 : Nat} {v1 : Int} {out : (Int × jH)} (ho0 : isX11 T o0) (H : G_refuse h o0 v1 = some out) : jEm xs 2 136 [(2, Int.ofNat o0), (0, v1)] (T, h) ((0, out.1), (T, out.2)) := by
  have hd : 1 ≤ 1 := Nat.le_refl _
  obtain ⟨y, ey⟩ : ∃ y : jV × jS, y = ((0, out.1), (T, out.2)) := ⟨_, rfl⟩
  rw [← ey]
  have HY : ykI T y out := ey
  refine jEm.ent (n := 2) (by decide +kernel) (Nat.le_of_ble_eq_true rfl) ?_
  show jEv xs 1 (136, 0, [(2, Int.ofNat o0), (0, v1)], []) (T, h) y
  unfold G_refuse at H
  refine jEv.blk [(.aload_n 0, 1, [])] (by decide +kernel) (pc' := 1) (ls' := [(2, Int.ofNat o0), (0, v1)]) (st' := [(2, Int.ofNat o0)]) rfl ?_
  refine jEv.gfR (o' := (o0 + 3)) (show jfI 136 1 (.getfield 16) 3 [11, 4, 5, 0, 3005] = true by decide +kernel) (isX11_L ho0) (by decide) (isX11_r4 ho0) ?_
  refine jEv.blk [(.iload_n 1, 1, []), (.aload_n 0, 1, [])] (by decide +kernel) (pc' := 6) (ls' := [(2, Int.ofNat o0), (0, v1)]) (st' := [(2, Int.ofNat o0), (0, v1), (2, Int.ofNat (o0 + 3))]) rfl ?_
  refine jEv.gfR (o' := (o0 + 3)) (show jfI 136 6 (.getfield 16) 3 [11, 4, 5, 0, 3005] = true by decide +kernel) (isX11_L ho0) (by decide) (isX11_r4 ho0) ?_
  refine jEv.blk [(.iload_n 1, 1, [])] (by decide +kernel) (pc' := 10) (ls' := [(2, Int.ofNat o0), (0, v1)]) (st' := [(0, v1), (2, Int.ofNat (o0 + 3)), (0, v1), (2, Int.ofNat (o0 + 3))]) rfl ?_
  refine jbind H (fun b1 Hb1 H => ?_)
  refine jEv.calS (st' := [(0, b1), (0, v1), (2, Int.ofNat (o0 + 3))]) (show jfI 136 10 (.invokestatic 241) 3 [3, 137, 2, 3070] = true by decide +kernel) rfl (Or.inl rfl) rfl (Nat.le_of_ble_eq_true rfl) ((t_G_cell (T := T) (xs := xs) (isX11_a4 ho0) Hb1).mono (jKle 1 hd)) rfl ?_
  refine jEv.blk [(.iconst 1, 1, []), (.iadd, 1, [])] (by decide +kernel) (pc' := 15) (ls' := [(2, Int.ofNat o0), (0, v1)]) (st' := [(0, (wr (b1 + 1))), (0, v1), (2, Int.ofNat (o0 + 3))]) rfl ?_
  refine jbind H (fun b2 Hb2 H => ?_)
  refine jEv.calS (st' := []) (show jfI 136 15 (.invokestatic 415) 3 [3, 138, 3, 3073] = true by decide +kernel) rfl (Or.inl rfl) rfl (Nat.le_of_ble_eq_true rfl) ((t_G_put (T := T) (xs := xs) (isX11_a4 ho0) Hb2).mono (jKle 1 hd)) rfl ?_
  refine jEv.blk [(.iconst (-1), 1, [])] (by decide +kernel) (pc' := 19) (ls' := [(2, Int.ofNat o0), (0, v1)]) (st' := [(0, (-1))]) rfl ?_
  exact jEv.retI (show jfI 136 19 (.ireturn) 1 [] = true by decide +kernel) (by decide +kernel) (by cases H; exact HY)
def yk_G_feedNumber_L3 (T : jT) (xs : List Int) (d : Nat) (y : jV × jS)  (o0 : Nat) (v1 : Int) : ((Int × jH) ⊕ jH) → Prop
  | .inl (v2, h) => jEv xs d (139, 3, [(2, Int.ofNat o0), (0, v1), (0, v2)], []) (T, h) y
  | .inr o => ykV T y o
set_option maxRecDepth 20000 in
noncomputable def G_feedNumber_B3  (h : jH) (o0 : Nat) (v1 : Int) (v2 : Int) : Option ((Int × jH) ⊕ jH) := (if v2 < 0 then Option.map Sum.inr (some h) else Option.bind (G_put h (o0 + 1) 1600 (h o0 1) (jand (jshr v1 v2) 255)) (fun b2 => some (.inl ((wr (v2 + (-8))), (jup b2 o0 1 (wr ((b2 o0 1) + 1)))))))
noncomputable def G_feedNumber_L3  (h : jH) (o0 : Nat) (v1 : Int) (v2 : Int) : Option jH := jloop (fun s : (Int × jH) => G_feedNumber_B3 s.2 o0 v1 s.1) (v2, h)
set_option maxRecDepth 20000 in
theorem t_G_feedNumber_B3 {T : jT} {xs : List Int} {d : Nat} {y : jV × jS} (hd : 1 ≤ d) {h : jH}  {o0 : Nat} {v1 : Int} {v2 : Int} {out : ((Int × jH) ⊕ jH)} (ho0 : isX11 T o0) (H : G_feedNumber_B3 h o0 v1 v2 = some out) (HY : yk_G_feedNumber_L3 T xs d y o0 v1 out) : jEv xs d (139, 3, [(2, Int.ofNat o0), (0, v1), (0, v2)], []) (T, h) y := by
  unfold G_feedNumber_B3 at H
  refine jEv.blk [(.iload_n 2, 1, [])] (by decide +kernel) (pc' := 4) (ls' := [(2, Int.ofNat o0), (0, v1), (0, v2)]) (st' := [(0, v2)]) rfl ?_
  refine jEv.if_lt (t := 41) (show jfI 139 4 (.ifCond .lt 37) 3 [] = true by decide +kernel) rfl H (fun c1 H => ?_) (fun c1 H => ?_)
  · refine jmapr H HY (fun out H (HY : ykV T y out) => ?_)
    exact jEv.retV (show jfI 139 41 (.return_) 1 [] = true by decide +kernel) (by decide +kernel) (by cases H; exact HY)
  · refine jEv.blk [(.aload_n 0, 1, [])] (by decide +kernel) (pc' := 8) (ls' := [(2, Int.ofNat o0), (0, v1), (0, v2)]) (st' := [(2, Int.ofNat o0)]) rfl ?_
    refine jEv.gfR (o' := (o0 + 1)) (show jfI 139 8 (.getfield 9) 3 [11, 0, 5, 0, 3001] = true by decide +kernel) (isX11_L ho0) (by decide) (isX11_r0 ho0) ?_
    refine jEv.blk [(.aload_n 0, 1, [])] (by decide +kernel) (pc' := 12) (ls' := [(2, Int.ofNat o0), (0, v1), (0, v2)]) (st' := [(2, Int.ofNat o0), (2, Int.ofNat (o0 + 1))]) rfl ?_
    refine jEv.gfI (show jfI 139 12 (.getfield 76) 3 [11, 1, 0, 0, 3002] = true by decide +kernel) (isX11_L ho0) (by decide) ?_
    refine jEv.blk [(.iload_n 1, 1, []), (.iload_n 2, 1, []), (.ishr, 1, []), (.sipush 255, 3, []), (.iand, 1, [])] (by decide +kernel) (pc' := 22) (ls' := [(2, Int.ofNat o0), (0, v1), (0, v2)]) (st' := [(0, (jand (jshr v1 v2) 255)), (0, (h o0 1)), (2, Int.ofNat (o0 + 1))]) rfl ?_
    refine jbind H (fun b2 Hb2 H => ?_)
    refine jEv.calS (st' := []) (show jfI 139 22 (.invokestatic 415) 3 [3, 138, 3, 3073] = true by decide +kernel) rfl (Or.inl rfl) rfl (Nat.le_of_ble_eq_true rfl) ((t_G_put (T := T) (xs := xs) (isX11_a0 ho0) Hb2).mono (jKle 1 hd)) rfl ?_
    refine jEv.blk [(.aload_n 0, 1, []), (.dup, 1, [])] (by decide +kernel) (pc' := 27) (ls' := [(2, Int.ofNat o0), (0, v1), (0, v2)]) (st' := [(2, Int.ofNat o0), (2, Int.ofNat o0)]) rfl ?_
    refine jEv.gfI (show jfI 139 27 (.getfield 76) 3 [11, 1, 0, 0, 3002] = true by decide +kernel) (isX11_L ho0) (by decide) ?_
    refine jEv.blk [(.iconst 1, 1, []), (.iadd, 1, [])] (by decide +kernel) (pc' := 32) (ls' := [(2, Int.ofNat o0), (0, v1), (0, v2)]) (st' := [(0, (wr ((b2 o0 1) + 1))), (2, Int.ofNat o0)]) rfl ?_
    refine jEv.pfI (show jfI 139 32 (.putfield 76) 3 [11, 1, 0, 0, 3002] = true by decide +kernel) (isX11_L ho0) (by decide) ?_
    refine jEv.blk [(.iinc 2 (-8), 3, [])] (by decide +kernel) (pc' := 38) (ls' := [(2, Int.ofNat o0), (0, v1), (0, (wr (v2 + (-8))))]) (st' := []) rfl ?_
    refine jEv.goto (t := 3) (show jfI 139 38 (.goto (-35)) 3 [] = true by decide +kernel) rfl ?_
    exact (by cases H; exact HY)
theorem t_G_feedNumber_L3 {T : jT} {xs : List Int} {d : Nat} {y : jV × jS} (hd : 1 ≤ d) {h : jH}  {o0 : Nat} {v1 : Int} {v2 : Int} {out : jH} (ho0 : isX11 T o0) (H : G_feedNumber_L3 h o0 v1 v2 = some out) (HY : ykV T y out) : jEv xs d (139, 3, [(2, Int.ofNat o0), (0, v1), (0, v2)], []) (T, h) y :=
  jloop_sound (G := fun s : (Int × jH) => jEv xs d (139, 3, [(2, Int.ofNat o0), (0, v1), (0, s.1)], []) (T, s.2) y) (K := yk_G_feedNumber_L3 T xs d y o0 v1) (fun s out H HY => t_G_feedNumber_B3 hd ho0 H HY) (fun s' hg => hg) (s := (v2, h)) H HY
set_option maxRecDepth 20000 in
noncomputable def G_feedNumber  (h : jH) (o0 : Nat) (v1 : Int) : Option jH := G_feedNumber_L3 h o0 v1 24
set_option maxRecDepth 20000 in
theorem t_G_feedNumber {T : jT} {xs : List Int} {h : jH}  {o0 : Nat} {v1 : Int} {out : jH} (ho0 : isX11 T o0) (H : G_feedNumber h o0 v1 = some out) : jEm xs 2 139 [(2, Int.ofNat o0), (0, v1)] (T, h) ((3, 0), (T, out)) := by
  have hd : 1 ≤ 1 := Nat.le_refl _
  obtain ⟨y, ey⟩ : ∃ y : jV × jS, y = ((3, 0), (T, out)) := ⟨_, rfl⟩
  rw [← ey]
  have HY : ykV T y out := ey
  refine jEm.ent (n := 3) (by decide +kernel) (Nat.le_of_ble_eq_true rfl) ?_
  show jEv xs 1 (139, 0, [(2, Int.ofNat o0), (0, v1), (3, 0)], []) (T, h) y
  unfold G_feedNumber at H
  refine jEv.blk [(.bipush 24, 2, []), (.istore_n 2, 1, [])] (by decide +kernel) (pc' := 3) (ls' := [(2, Int.ofNat o0), (0, v1), (0, 24)]) (st' := []) rfl ?_
  exact t_G_feedNumber_L3 (T := T) (xs := xs) (y := y) hd ho0 H HY
set_option maxRecDepth 20000 in
noncomputable def G_feed  (h : jH) (o0 : Nat) (v1 : Int) (v2 : Int) (v3 : Int) (v4 : Int) (v5 : Int) : Option (Int × jH) := (if 1580 < (h o0 1) then Option.bind (G_refuse h o0 0) (fun b2 => some (b2.1, b2.2)) else Option.bind (G_feedNumber h o0 v1) (fun b3 => Option.bind (G_feedNumber b3 o0 v2) (fun b4 => Option.bind (G_feedNumber b4 o0 v3) (fun b5 => Option.bind (G_feedNumber b5 o0 v4) (fun b6 => Option.bind (G_feedNumber b6 o0 v5) (fun b7 => some ((b7 o0 1), b7)))))))
set_option maxRecDepth 20000 in
theorem t_G_feed {T : jT} {xs : List Int} {h : jH}  {o0 : Nat} {v1 : Int} {v2 : Int} {v3 : Int} {v4 : Int} {v5 : Int} {out : (Int × jH)} (ho0 : isX11 T o0) (H : G_feed h o0 v1 v2 v3 v4 v5 = some out) : jEm xs 3 135 [(2, Int.ofNat o0), (0, v1), (0, v2), (0, v3), (0, v4), (0, v5)] (T, h) ((0, out.1), (T, out.2)) := by
  have hd : 2 ≤ 2 := Nat.le_refl _
  obtain ⟨y, ey⟩ : ∃ y : jV × jS, y = ((0, out.1), (T, out.2)) := ⟨_, rfl⟩
  rw [← ey]
  have HY : ykI T y out := ey
  refine jEm.ent (n := 6) (by decide +kernel) (Nat.le_of_ble_eq_true rfl) ?_
  show jEv xs 2 (135, 0, [(2, Int.ofNat o0), (0, v1), (0, v2), (0, v3), (0, v4), (0, v5)], []) (T, h) y
  unfold G_feed at H
  refine jEv.blk [(.aload_n 0, 1, [])] (by decide +kernel) (pc' := 1) (ls' := [(2, Int.ofNat o0), (0, v1), (0, v2), (0, v3), (0, v4), (0, v5)]) (st' := [(2, Int.ofNat o0)]) rfl ?_
  refine jEv.gfI (show jfI 135 1 (.getfield 76) 3 [11, 1, 0, 0, 3002] = true by decide +kernel) (isX11_L ho0) (by decide) ?_
  refine jEv.blk [(.sipush 1580, 3, [])] (by decide +kernel) (pc' := 7) (ls' := [(2, Int.ofNat o0), (0, v1), (0, v2), (0, v3), (0, v4), (0, v5)]) (st' := [(0, 1580), (0, (h o0 1))]) rfl ?_
  refine jEv.ic_le (t := 16) (show jfI 135 7 (.if_icmp .le 9) 3 [] = true by decide +kernel) rfl H (fun c1 H => ?_) (fun c1 H => ?_)
  · refine jEv.blk [(.aload_n 0, 1, []), (.iconst 0, 1, [])] (by decide +kernel) (pc' := 12) (ls' := [(2, Int.ofNat o0), (0, v1), (0, v2), (0, v3), (0, v4), (0, v5)]) (st' := [(0, 0), (2, Int.ofNat o0)]) rfl ?_
    refine jbind H (fun b2 Hb2 H => ?_)
    refine jEv.calV (st' := [(0, b2.1)]) (show jfI 135 12 (.invokevirtual 80) 3 [1, 136, 1, 3066] = true by decide +kernel) rfl (Or.inl rfl) rfl (Nat.le_of_ble_eq_true rfl) (by decide +kernel) (by decide) (isX11_L ho0) ((t_G_refuse (T := T) (xs := xs) ho0 Hb2).mono (jKle 2 hd)) rfl ?_
    exact jEv.retI (show jfI 135 15 (.ireturn) 1 [] = true by decide +kernel) (by decide +kernel) (by cases H; exact HY)
  · refine jEv.blk [(.aload_n 0, 1, []), (.iload_n 1, 1, [])] (by decide +kernel) (pc' := 18) (ls' := [(2, Int.ofNat o0), (0, v1), (0, v2), (0, v3), (0, v4), (0, v5)]) (st' := [(0, v1), (2, Int.ofNat o0)]) rfl ?_
    refine jbind H (fun b3 Hb3 H => ?_)
    refine jEv.calV (st' := []) (show jfI 135 18 (.invokevirtual 84) 3 [1, 139, 1, 3076] = true by decide +kernel) rfl (Or.inl rfl) rfl (Nat.le_of_ble_eq_true rfl) (by decide +kernel) (by decide) (isX11_L ho0) ((t_G_feedNumber (T := T) (xs := xs) ho0 Hb3).mono (jKle 2 hd)) rfl ?_
    refine jEv.blk [(.aload_n 0, 1, []), (.iload_n 2, 1, [])] (by decide +kernel) (pc' := 23) (ls' := [(2, Int.ofNat o0), (0, v1), (0, v2), (0, v3), (0, v4), (0, v5)]) (st' := [(0, v2), (2, Int.ofNat o0)]) rfl ?_
    refine jbind H (fun b4 Hb4 H => ?_)
    refine jEv.calV (st' := []) (show jfI 135 23 (.invokevirtual 84) 3 [1, 139, 1, 3076] = true by decide +kernel) rfl (Or.inl rfl) rfl (Nat.le_of_ble_eq_true rfl) (by decide +kernel) (by decide) (isX11_L ho0) ((t_G_feedNumber (T := T) (xs := xs) ho0 Hb4).mono (jKle 2 hd)) rfl ?_
    refine jEv.blk [(.aload_n 0, 1, []), (.iload_n 3, 1, [])] (by decide +kernel) (pc' := 28) (ls' := [(2, Int.ofNat o0), (0, v1), (0, v2), (0, v3), (0, v4), (0, v5)]) (st' := [(0, v3), (2, Int.ofNat o0)]) rfl ?_
    refine jbind H (fun b5 Hb5 H => ?_)
    refine jEv.calV (st' := []) (show jfI 135 28 (.invokevirtual 84) 3 [1, 139, 1, 3076] = true by decide +kernel) rfl (Or.inl rfl) rfl (Nat.le_of_ble_eq_true rfl) (by decide +kernel) (by decide) (isX11_L ho0) ((t_G_feedNumber (T := T) (xs := xs) ho0 Hb5).mono (jKle 2 hd)) rfl ?_
    refine jEv.blk [(.aload_n 0, 1, []), (.iload 4, 2, [])] (by decide +kernel) (pc' := 34) (ls' := [(2, Int.ofNat o0), (0, v1), (0, v2), (0, v3), (0, v4), (0, v5)]) (st' := [(0, v4), (2, Int.ofNat o0)]) rfl ?_
    refine jbind H (fun b6 Hb6 H => ?_)
    refine jEv.calV (st' := []) (show jfI 135 34 (.invokevirtual 84) 3 [1, 139, 1, 3076] = true by decide +kernel) rfl (Or.inl rfl) rfl (Nat.le_of_ble_eq_true rfl) (by decide +kernel) (by decide) (isX11_L ho0) ((t_G_feedNumber (T := T) (xs := xs) ho0 Hb6).mono (jKle 2 hd)) rfl ?_
    refine jEv.blk [(.aload_n 0, 1, []), (.iload 5, 2, [])] (by decide +kernel) (pc' := 40) (ls' := [(2, Int.ofNat o0), (0, v1), (0, v2), (0, v3), (0, v4), (0, v5)]) (st' := [(0, v5), (2, Int.ofNat o0)]) rfl ?_
    refine jbind H (fun b7 Hb7 H => ?_)
    refine jEv.calV (st' := []) (show jfI 135 40 (.invokevirtual 84) 3 [1, 139, 1, 3076] = true by decide +kernel) rfl (Or.inl rfl) rfl (Nat.le_of_ble_eq_true rfl) (by decide +kernel) (by decide) (isX11_L ho0) ((t_G_feedNumber (T := T) (xs := xs) ho0 Hb7).mono (jKle 2 hd)) rfl ?_
    refine jEv.blk [(.aload_n 0, 1, [])] (by decide +kernel) (pc' := 44) (ls' := [(2, Int.ofNat o0), (0, v1), (0, v2), (0, v3), (0, v4), (0, v5)]) (st' := [(2, Int.ofNat o0)]) rfl ?_
    refine jEv.gfI (show jfI 135 44 (.getfield 76) 3 [11, 1, 0, 0, 3002] = true by decide +kernel) (isX11_L ho0) (by decide) ?_
    exact jEv.retI (show jfI 135 47 (.ireturn) 1 [] = true by decide +kernel) (by decide +kernel) (by cases H; exact HY)
set_option maxRecDepth 20000 in
noncomputable def G_deny  (h : jH) (o0 : Nat) (v1 : Int) : Option (Int × jH) := Option.bind (G_refuse h o0 v1) (fun b1 => some (0, b1.2))
set_option maxRecDepth 20000 in
theorem t_G_deny {T : jT} {xs : List Int} {h : jH}  {o0 : Nat} {v1 : Int} {out : (Int × jH)} (ho0 : isX11 T o0) (H : G_deny h o0 v1 = some out) : jEm xs 3 141 [(2, Int.ofNat o0), (0, v1)] (T, h) ((0, out.1), (T, out.2)) := by
  have hd : 2 ≤ 2 := Nat.le_refl _
  obtain ⟨y, ey⟩ : ∃ y : jV × jS, y = ((0, out.1), (T, out.2)) := ⟨_, rfl⟩
  rw [← ey]
  have HY : ykI T y out := ey
  refine jEm.ent (n := 2) (by decide +kernel) (Nat.le_of_ble_eq_true rfl) ?_
  show jEv xs 2 (141, 0, [(2, Int.ofNat o0), (0, v1)], []) (T, h) y
  unfold G_deny at H
  refine jEv.blk [(.aload_n 0, 1, []), (.iload_n 1, 1, [])] (by decide +kernel) (pc' := 2) (ls' := [(2, Int.ofNat o0), (0, v1)]) (st' := [(0, v1), (2, Int.ofNat o0)]) rfl ?_
  refine jbind H (fun b1 Hb1 H => ?_)
  refine jEv.calV (st' := [(0, b1.1)]) (show jfI 141 2 (.invokevirtual 80) 3 [1, 136, 1, 3066] = true by decide +kernel) rfl (Or.inl rfl) rfl (Nat.le_of_ble_eq_true rfl) (by decide +kernel) (by decide) (isX11_L ho0) ((t_G_refuse (T := T) (xs := xs) ho0 Hb1).mono (jKle 2 hd)) rfl ?_
  refine jEv.blk [(.pop, 1, []), (.iconst 0, 1, [])] (by decide +kernel) (pc' := 7) (ls' := [(2, Int.ofNat o0), (0, v1)]) (st' := [(0, 0)]) rfl ?_
  exact jEv.retZ (show jfI 141 7 (.ireturn) 1 [] = true by decide +kernel) (by decide +kernel) (by decide) (by cases H; exact HY)
set_option maxRecDepth 20000 in
noncomputable def G_end_p12  (h : jH) (o0 : Nat) : Option (Int × jH) := Option.bind (G_deny h o0 0) (fun b3 => (if b3.1 = 0 ∨ b3.1 = 1 then some (b3.1, b3.2) else none))
set_option maxRecDepth 20000 in
theorem t_G_end_p12 {T : jT} {xs : List Int} {d : Nat} {y : jV × jS} (hd : 3 ≤ d) {h : jH}  {o0 : Nat} {out : (Int × jH)} (ho0 : isX11 T o0) (H : G_end_p12 h o0 = some out) (HY : ykI T y out) : jEv xs d (140, 12, [(2, Int.ofNat o0), (3, 0)], []) (T, h) y := by
  unfold G_end_p12 at H
  refine jEv.blk [(.aload_n 0, 1, []), (.iconst 0, 1, [])] (by decide +kernel) (pc' := 14) (ls' := [(2, Int.ofNat o0), (3, 0)]) (st' := [(0, 0), (2, Int.ofNat o0)]) rfl ?_
  refine jbind H (fun b3 Hb3 H => ?_)
  refine jEv.calV (st' := [(0, b3.1)]) (show jfI 140 14 (.invokevirtual 88) 3 [1, 141, 1, 3084] = true by decide +kernel) rfl (Or.inl rfl) rfl (Nat.le_of_ble_eq_true rfl) (by decide +kernel) (by decide) (isX11_L ho0) ((t_G_deny (T := T) (xs := xs) ho0 Hb3).mono (jKle 3 hd)) rfl ?_
  refine jchk H (fun c4 H => ?_)
  exact jEv.retZ (show jfI 140 17 (.ireturn) 1 [] = true by decide +kernel) (by decide +kernel) c4 (by cases H; exact HY)
set_option maxRecDepth 20000 in
noncomputable def G_end  (h : jH) (o0 : Nat) (v1 : Int) : Option (Int × jH) := (if v1 < 0 then G_end_p12 h o0 else (if (h o0 1) < v1 then G_end_p12 h o0 else some (1, (jup h o0 1 v1))))
set_option maxRecDepth 20000 in
theorem t_G_end {T : jT} {xs : List Int} {h : jH}  {o0 : Nat} {v1 : Int} {out : (Int × jH)} (ho0 : isX11 T o0) (H : G_end h o0 v1 = some out) : jEm xs 4 140 [(2, Int.ofNat o0), (0, v1)] (T, h) ((0, out.1), (T, out.2)) := by
  have hd : 3 ≤ 3 := Nat.le_refl _
  obtain ⟨y, ey⟩ : ∃ y : jV × jS, y = ((0, out.1), (T, out.2)) := ⟨_, rfl⟩
  rw [← ey]
  have HY : ykI T y out := ey
  refine jEm.ent (n := 2) (by decide +kernel) (Nat.le_of_ble_eq_true rfl) ?_
  show jEv xs 3 (140, 0, [(2, Int.ofNat o0), (0, v1)], []) (T, h) y
  unfold G_end at H
  refine jEv.blk [(.iload_n 1, 1, [])] (by decide +kernel) (pc' := 1) (ls' := [(2, Int.ofNat o0), (0, v1)]) (st' := [(0, v1)]) rfl ?_
  refine jEv.if_lt (t := 12) (show jfI 140 1 (.ifCond .lt 11) 3 [] = true by decide +kernel) rfl H (fun c1 H => ?_) (fun c1 H => ?_)
  · exact jEv.weak (a := [(2, Int.ofNat o0), (3, 0)]) (jles.c1 (jles.c0 jles.nl)) (t_G_end_p12 (T := T) (xs := xs) (y := y) hd ho0 H HY)
  · refine jEv.blk [(.iload_n 1, 1, []), (.aload_n 0, 1, [])] (by decide +kernel) (pc' := 6) (ls' := [(2, Int.ofNat o0), (0, v1)]) (st' := [(2, Int.ofNat o0), (0, v1)]) rfl ?_
    refine jEv.gfI (show jfI 140 6 (.getfield 76) 3 [11, 1, 0, 0, 3002] = true by decide +kernel) (isX11_L ho0) (by decide) ?_
    refine jEv.ic_le (t := 18) (show jfI 140 9 (.if_icmp .le 9) 3 [] = true by decide +kernel) rfl H (fun c2 H => ?_) (fun c2 H => ?_)
    · exact jEv.weak (a := [(2, Int.ofNat o0), (3, 0)]) (jles.c1 (jles.c0 jles.nl)) (t_G_end_p12 (T := T) (xs := xs) (y := y) hd ho0 H HY)
    · refine jEv.blk [(.aload_n 0, 1, []), (.iload_n 1, 1, [])] (by decide +kernel) (pc' := 20) (ls' := [(2, Int.ofNat o0), (0, v1)]) (st' := [(0, v1), (2, Int.ofNat o0)]) rfl ?_
      refine jEv.pfI (show jfI 140 20 (.putfield 76) 3 [11, 1, 0, 0, 3002] = true by decide +kernel) (isX11_L ho0) (by decide) ?_
      refine jEv.blk [(.iconst 1, 1, [])] (by decide +kernel) (pc' := 24) (ls' := [(2, Int.ofNat o0), (0, v1)]) (st' := [(0, 1)]) rfl ?_
      exact jEv.retZ (show jfI 140 24 (.ireturn) 1 [] = true by decide +kernel) (by decide +kernel) (by decide) (by cases H; exact HY)
set_option maxRecDepth 20000 in
noncomputable def G_takeTape  (h : jH) (o0 : Nat) : Option (Int × jH) := some ((h o0 1), (jup h o0 1 0))
set_option maxRecDepth 20000 in
theorem t_G_takeTape {T : jT} {xs : List Int} {h : jH}  {o0 : Nat} {out : (Int × jH)} (ho0 : isX11 T o0) (H : G_takeTape h o0 = some out) : jEm xs 1 143 [(2, Int.ofNat o0)] (T, h) ((0, out.1), (T, out.2)) := by
  have hd : 0 ≤ 0 := Nat.le_refl _
  obtain ⟨y, ey⟩ : ∃ y : jV × jS, y = ((0, out.1), (T, out.2)) := ⟨_, rfl⟩
  rw [← ey]
  have HY : ykI T y out := ey
  refine jEm.ent (n := 2) (by decide +kernel) (Nat.le_of_ble_eq_true rfl) ?_
  show jEv xs 0 (143, 0, [(2, Int.ofNat o0), (3, 0)], []) (T, h) y
  unfold G_takeTape at H
  refine jEv.blk [(.aload_n 0, 1, [])] (by decide +kernel) (pc' := 1) (ls' := [(2, Int.ofNat o0), (3, 0)]) (st' := [(2, Int.ofNat o0)]) rfl ?_
  refine jEv.gfI (show jfI 143 1 (.getfield 76) 3 [11, 1, 0, 0, 3002] = true by decide +kernel) (isX11_L ho0) (by decide) ?_
  refine jEv.blk [(.istore_n 1, 1, []), (.aload_n 0, 1, []), (.iconst 0, 1, [])] (by decide +kernel) (pc' := 7) (ls' := [(2, Int.ofNat o0), (0, (h o0 1))]) (st' := [(0, 0), (2, Int.ofNat o0)]) rfl ?_
  refine jEv.pfI (show jfI 143 7 (.putfield 76) 3 [11, 1, 0, 0, 3002] = true by decide +kernel) (isX11_L ho0) (by decide) ?_
  refine jEv.blk [(.iload_n 1, 1, [])] (by decide +kernel) (pc' := 11) (ls' := [(2, Int.ofNat o0), (0, (h o0 1))]) (st' := [(0, (h o0 1))]) rfl ?_
  exact jEv.retI (show jfI 143 11 (.ireturn) 1 [] = true by decide +kernel) (by decide +kernel) (by cases H; exact HY)
def yk_G_begin_L31 (T : jT) (xs : List Int) (d : Nat) (y : jV × jS)  (o0 : Nat) : ((Int × jH) ⊕ jH) → Prop
  | .inl (v1, h) => jEv xs d (144, 31, [(2, Int.ofNat o0), (0, v1), (3, 0), (3, 0), (3, 0)], []) (T, h) y
  | .inr o => ykV T y o
set_option maxRecDepth 20000 in
noncomputable def G_begin_B31 (T : jT) (h : jH) (o0 : Nat) (v1 : Int) : Option ((Int × jH) ⊕ jH) := Option.bind (jdyn (isX6 T) (h o0 8)) (fun q4 => (if v1 < (h q4 12) then Option.bind (jdyn (isX6 T) (h o0 8)) (fun q6 => Option.bind (G_cell h (q6 + 9) 40 v1) (fun b7 => Option.bind (jdyn (isX6 T) (h o0 8)) (fun q8 => Option.bind (G_cell h (q8 + 10) 40 v1) (fun b9 => Option.bind (jdyn (isX6 T) (h o0 8)) (fun q10 => Option.bind (G_cell h (q10 + 11) 40 v1) (fun b11 => Option.bind (St_takesRecord h (o0 + 35) b7 b9 b11) (fun b12 => (if b12 = 0 then some (.inl ((wr (v1 + 1)), h)) else Option.bind (Qu_add h (o0 + 42) b7 b9 b11 (h (o0 + 35) 9)) (fun b14 => some (.inl ((wr (v1 + 1)), b14))))))))))) else Option.map Sum.inr (some h)))
noncomputable def G_begin_L31 (T : jT) (h : jH) (o0 : Nat) (v1 : Int) : Option jH := jloop (fun s : (Int × jH) => G_begin_B31 T s.2 o0 s.1) (v1, h)
set_option maxRecDepth 20000 in
theorem t_G_begin_B31 {T : jT} {xs : List Int} {d : Nat} {y : jV × jS} (hd : 4 ≤ d) {h : jH}  {o0 : Nat} {v1 : Int} {out : ((Int × jH) ⊕ jH)} (ho0 : isX11 T o0) (H : G_begin_B31 T h o0 v1 = some out) (HY : yk_G_begin_L31 T xs d y o0 out) : jEv xs d (144, 31, [(2, Int.ofNat o0), (0, v1), (3, 0), (3, 0), (3, 0)], []) (T, h) y := by
  unfold G_begin_B31 at H
  refine jEv.blk [(.iload_n 1, 1, []), (.aload_n 0, 1, [])] (by decide +kernel) (pc' := 33) (ls' := [(2, Int.ofNat o0), (0, v1), (3, 0), (3, 0), (3, 0)]) (st' := [(2, Int.ofNat o0), (0, v1)]) rfl ?_
  refine jEv.gfD (show jfI 144 33 (.getfield 29) 3 [11, 8, 2, 0, 3009] = true by decide +kernel) (isX11_L ho0) (by decide) H (fun q4 hq4 H => ?_)
  refine jEv.gfI (show jfI 144 36 (.getfield 436) 3 [6, 12, 0, 0, 1088] = true by decide +kernel) (isX6_L hq4) (by decide) ?_
  refine jEv.ic_ge (t := 120) (show jfI 144 39 (.if_icmp .ge 81) 3 [] = true by decide +kernel) rfl H (fun c5 H => ?_) (fun c5 H => ?_)
  · refine jEv.blk [(.aload_n 0, 1, [])] (by decide +kernel) (pc' := 43) (ls' := [(2, Int.ofNat o0), (0, v1), (3, 0), (3, 0), (3, 0)]) (st' := [(2, Int.ofNat o0)]) rfl ?_
    refine jEv.gfD (show jfI 144 43 (.getfield 29) 3 [11, 8, 2, 0, 3009] = true by decide +kernel) (isX11_L ho0) (by decide) H (fun q6 hq6 H => ?_)
    refine jEv.gfR (o' := (q6 + 9)) (show jfI 144 46 (.getfield 439) 3 [6, 9, 5, 0, 1082] = true by decide +kernel) (isX6_L hq6) (by decide) (isX6_r9 hq6) ?_
    refine jEv.blk [(.iload_n 1, 1, [])] (by decide +kernel) (pc' := 50) (ls' := [(2, Int.ofNat o0), (0, v1), (3, 0), (3, 0), (3, 0)]) (st' := [(0, v1), (2, Int.ofNat (q6 + 9))]) rfl ?_
    refine jbind H (fun b7 Hb7 H => ?_)
    refine jEv.calS (st' := [(0, b7)]) (show jfI 144 50 (.invokestatic 241) 3 [3, 137, 2, 3070] = true by decide +kernel) rfl (Or.inl rfl) rfl (Nat.le_of_ble_eq_true rfl) ((t_G_cell (T := T) (xs := xs) (isX6_a9 hq6) Hb7).mono (jKle 1 hd)) rfl ?_
    refine jEv.blk [(.istore_n 2, 1, []), (.aload_n 0, 1, [])] (by decide +kernel) (pc' := 55) (ls' := [(2, Int.ofNat o0), (0, v1), (0, b7), (3, 0), (3, 0)]) (st' := [(2, Int.ofNat o0)]) rfl ?_
    refine jEv.gfD (show jfI 144 55 (.getfield 29) 3 [11, 8, 2, 0, 3009] = true by decide +kernel) (isX11_L ho0) (by decide) H (fun q8 hq8 H => ?_)
    refine jEv.gfR (o' := (q8 + 10)) (show jfI 144 58 (.getfield 442) 3 [6, 10, 5, 0, 1084] = true by decide +kernel) (isX6_L hq8) (by decide) (isX6_r10 hq8) ?_
    refine jEv.blk [(.iload_n 1, 1, [])] (by decide +kernel) (pc' := 62) (ls' := [(2, Int.ofNat o0), (0, v1), (0, b7), (3, 0), (3, 0)]) (st' := [(0, v1), (2, Int.ofNat (q8 + 10))]) rfl ?_
    refine jbind H (fun b9 Hb9 H => ?_)
    refine jEv.calS (st' := [(0, b9)]) (show jfI 144 62 (.invokestatic 241) 3 [3, 137, 2, 3070] = true by decide +kernel) rfl (Or.inl rfl) rfl (Nat.le_of_ble_eq_true rfl) ((t_G_cell (T := T) (xs := xs) (isX6_a10 hq8) Hb9).mono (jKle 1 hd)) rfl ?_
    refine jEv.blk [(.istore_n 3, 1, []), (.aload_n 0, 1, [])] (by decide +kernel) (pc' := 67) (ls' := [(2, Int.ofNat o0), (0, v1), (0, b7), (0, b9), (3, 0)]) (st' := [(2, Int.ofNat o0)]) rfl ?_
    refine jEv.gfD (show jfI 144 67 (.getfield 29) 3 [11, 8, 2, 0, 3009] = true by decide +kernel) (isX11_L ho0) (by decide) H (fun q10 hq10 H => ?_)
    refine jEv.gfR (o' := (q10 + 11)) (show jfI 144 70 (.getfield 445) 3 [6, 11, 5, 0, 1086] = true by decide +kernel) (isX6_L hq10) (by decide) (isX6_r11 hq10) ?_
    refine jEv.blk [(.iload_n 1, 1, [])] (by decide +kernel) (pc' := 74) (ls' := [(2, Int.ofNat o0), (0, v1), (0, b7), (0, b9), (3, 0)]) (st' := [(0, v1), (2, Int.ofNat (q10 + 11))]) rfl ?_
    refine jbind H (fun b11 Hb11 H => ?_)
    refine jEv.calS (st' := [(0, b11)]) (show jfI 144 74 (.invokestatic 241) 3 [3, 137, 2, 3070] = true by decide +kernel) rfl (Or.inl rfl) rfl (Nat.le_of_ble_eq_true rfl) ((t_G_cell (T := T) (xs := xs) (isX6_a11 hq10) Hb11).mono (jKle 1 hd)) rfl ?_
    refine jEv.blk [(.istore 4, 2, []), (.aload_n 0, 1, [])] (by decide +kernel) (pc' := 80) (ls' := [(2, Int.ofNat o0), (0, v1), (0, b7), (0, b9), (0, b11)]) (st' := [(2, Int.ofNat o0)]) rfl ?_
    refine jEv.gfR (o' := (o0 + 35)) (show jfI 144 80 (.getfield 45) 3 [11, 10, 5, 0, 3011] = true by decide +kernel) (isX11_L ho0) (by decide) (isX11_r10 ho0) ?_
    refine jEv.blk [(.iload_n 2, 1, []), (.iload_n 3, 1, []), (.iload 4, 2, [])] (by decide +kernel) (pc' := 87) (ls' := [(2, Int.ofNat o0), (0, v1), (0, b7), (0, b9), (0, b11)]) (st' := [(0, b11), (0, b9), (0, b7), (2, Int.ofNat (o0 + 35))]) rfl ?_
    refine jbind H (fun b12 Hb12 H => ?_)
    refine jEv.calV (st' := [(0, b12)]) (show jfI 144 87 (.invokevirtual 329) 3 [1, 112, 3, 4115] = true by decide +kernel) rfl (Or.inl rfl) rfl (Nat.le_of_ble_eq_true rfl) (by decide +kernel) (by decide) (isX9_L (isX11_s10 ho0)) ((t_St_takesRecord (T := T) (xs := xs) (isX11_s10 ho0) Hb12).mono (jKle 3 hd)) rfl ?_
    refine jEv.if_eq (t := 114) (show jfI 144 90 (.ifCond .eq 24) 3 [] = true by decide +kernel) rfl H (fun c13 H => ?_) (fun c13 H => ?_)
    · refine jEv.blk [(.iinc 1 1, 3, [])] (by decide +kernel) (pc' := 117) (ls' := [(2, Int.ofNat o0), (0, (wr (v1 + 1))), (0, b7), (0, b9), (0, b11)]) (st' := []) rfl ?_
      refine jEv.goto (t := 31) (show jfI 144 117 (.goto (-86)) 3 [] = true by decide +kernel) rfl ?_
      exact jEv.weak (a := [(2, Int.ofNat o0), (0, (wr (v1 + 1))), (3, 0), (3, 0), (3, 0)]) (jles.c1 (jles.c1 (jles.c0 (jles.c0 (jles.c0 jles.nl))))) ((by cases H; exact HY))
    · refine jEv.blk [(.aload_n 0, 1, [])] (by decide +kernel) (pc' := 94) (ls' := [(2, Int.ofNat o0), (0, v1), (0, b7), (0, b9), (0, b11)]) (st' := [(2, Int.ofNat o0)]) rfl ?_
      refine jEv.gfR (o' := (o0 + 35)) (show jfI 144 94 (.getfield 45) 3 [11, 10, 5, 0, 3011] = true by decide +kernel) (isX11_L ho0) (by decide) (isX11_r10 ho0) ?_
      refine jEv.gfR (o' := (o0 + 42)) (show jfI 144 97 (.getfield 130) 3 [9, 3, 5, 0, 2073] = true by decide +kernel) (isX9_L (isX11_s10 ho0)) (by decide) (isX9_r3 (isX11_s10 ho0)) ?_
      refine jEv.blk [(.iload_n 2, 1, []), (.iload_n 3, 1, []), (.iload 4, 2, []), (.aload_n 0, 1, [])] (by decide +kernel) (pc' := 105) (ls' := [(2, Int.ofNat o0), (0, v1), (0, b7), (0, b9), (0, b11)]) (st' := [(2, Int.ofNat o0), (0, b11), (0, b9), (0, b7), (2, Int.ofNat (o0 + 42))]) rfl ?_
      refine jEv.gfR (o' := (o0 + 35)) (show jfI 144 105 (.getfield 45) 3 [11, 10, 5, 0, 3011] = true by decide +kernel) (isX11_L ho0) (by decide) (isX11_r10 ho0) ?_
      refine jEv.gfI (show jfI 144 108 (.getfield 127) 3 [9, 9, 0, 0, 2085] = true by decide +kernel) (isX9_L (isX11_s10 ho0)) (by decide) ?_
      refine jbind H (fun b14 Hb14 H => ?_)
      refine jEv.calV (st' := []) (show jfI 144 111 (.invokevirtual 336) 3 [1, 93, 4, 4132] = true by decide +kernel) rfl (Or.inl rfl) rfl (Nat.le_of_ble_eq_true rfl) (by decide +kernel) (by decide) (isX7_L (isX9_s3 (isX11_s10 ho0))) ((t_Qu_add (T := T) (xs := xs) (isX9_s3 (isX11_s10 ho0)) Hb14).mono (jKle 2 hd)) rfl ?_
      refine jEv.blk [(.iinc 1 1, 3, [])] (by decide +kernel) (pc' := 117) (ls' := [(2, Int.ofNat o0), (0, (wr (v1 + 1))), (0, b7), (0, b9), (0, b11)]) (st' := []) rfl ?_
      refine jEv.goto (t := 31) (show jfI 144 117 (.goto (-86)) 3 [] = true by decide +kernel) rfl ?_
      exact jEv.weak (a := [(2, Int.ofNat o0), (0, (wr (v1 + 1))), (3, 0), (3, 0), (3, 0)]) (jles.c1 (jles.c1 (jles.c0 (jles.c0 (jles.c0 jles.nl))))) ((by cases H; exact HY))
  · refine jmapr H HY (fun out H (HY : ykV T y out) => ?_)
    exact jEv.retV (show jfI 144 120 (.return_) 1 [] = true by decide +kernel) (by decide +kernel) (by cases H; exact HY)
theorem t_G_begin_L31 {T : jT} {xs : List Int} {d : Nat} {y : jV × jS} (hd : 4 ≤ d) {h : jH}  {o0 : Nat} {v1 : Int} {out : jH} (ho0 : isX11 T o0) (H : G_begin_L31 T h o0 v1 = some out) (HY : ykV T y out) : jEv xs d (144, 31, [(2, Int.ofNat o0), (0, v1), (3, 0), (3, 0), (3, 0)], []) (T, h) y :=
  jloop_sound (G := fun s : (Int × jH) => jEv xs d (144, 31, [(2, Int.ofNat o0), (0, s.1), (3, 0), (3, 0), (3, 0)], []) (T, s.2) y) (K := yk_G_begin_L31 T xs d y o0) (fun s out H HY => t_G_begin_B31 hd ho0 H HY) (fun s' hg => hg) (s := (v1, h)) H HY
set_option maxRecDepth 20000 in
noncomputable def G_begin (T : jT) (h : jH) (o0 : Nat) : Option jH := Option.bind (jdyn (isX6 T) ((jup (jup h o0 7 0) o0 13 0) o0 8)) (fun q1 => Option.bind (St_blank (jup (jup h o0 7 0) o0 13 0) (o0 + 35) q1) (fun b2 => Option.bind (St_openAtOnce b2 (o0 + 35) 0) (fun b3 => G_begin_L31 T b3 o0 0)))
set_option maxRecDepth 20000 in
theorem t_G_begin {T : jT} {xs : List Int} {h : jH}  {o0 : Nat} {out : jH} (ho0 : isX11 T o0) (H : G_begin T h o0 = some out) : jEm xs 5 144 [(2, Int.ofNat o0)] (T, h) ((3, 0), (T, out)) := by
  have hd : 4 ≤ 4 := Nat.le_refl _
  obtain ⟨y, ey⟩ : ∃ y : jV × jS, y = ((3, 0), (T, out)) := ⟨_, rfl⟩
  rw [← ey]
  have HY : ykV T y out := ey
  refine jEm.ent (n := 5) (by decide +kernel) (Nat.le_of_ble_eq_true rfl) ?_
  show jEv xs 4 (144, 0, [(2, Int.ofNat o0), (3, 0), (3, 0), (3, 0), (3, 0)], []) (T, h) y
  unfold G_begin at H
  refine jEv.blk [(.aload_n 0, 1, []), (.iconst 0, 1, [])] (by decide +kernel) (pc' := 2) (ls' := [(2, Int.ofNat o0), (3, 0), (3, 0), (3, 0), (3, 0)]) (st' := [(0, 0), (2, Int.ofNat o0)]) rfl ?_
  refine jEv.pfI (show jfI 144 2 (.putfield 173) 3 [11, 7, 0, 0, 3008] = true by decide +kernel) (isX11_L ho0) (by decide) ?_
  refine jEv.blk [(.aload_n 0, 1, []), (.iconst 0, 1, [])] (by decide +kernel) (pc' := 7) (ls' := [(2, Int.ofNat o0), (3, 0), (3, 0), (3, 0), (3, 0)]) (st' := [(0, 0), (2, Int.ofNat o0)]) rfl ?_
  refine jEv.pfI (show jfI 144 7 (.putfield 176) 3 [11, 13, 0, 0, 3014] = true by decide +kernel) (isX11_L ho0) (by decide) ?_
  refine jEv.blk [(.aload_n 0, 1, [])] (by decide +kernel) (pc' := 11) (ls' := [(2, Int.ofNat o0), (3, 0), (3, 0), (3, 0), (3, 0)]) (st' := [(2, Int.ofNat o0)]) rfl ?_
  refine jEv.gfR (o' := (o0 + 35)) (show jfI 144 11 (.getfield 45) 3 [11, 10, 5, 0, 3011] = true by decide +kernel) (isX11_L ho0) (by decide) (isX11_r10 ho0) ?_
  refine jEv.blk [(.aload_n 0, 1, [])] (by decide +kernel) (pc' := 15) (ls' := [(2, Int.ofNat o0), (3, 0), (3, 0), (3, 0), (3, 0)]) (st' := [(2, Int.ofNat o0), (2, Int.ofNat (o0 + 35))]) rfl ?_
  refine jEv.gfD (show jfI 144 15 (.getfield 29) 3 [11, 8, 2, 0, 3009] = true by decide +kernel) (isX11_L ho0) (by decide) H (fun q1 hq1 H => ?_)
  refine jbind H (fun b2 Hb2 H => ?_)
  refine jEv.calV (st' := []) (show jfI 144 18 (.invokevirtual 409) 3 [1, 109, 1, 4070] = true by decide +kernel) rfl (Or.inl rfl) rfl (Nat.le_of_ble_eq_true rfl) (by decide +kernel) (by decide) (isX9_L (isX11_s10 ho0)) ((t_St_blank (T := T) (xs := xs) (isX11_s10 ho0) hq1 Hb2).mono (jKle 3 hd)) rfl ?_
  refine jEv.blk [(.aload_n 0, 1, [])] (by decide +kernel) (pc' := 22) (ls' := [(2, Int.ofNat o0), (3, 0), (3, 0), (3, 0), (3, 0)]) (st' := [(2, Int.ofNat o0)]) rfl ?_
  refine jEv.gfR (o' := (o0 + 35)) (show jfI 144 22 (.getfield 45) 3 [11, 10, 5, 0, 3011] = true by decide +kernel) (isX11_L ho0) (by decide) (isX11_r10 ho0) ?_
  refine jEv.blk [(.iconst 0, 1, [])] (by decide +kernel) (pc' := 26) (ls' := [(2, Int.ofNat o0), (3, 0), (3, 0), (3, 0), (3, 0)]) (st' := [(0, 0), (2, Int.ofNat (o0 + 35))]) rfl ?_
  refine jbind H (fun b3 Hb3 H => ?_)
  refine jEv.calV (st' := []) (show jfI 144 26 (.invokevirtual 433) 3 [1, 110, 1, 4095] = true by decide +kernel) rfl (Or.inl rfl) rfl (Nat.le_of_ble_eq_true rfl) (by decide +kernel) (by decide) (isX9_L (isX11_s10 ho0)) ((t_St_openAtOnce (T := T) (xs := xs) (isX11_s10 ho0) Hb3).mono (jKle 4 hd)) rfl ?_
  refine jEv.blk [(.iconst 0, 1, []), (.istore_n 1, 1, [])] (by decide +kernel) (pc' := 31) (ls' := [(2, Int.ofNat o0), (0, 0), (3, 0), (3, 0), (3, 0)]) (st' := []) rfl ?_
  exact t_G_begin_L31 (T := T) (xs := xs) (y := y) hd ho0 H HY
set_option maxRecDepth 20000 in
noncomputable def G_journal (T : jT) (h : jH) (o0 : Nat) : Option (Int × jH) := Option.bind (G_takeTape h o0) (fun b1 => Option.bind (Pa_readJournal T b1.2 (o0 + 17) (o0 + 1) 1600 b1.1) (fun b2 => (if b2.1 = 0 then Option.bind (G_refuse b2.2 o0 1) (fun b4 => some (b4.1, b4.2)) else Option.bind (jdyn (isX6 T) (b2.2 (o0 + 17) 0)) (fun q5 => Option.bind (jdyn (isX6 T) (b2.2 o0 8)) (fun q6 => Option.bind (G_begin T (jup (jup b2.2 (o0 + 17) 0 (Int.ofNat q6)) o0 8 (Int.ofNat q5)) o0) (fun b7 => Option.bind (jdyn (isX6 T) (b7 o0 8)) (fun q8 => some ((b7 q8 4), b7))))))))
set_option maxRecDepth 20000 in
theorem t_G_journal {T : jT} {xs : List Int} {h : jH}  {o0 : Nat} {out : (Int × jH)} (ho0 : isX11 T o0) (H : G_journal T h o0 = some out) : jEm xs 90 142 [(2, Int.ofNat o0)] (T, h) ((0, out.1), (T, out.2)) := by
  have hd : 89 ≤ 89 := Nat.le_refl _
  obtain ⟨y, ey⟩ : ∃ y : jV × jS, y = ((0, out.1), (T, out.2)) := ⟨_, rfl⟩
  rw [← ey]
  have HY : ykI T y out := ey
  refine jEm.ent (n := 2) (by decide +kernel) (Nat.le_of_ble_eq_true rfl) ?_
  show jEv xs 89 (142, 0, [(2, Int.ofNat o0), (3, 0)], []) (T, h) y
  unfold G_journal at H
  refine jEv.blk [(.aload_n 0, 1, [])] (by decide +kernel) (pc' := 1) (ls' := [(2, Int.ofNat o0), (3, 0)]) (st' := [(2, Int.ofNat o0)]) rfl ?_
  refine jEv.gfR (o' := (o0 + 17)) (show jfI 142 1 (.getfield 36) 3 [11, 9, 5, 0, 3010] = true by decide +kernel) (isX11_L ho0) (by decide) (isX11_r9 ho0) ?_
  refine jEv.blk [(.aload_n 0, 1, [])] (by decide +kernel) (pc' := 5) (ls' := [(2, Int.ofNat o0), (3, 0)]) (st' := [(2, Int.ofNat o0), (2, Int.ofNat (o0 + 17))]) rfl ?_
  refine jEv.gfR (o' := (o0 + 1)) (show jfI 142 5 (.getfield 9) 3 [11, 0, 5, 0, 3001] = true by decide +kernel) (isX11_L ho0) (by decide) (isX11_r0 ho0) ?_
  refine jEv.blk [(.aload_n 0, 1, [])] (by decide +kernel) (pc' := 9) (ls' := [(2, Int.ofNat o0), (3, 0)]) (st' := [(2, Int.ofNat o0), (2, Int.ofNat (o0 + 1)), (2, Int.ofNat (o0 + 17))]) rfl ?_
  refine jbind H (fun b1 Hb1 H => ?_)
  refine jEv.calV (st' := [(0, b1.1), (2, Int.ofNat (o0 + 1)), (2, Int.ofNat (o0 + 17))]) (show jfI 142 9 (.invokevirtual 92) 3 [1, 143, 0, 3092] = true by decide +kernel) rfl (Or.inl rfl) rfl (Nat.le_of_ble_eq_true rfl) (by decide +kernel) (by decide) (isX11_L ho0) ((t_G_takeTape (T := T) (xs := xs) ho0 Hb1).mono (jKle 1 hd)) rfl ?_
  refine jbind H (fun b2 Hb2 H => ?_)
  refine jEv.calV (st' := [(0, b2.1)]) (show jfI 142 12 (.invokevirtual 96) 3 [1, 48, 2, 3096] = true by decide +kernel) rfl (Or.inl rfl) rfl (Nat.le_of_ble_eq_true rfl) (by decide +kernel) (by decide) (isX4_L (isX11_s9 ho0)) ((t_Pa_readJournal (T := T) (xs := xs) (isX11_s9 ho0) (isX11_a0 ho0) Hb2).mono (jKle 89 hd)) rfl ?_
  refine jEv.if_ne (t := 24) (show jfI 142 15 (.ifCond .ne 9) 3 [] = true by decide +kernel) rfl H (fun c3 H => ?_) (fun c3 H => ?_)
  · refine jEv.blk [(.aload_n 0, 1, []), (.iconst 1, 1, [])] (by decide +kernel) (pc' := 20) (ls' := [(2, Int.ofNat o0), (3, 0)]) (st' := [(0, 1), (2, Int.ofNat o0)]) rfl ?_
    refine jbind H (fun b4 Hb4 H => ?_)
    refine jEv.calV (st' := [(0, b4.1)]) (show jfI 142 20 (.invokevirtual 80) 3 [1, 136, 1, 3066] = true by decide +kernel) rfl (Or.inl rfl) rfl (Nat.le_of_ble_eq_true rfl) (by decide +kernel) (by decide) (isX11_L ho0) ((t_G_refuse (T := T) (xs := xs) ho0 Hb4).mono (jKle 2 hd)) rfl ?_
    exact jEv.retI (show jfI 142 23 (.ireturn) 1 [] = true by decide +kernel) (by decide +kernel) (by cases H; exact HY)
  · refine jEv.blk [(.aload_n 0, 1, [])] (by decide +kernel) (pc' := 25) (ls' := [(2, Int.ofNat o0), (3, 0)]) (st' := [(2, Int.ofNat o0)]) rfl ?_
    refine jEv.gfR (o' := (o0 + 17)) (show jfI 142 25 (.getfield 36) 3 [11, 9, 5, 0, 3010] = true by decide +kernel) (isX11_L ho0) (by decide) (isX11_r9 ho0) ?_
    refine jEv.gfD (show jfI 142 28 (.getfield 100) 3 [4, 0, 2, 0, 1127] = true by decide +kernel) (isX4_L (isX11_s9 ho0)) (by decide) H (fun q5 hq5 H => ?_)
    refine jEv.blk [(.astore_n 1, 1, []), (.aload_n 0, 1, [])] (by decide +kernel) (pc' := 33) (ls' := [(2, Int.ofNat o0), (2, Int.ofNat q5)]) (st' := [(2, Int.ofNat o0)]) rfl ?_
    refine jEv.gfR (o' := (o0 + 17)) (show jfI 142 33 (.getfield 36) 3 [11, 9, 5, 0, 3010] = true by decide +kernel) (isX11_L ho0) (by decide) (isX11_r9 ho0) ?_
    refine jEv.blk [(.aload_n 0, 1, [])] (by decide +kernel) (pc' := 37) (ls' := [(2, Int.ofNat o0), (2, Int.ofNat q5)]) (st' := [(2, Int.ofNat o0), (2, Int.ofNat (o0 + 17))]) rfl ?_
    refine jEv.gfD (show jfI 142 37 (.getfield 29) 3 [11, 8, 2, 0, 3009] = true by decide +kernel) (isX11_L ho0) (by decide) H (fun q6 hq6 H => ?_)
    refine jEv.pfD (show jfI 142 40 (.putfield 100) 3 [4, 0, 2, 0, 1127] = true by decide +kernel) (isX4_L (isX11_s9 ho0)) (by decide) ?_
    refine jEv.blk [(.aload_n 0, 1, []), (.aload_n 1, 1, [])] (by decide +kernel) (pc' := 45) (ls' := [(2, Int.ofNat o0), (2, Int.ofNat q5)]) (st' := [(2, Int.ofNat q5), (2, Int.ofNat o0)]) rfl ?_
    refine jEv.pfD (show jfI 142 45 (.putfield 29) 3 [11, 8, 2, 0, 3009] = true by decide +kernel) (isX11_L ho0) (by decide) ?_
    refine jEv.blk [(.aload_n 0, 1, [])] (by decide +kernel) (pc' := 49) (ls' := [(2, Int.ofNat o0), (2, Int.ofNat q5)]) (st' := [(2, Int.ofNat o0)]) rfl ?_
    refine jbind H (fun b7 Hb7 H => ?_)
    refine jEv.calV (st' := []) (show jfI 142 49 (.invokevirtual 103) 3 [1, 144, 0, 4066] = true by decide +kernel) rfl (Or.inl rfl) rfl (Nat.le_of_ble_eq_true rfl) (by decide +kernel) (by decide) (isX11_L ho0) ((t_G_begin (T := T) (xs := xs) ho0 Hb7).mono (jKle 5 hd)) rfl ?_
    refine jEv.blk [(.aload_n 0, 1, [])] (by decide +kernel) (pc' := 53) (ls' := [(2, Int.ofNat o0), (2, Int.ofNat q5)]) (st' := [(2, Int.ofNat o0)]) rfl ?_
    refine jEv.gfD (show jfI 142 53 (.getfield 29) 3 [11, 8, 2, 0, 3009] = true by decide +kernel) (isX11_L ho0) (by decide) H (fun q8 hq8 H => ?_)
    refine jEv.gfI (show jfI 142 56 (.getfield 106) 3 [6, 4, 0, 0, 1070] = true by decide +kernel) (isX6_L hq8) (by decide) ?_
    exact jEv.retI (show jfI 142 59 (.ireturn) 1 [] = true by decide +kernel) (by decide +kernel) (by cases H; exact HY)
set_option maxRecDepth 20000 in
noncomputable def G_fault  (h : jH) (o0 : Nat) (v1 : Int) : Option Int := (if v1 = 0 then some (h (o0 + 17) 3) else (if v1 = 1 then some (h (o0 + 17) 4) else some (-1)))
set_option maxRecDepth 20000 in
theorem t_G_fault {T : jT} {xs : List Int} {h : jH}  {o0 : Nat} {v1 : Int} {out : Int} (ho0 : isX11 T o0) (H : G_fault h o0 v1 = some out) : jEm xs 1 146 [(2, Int.ofNat o0), (0, v1)] (T, h) ((0, out), (T, h)) := by
  have hd : 0 ≤ 0 := Nat.le_refl _
  obtain ⟨y, ey⟩ : ∃ y : jV × jS, y = ((0, out), (T, h)) := ⟨_, rfl⟩
  rw [← ey]
  have HY : ykIp T h y out := ey
  refine jEm.ent (n := 2) (by decide +kernel) (Nat.le_of_ble_eq_true rfl) ?_
  show jEv xs 0 (146, 0, [(2, Int.ofNat o0), (0, v1)], []) (T, h) y
  unfold G_fault at H
  refine jEv.blk [(.iload_n 1, 1, [])] (by decide +kernel) (pc' := 1) (ls' := [(2, Int.ofNat o0), (0, v1)]) (st' := [(0, v1)]) rfl ?_
  refine jEv.if_ne (t := 14) (show jfI 146 1 (.ifCond .ne 13) 3 [] = true by decide +kernel) rfl H (fun c1 H => ?_) (fun c1 H => ?_)
  · refine jEv.blk [(.aload_n 0, 1, [])] (by decide +kernel) (pc' := 5) (ls' := [(2, Int.ofNat o0), (0, v1)]) (st' := [(2, Int.ofNat o0)]) rfl ?_
    refine jEv.gfR (o' := (o0 + 17)) (show jfI 146 5 (.getfield 36) 3 [11, 9, 5, 0, 3010] = true by decide +kernel) (isX11_L ho0) (by decide) (isX11_r9 ho0) ?_
    refine jEv.gfI (show jfI 146 8 (.getfield 109) 3 [4, 3, 0, 0, 1133] = true by decide +kernel) (isX4_L (isX11_s9 ho0)) (by decide) ?_
    refine jEv.goto (t := 30) (show jfI 146 11 (.goto 19) 3 [] = true by decide +kernel) rfl ?_
    exact jEv.retI (show jfI 146 30 (.ireturn) 1 [] = true by decide +kernel) (by decide +kernel) (by cases H; exact HY)
  · refine jEv.blk [(.iload_n 1, 1, []), (.iconst 1, 1, [])] (by decide +kernel) (pc' := 16) (ls' := [(2, Int.ofNat o0), (0, v1)]) (st' := [(0, 1), (0, v1)]) rfl ?_
    refine jEv.ic_ne (t := 29) (show jfI 146 16 (.if_icmp .ne 13) 3 [] = true by decide +kernel) rfl H (fun c2 H => ?_) (fun c2 H => ?_)
    · refine jEv.blk [(.aload_n 0, 1, [])] (by decide +kernel) (pc' := 20) (ls' := [(2, Int.ofNat o0), (0, v1)]) (st' := [(2, Int.ofNat o0)]) rfl ?_
      refine jEv.gfR (o' := (o0 + 17)) (show jfI 146 20 (.getfield 36) 3 [11, 9, 5, 0, 3010] = true by decide +kernel) (isX11_L ho0) (by decide) (isX11_r9 ho0) ?_
      refine jEv.gfI (show jfI 146 23 (.getfield 112) 3 [4, 4, 0, 0, 1135] = true by decide +kernel) (isX4_L (isX11_s9 ho0)) (by decide) ?_
      refine jEv.goto (t := 30) (show jfI 146 26 (.goto 4) 3 [] = true by decide +kernel) rfl ?_
      exact jEv.retI (show jfI 146 30 (.ireturn) 1 [] = true by decide +kernel) (by decide +kernel) (by cases H; exact HY)
    · refine jEv.blk [(.iconst (-1), 1, [])] (by decide +kernel) (pc' := 30) (ls' := [(2, Int.ofNat o0), (0, v1)]) (st' := [(0, (-1))]) rfl ?_
      exact jEv.retI (show jfI 146 30 (.ireturn) 1 [] = true by decide +kernel) (by decide +kernel) (by cases H; exact HY)
set_option maxRecDepth 20000 in
noncomputable def G_has  (h : jH) (o0 : Nat) (v1 : Int) : Option Int := (if v1 = 0 then some (h (o0 + 36) 2) else (if v1 = 1 then some (h (o0 + 36) 3) else (if v1 = 2 then some (h (o0 + 35) 9) else (if v1 = 3 then Option.bind (Qu_behindLast h (o0 + 42)) (fun b5 => some b5) else (if v1 = 4 then some (h (o0 + 42) 4) else (if v1 = 5 then Option.bind (Qu_waitingCount h (o0 + 42)) (fun b8 => some b8) else (if v1 = 6 then some (h (o0 + 39) 2) else (if v1 = 7 then some (h (o0 + 39) 3) else (if v1 = 8 then some (h (o0 + 35) 7) else (if v1 = 9 then some (h (o0 + 47) 2) else (if v1 = 10 then Option.bind (Di_scarCount h (o0 + 36)) (fun b14 => some b14) else (if v1 = 11 then Option.bind (Wa_told h (o0 + 47)) (fun b16 => some b16) else (if v1 = 12 then some (h o0 7) else (if v1 = 13 then some (h o0 13) else (if v1 = 14 then (if (h (o0 + 35) 14) = 0 then some 0 else some 1) else some (-1))))))))))))))))
set_option maxRecDepth 20000 in
theorem t_G_has {T : jT} {xs : List Int} {h : jH}  {o0 : Nat} {v1 : Int} {out : Int} (ho0 : isX11 T o0) (H : G_has h o0 v1 = some out) : jEm xs 3 147 [(2, Int.ofNat o0), (0, v1)] (T, h) ((0, out), (T, h)) := by
  have hd : 2 ≤ 2 := Nat.le_refl _
  obtain ⟨y, ey⟩ : ∃ y : jV × jS, y = ((0, out), (T, h)) := ⟨_, rfl⟩
  rw [← ey]
  have HY : ykIp T h y out := ey
  refine jEm.ent (n := 2) (by decide +kernel) (Nat.le_of_ble_eq_true rfl) ?_
  show jEv xs 2 (147, 0, [(2, Int.ofNat o0), (0, v1)], []) (T, h) y
  unfold G_has at H
  refine jEv.blk [(.iload_n 1, 1, [])] (by decide +kernel) (pc' := 1) (ls' := [(2, Int.ofNat o0), (0, v1)]) (st' := [(0, v1)]) rfl ?_
  refine jite H (fun c1 H => ?_) (fun c1 H => ?_)
  · refine jEv.tsI (v := 0) (off := 75) (t := 76) (show jfI 147 1 (.tableswitch 227 0 14 #[75, 86, 97, 105, 116, 127, 138, 149, 160, 168, 179, 190, 201, 206, 211]) 75 [] = true by decide +kernel) c1 (by decide) (by decide) rfl (by decide) ?_
    refine jEv.blk [(.aload_n 0, 1, [])] (by decide +kernel) (pc' := 77) (ls' := [(2, Int.ofNat o0), (0, v1)]) (st' := [(2, Int.ofNat o0)]) rfl ?_
    refine jEv.gfR (o' := (o0 + 35)) (show jfI 147 77 (.getfield 45) 3 [11, 10, 5, 0, 3011] = true by decide +kernel) (isX11_L ho0) (by decide) (isX11_r10 ho0) ?_
    refine jEv.gfR (o' := (o0 + 36)) (show jfI 147 80 (.getfield 115) 3 [9, 1, 5, 0, 2067] = true by decide +kernel) (isX9_L (isX11_s10 ho0)) (by decide) (isX9_r1 (isX11_s10 ho0)) ?_
    refine jEv.gfI (show jfI 147 83 (.getfield 119) 3 [0, 2, 0, 0, 1185] = true by decide +kernel) (isX0_L (isX9_s1 (isX11_s10 ho0))) (by decide) ?_
    exact jEv.retI (show jfI 147 86 (.ireturn) 1 [] = true by decide +kernel) (by decide +kernel) (by cases H; exact HY)
  · refine jite H (fun c2 H => ?_) (fun c2 H => ?_)
    · refine jEv.tsI (v := 1) (off := 86) (t := 87) (show jfI 147 1 (.tableswitch 227 0 14 #[75, 86, 97, 105, 116, 127, 138, 149, 160, 168, 179, 190, 201, 206, 211]) 75 [] = true by decide +kernel) c2 (by decide) (by decide) rfl (by decide) ?_
      refine jEv.blk [(.aload_n 0, 1, [])] (by decide +kernel) (pc' := 88) (ls' := [(2, Int.ofNat o0), (0, v1)]) (st' := [(2, Int.ofNat o0)]) rfl ?_
      refine jEv.gfR (o' := (o0 + 35)) (show jfI 147 88 (.getfield 45) 3 [11, 10, 5, 0, 3011] = true by decide +kernel) (isX11_L ho0) (by decide) (isX11_r10 ho0) ?_
      refine jEv.gfR (o' := (o0 + 36)) (show jfI 147 91 (.getfield 115) 3 [9, 1, 5, 0, 2067] = true by decide +kernel) (isX9_L (isX11_s10 ho0)) (by decide) (isX9_r1 (isX11_s10 ho0)) ?_
      refine jEv.gfI (show jfI 147 94 (.getfield 124) 3 [0, 3, 0, 0, 1190] = true by decide +kernel) (isX0_L (isX9_s1 (isX11_s10 ho0))) (by decide) ?_
      exact jEv.retI (show jfI 147 97 (.ireturn) 1 [] = true by decide +kernel) (by decide +kernel) (by cases H; exact HY)
    · refine jite H (fun c3 H => ?_) (fun c3 H => ?_)
      · refine jEv.tsI (v := 2) (off := 97) (t := 98) (show jfI 147 1 (.tableswitch 227 0 14 #[75, 86, 97, 105, 116, 127, 138, 149, 160, 168, 179, 190, 201, 206, 211]) 75 [] = true by decide +kernel) c3 (by decide) (by decide) rfl (by decide) ?_
        refine jEv.blk [(.aload_n 0, 1, [])] (by decide +kernel) (pc' := 99) (ls' := [(2, Int.ofNat o0), (0, v1)]) (st' := [(2, Int.ofNat o0)]) rfl ?_
        refine jEv.gfR (o' := (o0 + 35)) (show jfI 147 99 (.getfield 45) 3 [11, 10, 5, 0, 3011] = true by decide +kernel) (isX11_L ho0) (by decide) (isX11_r10 ho0) ?_
        refine jEv.gfI (show jfI 147 102 (.getfield 127) 3 [9, 9, 0, 0, 2085] = true by decide +kernel) (isX9_L (isX11_s10 ho0)) (by decide) ?_
        exact jEv.retI (show jfI 147 105 (.ireturn) 1 [] = true by decide +kernel) (by decide +kernel) (by cases H; exact HY)
      · refine jite H (fun c4 H => ?_) (fun c4 H => ?_)
        · refine jEv.tsI (v := 3) (off := 105) (t := 106) (show jfI 147 1 (.tableswitch 227 0 14 #[75, 86, 97, 105, 116, 127, 138, 149, 160, 168, 179, 190, 201, 206, 211]) 75 [] = true by decide +kernel) c4 (by decide) (by decide) rfl (by decide) ?_
          refine jEv.blk [(.aload_n 0, 1, [])] (by decide +kernel) (pc' := 107) (ls' := [(2, Int.ofNat o0), (0, v1)]) (st' := [(2, Int.ofNat o0)]) rfl ?_
          refine jEv.gfR (o' := (o0 + 35)) (show jfI 147 107 (.getfield 45) 3 [11, 10, 5, 0, 3011] = true by decide +kernel) (isX11_L ho0) (by decide) (isX11_r10 ho0) ?_
          refine jEv.gfR (o' := (o0 + 42)) (show jfI 147 110 (.getfield 130) 3 [9, 3, 5, 0, 2073] = true by decide +kernel) (isX9_L (isX11_s10 ho0)) (by decide) (isX9_r3 (isX11_s10 ho0)) ?_
          refine jbind H (fun b5 Hb5 H => ?_)
          refine jEv.calV (st' := [(0, b5)]) (show jfI 147 113 (.invokevirtual 134) 3 [1, 94, 0, 4146] = true by decide +kernel) rfl (Or.inl rfl) rfl (Nat.le_of_ble_eq_true rfl) (by decide +kernel) (by decide) (isX7_L (isX9_s3 (isX11_s10 ho0))) ((t_Qu_behindLast (T := T) (xs := xs) (isX9_s3 (isX11_s10 ho0)) Hb5).mono (jKle 1 hd)) rfl ?_
          exact jEv.retI (show jfI 147 116 (.ireturn) 1 [] = true by decide +kernel) (by decide +kernel) (by cases H; exact HY)
        · refine jite H (fun c6 H => ?_) (fun c6 H => ?_)
          · refine jEv.tsI (v := 4) (off := 116) (t := 117) (show jfI 147 1 (.tableswitch 227 0 14 #[75, 86, 97, 105, 116, 127, 138, 149, 160, 168, 179, 190, 201, 206, 211]) 75 [] = true by decide +kernel) c6 (by decide) (by decide) rfl (by decide) ?_
            refine jEv.blk [(.aload_n 0, 1, [])] (by decide +kernel) (pc' := 118) (ls' := [(2, Int.ofNat o0), (0, v1)]) (st' := [(2, Int.ofNat o0)]) rfl ?_
            refine jEv.gfR (o' := (o0 + 35)) (show jfI 147 118 (.getfield 45) 3 [11, 10, 5, 0, 3011] = true by decide +kernel) (isX11_L ho0) (by decide) (isX11_r10 ho0) ?_
            refine jEv.gfR (o' := (o0 + 42)) (show jfI 147 121 (.getfield 130) 3 [9, 3, 5, 0, 2073] = true by decide +kernel) (isX9_L (isX11_s10 ho0)) (by decide) (isX9_r3 (isX11_s10 ho0)) ?_
            refine jEv.gfI (show jfI 147 124 (.getfield 139) 3 [7, 4, 0, 0, 2008] = true by decide +kernel) (isX7_L (isX9_s3 (isX11_s10 ho0))) (by decide) ?_
            exact jEv.retI (show jfI 147 127 (.ireturn) 1 [] = true by decide +kernel) (by decide +kernel) (by cases H; exact HY)
          · refine jite H (fun c7 H => ?_) (fun c7 H => ?_)
            · refine jEv.tsI (v := 5) (off := 127) (t := 128) (show jfI 147 1 (.tableswitch 227 0 14 #[75, 86, 97, 105, 116, 127, 138, 149, 160, 168, 179, 190, 201, 206, 211]) 75 [] = true by decide +kernel) c7 (by decide) (by decide) rfl (by decide) ?_
              refine jEv.blk [(.aload_n 0, 1, [])] (by decide +kernel) (pc' := 129) (ls' := [(2, Int.ofNat o0), (0, v1)]) (st' := [(2, Int.ofNat o0)]) rfl ?_
              refine jEv.gfR (o' := (o0 + 35)) (show jfI 147 129 (.getfield 45) 3 [11, 10, 5, 0, 3011] = true by decide +kernel) (isX11_L ho0) (by decide) (isX11_r10 ho0) ?_
              refine jEv.gfR (o' := (o0 + 42)) (show jfI 147 132 (.getfield 130) 3 [9, 3, 5, 0, 2073] = true by decide +kernel) (isX9_L (isX11_s10 ho0)) (by decide) (isX9_r3 (isX11_s10 ho0)) ?_
              refine jbind H (fun b8 Hb8 H => ?_)
              refine jEv.calV (st' := [(0, b8)]) (show jfI 147 135 (.invokevirtual 142) 3 [1, 92, 0, 4150] = true by decide +kernel) rfl (Or.inl rfl) rfl (Nat.le_of_ble_eq_true rfl) (by decide +kernel) (by decide) (isX7_L (isX9_s3 (isX11_s10 ho0))) ((t_Qu_waitingCount (T := T) (xs := xs) (isX9_s3 (isX11_s10 ho0)) Hb8).mono (jKle 1 hd)) rfl ?_
              exact jEv.retI (show jfI 147 138 (.ireturn) 1 [] = true by decide +kernel) (by decide +kernel) (by cases H; exact HY)
            · refine jite H (fun c9 H => ?_) (fun c9 H => ?_)
              · refine jEv.tsI (v := 6) (off := 138) (t := 139) (show jfI 147 1 (.tableswitch 227 0 14 #[75, 86, 97, 105, 116, 127, 138, 149, 160, 168, 179, 190, 201, 206, 211]) 75 [] = true by decide +kernel) c9 (by decide) (by decide) rfl (by decide) ?_
                refine jEv.blk [(.aload_n 0, 1, [])] (by decide +kernel) (pc' := 140) (ls' := [(2, Int.ofNat o0), (0, v1)]) (st' := [(2, Int.ofNat o0)]) rfl ?_
                refine jEv.gfR (o' := (o0 + 35)) (show jfI 147 140 (.getfield 45) 3 [11, 10, 5, 0, 3011] = true by decide +kernel) (isX11_L ho0) (by decide) (isX11_r10 ho0) ?_
                refine jEv.gfR (o' := (o0 + 39)) (show jfI 147 143 (.getfield 145) 3 [9, 2, 5, 0, 2069] = true by decide +kernel) (isX9_L (isX11_s10 ho0)) (by decide) (isX9_r2 (isX11_s10 ho0)) ?_
                refine jEv.gfI (show jfI 147 146 (.getfield 149) 3 [1, 2, 0, 0, 1214] = true by decide +kernel) (isX1_L (isX9_s2 (isX11_s10 ho0))) (by decide) ?_
                exact jEv.retI (show jfI 147 149 (.ireturn) 1 [] = true by decide +kernel) (by decide +kernel) (by cases H; exact HY)
              · refine jite H (fun c10 H => ?_) (fun c10 H => ?_)
                · refine jEv.tsI (v := 7) (off := 149) (t := 150) (show jfI 147 1 (.tableswitch 227 0 14 #[75, 86, 97, 105, 116, 127, 138, 149, 160, 168, 179, 190, 201, 206, 211]) 75 [] = true by decide +kernel) c10 (by decide) (by decide) rfl (by decide) ?_
                  refine jEv.blk [(.aload_n 0, 1, [])] (by decide +kernel) (pc' := 151) (ls' := [(2, Int.ofNat o0), (0, v1)]) (st' := [(2, Int.ofNat o0)]) rfl ?_
                  refine jEv.gfR (o' := (o0 + 35)) (show jfI 147 151 (.getfield 45) 3 [11, 10, 5, 0, 3011] = true by decide +kernel) (isX11_L ho0) (by decide) (isX11_r10 ho0) ?_
                  refine jEv.gfR (o' := (o0 + 39)) (show jfI 147 154 (.getfield 145) 3 [9, 2, 5, 0, 2069] = true by decide +kernel) (isX9_L (isX11_s10 ho0)) (by decide) (isX9_r2 (isX11_s10 ho0)) ?_
                  refine jEv.gfI (show jfI 147 157 (.getfield 154) 3 [1, 3, 0, 0, 1218] = true by decide +kernel) (isX1_L (isX9_s2 (isX11_s10 ho0))) (by decide) ?_
                  exact jEv.retI (show jfI 147 160 (.ireturn) 1 [] = true by decide +kernel) (by decide +kernel) (by cases H; exact HY)
                · refine jite H (fun c11 H => ?_) (fun c11 H => ?_)
                  · refine jEv.tsI (v := 8) (off := 160) (t := 161) (show jfI 147 1 (.tableswitch 227 0 14 #[75, 86, 97, 105, 116, 127, 138, 149, 160, 168, 179, 190, 201, 206, 211]) 75 [] = true by decide +kernel) c11 (by decide) (by decide) rfl (by decide) ?_
                    refine jEv.blk [(.aload_n 0, 1, [])] (by decide +kernel) (pc' := 162) (ls' := [(2, Int.ofNat o0), (0, v1)]) (st' := [(2, Int.ofNat o0)]) rfl ?_
                    refine jEv.gfR (o' := (o0 + 35)) (show jfI 147 162 (.getfield 45) 3 [11, 10, 5, 0, 3011] = true by decide +kernel) (isX11_L ho0) (by decide) (isX11_r10 ho0) ?_
                    refine jEv.gfI (show jfI 147 165 (.getfield 157) 3 [9, 7, 0, 0, 2081] = true by decide +kernel) (isX9_L (isX11_s10 ho0)) (by decide) ?_
                    exact jEv.retI (show jfI 147 168 (.ireturn) 1 [] = true by decide +kernel) (by decide +kernel) (by cases H; exact HY)
                  · refine jite H (fun c12 H => ?_) (fun c12 H => ?_)
                    · refine jEv.tsI (v := 9) (off := 168) (t := 169) (show jfI 147 1 (.tableswitch 227 0 14 #[75, 86, 97, 105, 116, 127, 138, 149, 160, 168, 179, 190, 201, 206, 211]) 75 [] = true by decide +kernel) c12 (by decide) (by decide) rfl (by decide) ?_
                      refine jEv.blk [(.aload_n 0, 1, [])] (by decide +kernel) (pc' := 170) (ls' := [(2, Int.ofNat o0), (0, v1)]) (st' := [(2, Int.ofNat o0)]) rfl ?_
                      refine jEv.gfR (o' := (o0 + 35)) (show jfI 147 170 (.getfield 45) 3 [11, 10, 5, 0, 3011] = true by decide +kernel) (isX11_L ho0) (by decide) (isX11_r10 ho0) ?_
                      refine jEv.gfR (o' := (o0 + 47)) (show jfI 147 173 (.getfield 160) 3 [9, 4, 5, 0, 2075] = true by decide +kernel) (isX9_L (isX11_s10 ho0)) (by decide) (isX9_r4 (isX11_s10 ho0)) ?_
                      refine jEv.gfI (show jfI 147 176 (.getfield 164) 3 [10, 2, 0, 0, 2040] = true by decide +kernel) (isX10_L (isX9_s4 (isX11_s10 ho0))) (by decide) ?_
                      exact jEv.retI (show jfI 147 179 (.ireturn) 1 [] = true by decide +kernel) (by decide +kernel) (by cases H; exact HY)
                    · refine jite H (fun c13 H => ?_) (fun c13 H => ?_)
                      · refine jEv.tsI (v := 10) (off := 179) (t := 180) (show jfI 147 1 (.tableswitch 227 0 14 #[75, 86, 97, 105, 116, 127, 138, 149, 160, 168, 179, 190, 201, 206, 211]) 75 [] = true by decide +kernel) c13 (by decide) (by decide) rfl (by decide) ?_
                        refine jEv.blk [(.aload_n 0, 1, [])] (by decide +kernel) (pc' := 181) (ls' := [(2, Int.ofNat o0), (0, v1)]) (st' := [(2, Int.ofNat o0)]) rfl ?_
                        refine jEv.gfR (o' := (o0 + 35)) (show jfI 147 181 (.getfield 45) 3 [11, 10, 5, 0, 3011] = true by decide +kernel) (isX11_L ho0) (by decide) (isX11_r10 ho0) ?_
                        refine jEv.gfR (o' := (o0 + 36)) (show jfI 147 184 (.getfield 115) 3 [9, 1, 5, 0, 2067] = true by decide +kernel) (isX9_L (isX11_s10 ho0)) (by decide) (isX9_r1 (isX11_s10 ho0)) ?_
                        refine jbind H (fun b14 Hb14 H => ?_)
                        refine jEv.calV (st' := [(0, b14)]) (show jfI 147 187 (.invokevirtual 167) 3 [1, 7, 0, 4151] = true by decide +kernel) rfl (Or.inl rfl) rfl (Nat.le_of_ble_eq_true rfl) (by decide +kernel) (by decide) (isX0_L (isX9_s1 (isX11_s10 ho0))) ((t_Di_scarCount (T := T) (xs := xs) (isX9_s1 (isX11_s10 ho0)) Hb14).mono (jKle 1 hd)) rfl ?_
                        exact jEv.retI (show jfI 147 190 (.ireturn) 1 [] = true by decide +kernel) (by decide +kernel) (by cases H; exact HY)
                      · refine jite H (fun c15 H => ?_) (fun c15 H => ?_)
                        · refine jEv.tsI (v := 11) (off := 190) (t := 191) (show jfI 147 1 (.tableswitch 227 0 14 #[75, 86, 97, 105, 116, 127, 138, 149, 160, 168, 179, 190, 201, 206, 211]) 75 [] = true by decide +kernel) c15 (by decide) (by decide) rfl (by decide) ?_
                          refine jEv.blk [(.aload_n 0, 1, [])] (by decide +kernel) (pc' := 192) (ls' := [(2, Int.ofNat o0), (0, v1)]) (st' := [(2, Int.ofNat o0)]) rfl ?_
                          refine jEv.gfR (o' := (o0 + 35)) (show jfI 147 192 (.getfield 45) 3 [11, 10, 5, 0, 3011] = true by decide +kernel) (isX11_L ho0) (by decide) (isX11_r10 ho0) ?_
                          refine jEv.gfR (o' := (o0 + 47)) (show jfI 147 195 (.getfield 160) 3 [9, 4, 5, 0, 2075] = true by decide +kernel) (isX9_L (isX11_s10 ho0)) (by decide) (isX9_r4 (isX11_s10 ho0)) ?_
                          refine jbind H (fun b16 Hb16 H => ?_)
                          refine jEv.calV (st' := [(0, b16)]) (show jfI 147 198 (.invokevirtual 170) 3 [1, 127, 0, 4155] = true by decide +kernel) rfl (Or.inl rfl) rfl (Nat.le_of_ble_eq_true rfl) (by decide +kernel) (by decide) (isX10_L (isX9_s4 (isX11_s10 ho0))) ((t_Wa_told (T := T) (xs := xs) (isX9_s4 (isX11_s10 ho0)) Hb16).mono (jKle 2 hd)) rfl ?_
                          exact jEv.retI (show jfI 147 201 (.ireturn) 1 [] = true by decide +kernel) (by decide +kernel) (by cases H; exact HY)
                        · refine jite H (fun c17 H => ?_) (fun c17 H => ?_)
                          · refine jEv.tsI (v := 12) (off := 201) (t := 202) (show jfI 147 1 (.tableswitch 227 0 14 #[75, 86, 97, 105, 116, 127, 138, 149, 160, 168, 179, 190, 201, 206, 211]) 75 [] = true by decide +kernel) c17 (by decide) (by decide) rfl (by decide) ?_
                            refine jEv.blk [(.aload_n 0, 1, [])] (by decide +kernel) (pc' := 203) (ls' := [(2, Int.ofNat o0), (0, v1)]) (st' := [(2, Int.ofNat o0)]) rfl ?_
                            refine jEv.gfI (show jfI 147 203 (.getfield 173) 3 [11, 7, 0, 0, 3008] = true by decide +kernel) (isX11_L ho0) (by decide) ?_
                            exact jEv.retI (show jfI 147 206 (.ireturn) 1 [] = true by decide +kernel) (by decide +kernel) (by cases H; exact HY)
                          · refine jite H (fun c18 H => ?_) (fun c18 H => ?_)
                            · refine jEv.tsI (v := 13) (off := 206) (t := 207) (show jfI 147 1 (.tableswitch 227 0 14 #[75, 86, 97, 105, 116, 127, 138, 149, 160, 168, 179, 190, 201, 206, 211]) 75 [] = true by decide +kernel) c18 (by decide) (by decide) rfl (by decide) ?_
                              refine jEv.blk [(.aload_n 0, 1, [])] (by decide +kernel) (pc' := 208) (ls' := [(2, Int.ofNat o0), (0, v1)]) (st' := [(2, Int.ofNat o0)]) rfl ?_
                              refine jEv.gfI (show jfI 147 208 (.getfield 176) 3 [11, 13, 0, 0, 3014] = true by decide +kernel) (isX11_L ho0) (by decide) ?_
                              exact jEv.retI (show jfI 147 211 (.ireturn) 1 [] = true by decide +kernel) (by decide +kernel) (by cases H; exact HY)
                            · refine jite H (fun c19 H => ?_) (fun c19 H => ?_)
                              · refine jEv.tsI (v := 14) (off := 211) (t := 212) (show jfI 147 1 (.tableswitch 227 0 14 #[75, 86, 97, 105, 116, 127, 138, 149, 160, 168, 179, 190, 201, 206, 211]) 75 [] = true by decide +kernel) c19 (by decide) (by decide) rfl (by decide) ?_
                                refine jEv.blk [(.aload_n 0, 1, [])] (by decide +kernel) (pc' := 213) (ls' := [(2, Int.ofNat o0), (0, v1)]) (st' := [(2, Int.ofNat o0)]) rfl ?_
                                refine jEv.gfR (o' := (o0 + 35)) (show jfI 147 213 (.getfield 45) 3 [11, 10, 5, 0, 3011] = true by decide +kernel) (isX11_L ho0) (by decide) (isX11_r10 ho0) ?_
                                refine jEv.gfI (show jfI 147 216 (.getfield 179) 3 [9, 14, 0, 1, 2099] = true by decide +kernel) (isX9_L (isX11_s10 ho0)) (by decide) ?_
                                refine jEv.if_eq (t := 226) (show jfI 147 219 (.ifCond .eq 7) 3 [] = true by decide +kernel) rfl H (fun c20 H => ?_) (fun c20 H => ?_)
                                · refine jEv.blk [(.iconst 0, 1, [])] (by decide +kernel) (pc' := 227) (ls' := [(2, Int.ofNat o0), (0, v1)]) (st' := [(0, 0)]) rfl ?_
                                  exact jEv.retI (show jfI 147 227 (.ireturn) 1 [] = true by decide +kernel) (by decide +kernel) (by cases H; exact HY)
                                · refine jEv.blk [(.iconst 1, 1, [])] (by decide +kernel) (pc' := 223) (ls' := [(2, Int.ofNat o0), (0, v1)]) (st' := [(0, 1)]) rfl ?_
                                  refine jEv.goto (t := 227) (show jfI 147 223 (.goto 4) 3 [] = true by decide +kernel) rfl ?_
                                  exact jEv.retI (show jfI 147 227 (.ireturn) 1 [] = true by decide +kernel) (by decide +kernel) (by cases H; exact HY)
                              · refine jEv.tsO (t := 228) (show jfI 147 1 (.tableswitch 227 0 14 #[75, 86, 97, 105, 116, 127, 138, 149, 160, 168, 179, 190, 201, 206, 211]) 75 [] = true by decide +kernel) (by omega) rfl (by decide) ?_
                                refine jEv.blk [(.iconst (-1), 1, [])] (by decide +kernel) (pc' := 229) (ls' := [(2, Int.ofNat o0), (0, v1)]) (st' := [(0, (-1))]) rfl ?_
                                exact jEv.retI (show jfI 147 229 (.ireturn) 1 [] = true by decide +kernel) (by decide +kernel) (by cases H; exact HY)
set_option maxRecDepth 20000 in
noncomputable def G_segment_p60  (h : jH)  : Option (Int × jH) := some (0, h)
set_option maxRecDepth 20000 in
theorem t_G_segment_p60 {T : jT} {xs : List Int} {d : Nat} {y : jV × jS} (hd : 4 ≤ d) {h : jH}   {out : (Int × jH)}  (H : G_segment_p60 h = some out) (HY : ykI T y out) : jEv xs d (148, 60, [(3, 0), (3, 0), (3, 0)], []) (T, h) y := by
  unfold G_segment_p60 at H
  refine jEv.blk [(.iconst 0, 1, [])] (by decide +kernel) (pc' := 61) (ls' := [(3, 0), (3, 0), (3, 0)]) (st' := [(0, 0)]) rfl ?_
  exact jEv.retI (show jfI 148 61 (.ireturn) 1 [] = true by decide +kernel) (by decide +kernel) (by cases H; exact HY)
set_option maxRecDepth 20000 in
noncomputable def G_segment  (h : jH) (o0 : Nat) (v1 : Int) (v2 : Int) : Option (Int × jH) := (if v1 < 0 then some ((-1), h) else (if v1 < (h (o0 + 36) 2) then (if v2 < 0 then some ((-1), h) else (if 3 < v2 then some ((-1), h) else (if v2 = 2 then (if v1 = (h (o0 + 35) 10) then G_segment_p60 h else Option.bind (St_isFree h (o0 + 35) v1) (fun b7 => (if b7 = 0 then G_segment_p60 h else some (1, h)))) else (if v2 = 3 then Option.bind (FR_frameCount h (o0 + 80) (o0 + 36) v1) (fun b10 => some (b10.1, b10.2)) else Option.bind (Di_headStands h (o0 + 36) v1) (fun b11 => (if b11 = 0 then some ((-1), h) else (if v2 = 0 then Option.bind (Di_serialOf h (o0 + 36) v1) (fun b14 => some (b14, h)) else Option.bind (Di_firstOf h (o0 + 36) v1) (fun b15 => some (b15, h))))))))) else some ((-1), h)))
set_option maxRecDepth 20000 in
theorem t_G_segment {T : jT} {xs : List Int} {h : jH}  {o0 : Nat} {v1 : Int} {v2 : Int} {out : (Int × jH)} (ho0 : isX11 T o0) (H : G_segment h o0 v1 v2 = some out) : jEm xs 5 148 [(2, Int.ofNat o0), (0, v1), (0, v2)] (T, h) ((0, out.1), (T, out.2)) := by
  have hd : 4 ≤ 4 := Nat.le_refl _
  obtain ⟨y, ey⟩ : ∃ y : jV × jS, y = ((0, out.1), (T, out.2)) := ⟨_, rfl⟩
  rw [← ey]
  have HY : ykI T y out := ey
  refine jEm.ent (n := 3) (by decide +kernel) (Nat.le_of_ble_eq_true rfl) ?_
  show jEv xs 4 (148, 0, [(2, Int.ofNat o0), (0, v1), (0, v2)], []) (T, h) y
  unfold G_segment at H
  refine jEv.blk [(.iload_n 1, 1, [])] (by decide +kernel) (pc' := 1) (ls' := [(2, Int.ofNat o0), (0, v1), (0, v2)]) (st' := [(0, v1)]) rfl ?_
  refine jEv.if_lt (t := 27) (show jfI 148 1 (.ifCond .lt 26) 3 [] = true by decide +kernel) rfl H (fun c1 H => ?_) (fun c1 H => ?_)
  · refine jEv.blk [(.iconst (-1), 1, [])] (by decide +kernel) (pc' := 28) (ls' := [(2, Int.ofNat o0), (0, v1), (0, v2)]) (st' := [(0, (-1))]) rfl ?_
    exact jEv.retI (show jfI 148 28 (.ireturn) 1 [] = true by decide +kernel) (by decide +kernel) (by cases H; exact HY)
  · refine jEv.blk [(.iload_n 1, 1, []), (.aload_n 0, 1, [])] (by decide +kernel) (pc' := 6) (ls' := [(2, Int.ofNat o0), (0, v1), (0, v2)]) (st' := [(2, Int.ofNat o0), (0, v1)]) rfl ?_
    refine jEv.gfR (o' := (o0 + 35)) (show jfI 148 6 (.getfield 45) 3 [11, 10, 5, 0, 3011] = true by decide +kernel) (isX11_L ho0) (by decide) (isX11_r10 ho0) ?_
    refine jEv.gfR (o' := (o0 + 36)) (show jfI 148 9 (.getfield 115) 3 [9, 1, 5, 0, 2067] = true by decide +kernel) (isX9_L (isX11_s10 ho0)) (by decide) (isX9_r1 (isX11_s10 ho0)) ?_
    refine jEv.gfI (show jfI 148 12 (.getfield 119) 3 [0, 2, 0, 0, 1185] = true by decide +kernel) (isX0_L (isX9_s1 (isX11_s10 ho0))) (by decide) ?_
    refine jEv.ic_ge (t := 27) (show jfI 148 15 (.if_icmp .ge 12) 3 [] = true by decide +kernel) rfl H (fun c2 H => ?_) (fun c2 H => ?_)
    · refine jEv.blk [(.iload_n 2, 1, [])] (by decide +kernel) (pc' := 19) (ls' := [(2, Int.ofNat o0), (0, v1), (0, v2)]) (st' := [(0, v2)]) rfl ?_
      refine jEv.if_lt (t := 27) (show jfI 148 19 (.ifCond .lt 8) 3 [] = true by decide +kernel) rfl H (fun c3 H => ?_) (fun c3 H => ?_)
      · refine jEv.blk [(.iconst (-1), 1, [])] (by decide +kernel) (pc' := 28) (ls' := [(2, Int.ofNat o0), (0, v1), (0, v2)]) (st' := [(0, (-1))]) rfl ?_
        exact jEv.retI (show jfI 148 28 (.ireturn) 1 [] = true by decide +kernel) (by decide +kernel) (by cases H; exact HY)
      · refine jEv.blk [(.iload_n 2, 1, []), (.iconst 3, 1, [])] (by decide +kernel) (pc' := 24) (ls' := [(2, Int.ofNat o0), (0, v1), (0, v2)]) (st' := [(0, 3), (0, v2)]) rfl ?_
        refine jEv.ic_le (t := 29) (show jfI 148 24 (.if_icmp .le 5) 3 [] = true by decide +kernel) rfl H (fun c4 H => ?_) (fun c4 H => ?_)
        · refine jEv.blk [(.iconst (-1), 1, [])] (by decide +kernel) (pc' := 28) (ls' := [(2, Int.ofNat o0), (0, v1), (0, v2)]) (st' := [(0, (-1))]) rfl ?_
          exact jEv.retI (show jfI 148 28 (.ireturn) 1 [] = true by decide +kernel) (by decide +kernel) (by cases H; exact HY)
        · refine jEv.blk [(.iload_n 2, 1, []), (.iconst 2, 1, [])] (by decide +kernel) (pc' := 31) (ls' := [(2, Int.ofNat o0), (0, v1), (0, v2)]) (st' := [(0, 2), (0, v2)]) rfl ?_
          refine jEv.ic_ne (t := 62) (show jfI 148 31 (.if_icmp .ne 31) 3 [] = true by decide +kernel) rfl H (fun c5 H => ?_) (fun c5 H => ?_)
          · refine jEv.blk [(.iload_n 1, 1, []), (.aload_n 0, 1, [])] (by decide +kernel) (pc' := 36) (ls' := [(2, Int.ofNat o0), (0, v1), (0, v2)]) (st' := [(2, Int.ofNat o0), (0, v1)]) rfl ?_
            refine jEv.gfR (o' := (o0 + 35)) (show jfI 148 36 (.getfield 45) 3 [11, 10, 5, 0, 3011] = true by decide +kernel) (isX11_L ho0) (by decide) (isX11_r10 ho0) ?_
            refine jEv.gfI (show jfI 148 39 (.getfield 183) 3 [9, 10, 0, 0, 2088] = true by decide +kernel) (isX9_L (isX11_s10 ho0)) (by decide) ?_
            refine jEv.ic_eq (t := 60) (show jfI 148 42 (.if_icmp .eq 18) 3 [] = true by decide +kernel) rfl H (fun c6 H => ?_) (fun c6 H => ?_)
            · exact jEv.weak (a := [(3, 0), (3, 0), (3, 0)]) (jles.c0 (jles.c0 (jles.c0 jles.nl))) (t_G_segment_p60 (T := T) (xs := xs) (y := y) hd H HY)
            · refine jEv.blk [(.aload_n 0, 1, [])] (by decide +kernel) (pc' := 46) (ls' := [(2, Int.ofNat o0), (0, v1), (0, v2)]) (st' := [(2, Int.ofNat o0)]) rfl ?_
              refine jEv.gfR (o' := (o0 + 35)) (show jfI 148 46 (.getfield 45) 3 [11, 10, 5, 0, 3011] = true by decide +kernel) (isX11_L ho0) (by decide) (isX11_r10 ho0) ?_
              refine jEv.blk [(.iload_n 1, 1, [])] (by decide +kernel) (pc' := 50) (ls' := [(2, Int.ofNat o0), (0, v1), (0, v2)]) (st' := [(0, v1), (2, Int.ofNat (o0 + 35))]) rfl ?_
              refine jbind H (fun b7 Hb7 H => ?_)
              refine jEv.calV (st' := [(0, b7)]) (show jfI 148 50 (.invokevirtual 186) 3 [1, 113, 1, 4164] = true by decide +kernel) rfl (Or.inl rfl) rfl (Nat.le_of_ble_eq_true rfl) (by decide +kernel) (by decide) (isX9_L (isX11_s10 ho0)) ((t_St_isFree (T := T) (xs := xs) (isX11_s10 ho0) Hb7).mono (jKle 1 hd)) rfl ?_
              refine jEv.if_eq (t := 60) (show jfI 148 53 (.ifCond .eq 7) 3 [] = true by decide +kernel) rfl H (fun c8 H => ?_) (fun c8 H => ?_)
              · exact jEv.weak (a := [(3, 0), (3, 0), (3, 0)]) (jles.c0 (jles.c0 (jles.c0 jles.nl))) (t_G_segment_p60 (T := T) (xs := xs) (y := y) hd H HY)
              · refine jEv.blk [(.iconst 1, 1, [])] (by decide +kernel) (pc' := 57) (ls' := [(2, Int.ofNat o0), (0, v1), (0, v2)]) (st' := [(0, 1)]) rfl ?_
                refine jEv.goto (t := 61) (show jfI 148 57 (.goto 4) 3 [] = true by decide +kernel) rfl ?_
                exact jEv.retI (show jfI 148 61 (.ireturn) 1 [] = true by decide +kernel) (by decide +kernel) (by cases H; exact HY)
          · refine jEv.blk [(.iload_n 2, 1, []), (.iconst 3, 1, [])] (by decide +kernel) (pc' := 64) (ls' := [(2, Int.ofNat o0), (0, v1), (0, v2)]) (st' := [(0, 3), (0, v2)]) rfl ?_
            refine jEv.ic_ne (t := 86) (show jfI 148 64 (.if_icmp .ne 22) 3 [] = true by decide +kernel) rfl H (fun c9 H => ?_) (fun c9 H => ?_)
            · refine jEv.blk [(.aload_n 0, 1, [])] (by decide +kernel) (pc' := 68) (ls' := [(2, Int.ofNat o0), (0, v1), (0, v2)]) (st' := [(2, Int.ofNat o0)]) rfl ?_
              refine jEv.gfR (o' := (o0 + 79)) (show jfI 148 68 (.getfield 66) 3 [11, 16, 5, 0, 3017] = true by decide +kernel) (isX11_L ho0) (by decide) (isX11_r16 ho0) ?_
              refine jEv.gfR (o' := (o0 + 80)) (show jfI 148 71 (.getfield 189) 3 [8, 0, 5, 0, 2204] = true by decide +kernel) (isX8_L (isX11_s16 ho0)) (by decide) (isX8_r0 (isX11_s16 ho0)) ?_
              refine jEv.blk [(.aload_n 0, 1, [])] (by decide +kernel) (pc' := 75) (ls' := [(2, Int.ofNat o0), (0, v1), (0, v2)]) (st' := [(2, Int.ofNat o0), (2, Int.ofNat (o0 + 80))]) rfl ?_
              refine jEv.gfR (o' := (o0 + 35)) (show jfI 148 75 (.getfield 45) 3 [11, 10, 5, 0, 3011] = true by decide +kernel) (isX11_L ho0) (by decide) (isX11_r10 ho0) ?_
              refine jEv.gfR (o' := (o0 + 36)) (show jfI 148 78 (.getfield 115) 3 [9, 1, 5, 0, 2067] = true by decide +kernel) (isX9_L (isX11_s10 ho0)) (by decide) (isX9_r1 (isX11_s10 ho0)) ?_
              refine jEv.blk [(.iload_n 1, 1, [])] (by decide +kernel) (pc' := 82) (ls' := [(2, Int.ofNat o0), (0, v1), (0, v2)]) (st' := [(0, v1), (2, Int.ofNat (o0 + 36)), (2, Int.ofNat (o0 + 80))]) rfl ?_
              refine jbind H (fun b10 Hb10 H => ?_)
              refine jEv.calV (st' := [(0, b10.1)]) (show jfI 148 82 (.invokevirtual 193) 3 [1, 39, 2, 4168] = true by decide +kernel) rfl (Or.inl rfl) rfl (Nat.le_of_ble_eq_true rfl) (by decide +kernel) (by decide) (isX3_L (isX8_s0 (isX11_s16 ho0))) ((t_FR_frameCount (T := T) (xs := xs) (isX8_s0 (isX11_s16 ho0)) (isX9_s1 (isX11_s10 ho0)) Hb10).mono (jKle 4 hd)) rfl ?_
              exact jEv.retI (show jfI 148 85 (.ireturn) 1 [] = true by decide +kernel) (by decide +kernel) (by cases H; exact HY)
            · refine jEv.blk [(.aload_n 0, 1, [])] (by decide +kernel) (pc' := 87) (ls' := [(2, Int.ofNat o0), (0, v1), (0, v2)]) (st' := [(2, Int.ofNat o0)]) rfl ?_
              refine jEv.gfR (o' := (o0 + 35)) (show jfI 148 87 (.getfield 45) 3 [11, 10, 5, 0, 3011] = true by decide +kernel) (isX11_L ho0) (by decide) (isX11_r10 ho0) ?_
              refine jEv.gfR (o' := (o0 + 36)) (show jfI 148 90 (.getfield 115) 3 [9, 1, 5, 0, 2067] = true by decide +kernel) (isX9_L (isX11_s10 ho0)) (by decide) (isX9_r1 (isX11_s10 ho0)) ?_
              refine jEv.blk [(.iload_n 1, 1, [])] (by decide +kernel) (pc' := 94) (ls' := [(2, Int.ofNat o0), (0, v1), (0, v2)]) (st' := [(0, v1), (2, Int.ofNat (o0 + 36))]) rfl ?_
              refine jbind H (fun b11 Hb11 H => ?_)
              refine jEv.calV (st' := [(0, b11)]) (show jfI 148 94 (.invokevirtual 199) 3 [1, 8, 1, 4223] = true by decide +kernel) rfl (Or.inl rfl) rfl (Nat.le_of_ble_eq_true rfl) (by decide +kernel) (by decide) (isX0_L (isX9_s1 (isX11_s10 ho0))) ((t_Di_headStands (T := T) (xs := xs) (isX9_s1 (isX11_s10 ho0)) Hb11).mono (jKle 3 hd)) rfl ?_
              refine jEv.if_ne (t := 102) (show jfI 148 97 (.ifCond .ne 5) 3 [] = true by decide +kernel) rfl H (fun c12 H => ?_) (fun c12 H => ?_)
              · refine jEv.blk [(.iconst (-1), 1, [])] (by decide +kernel) (pc' := 101) (ls' := [(2, Int.ofNat o0), (0, v1), (0, v2)]) (st' := [(0, (-1))]) rfl ?_
                exact jEv.retI (show jfI 148 101 (.ireturn) 1 [] = true by decide +kernel) (by decide +kernel) (by cases H; exact HY)
              · refine jEv.blk [(.iload_n 2, 1, [])] (by decide +kernel) (pc' := 103) (ls' := [(2, Int.ofNat o0), (0, v1), (0, v2)]) (st' := [(0, v2)]) rfl ?_
                refine jEv.if_ne (t := 120) (show jfI 148 103 (.ifCond .ne 17) 3 [] = true by decide +kernel) rfl H (fun c13 H => ?_) (fun c13 H => ?_)
                · refine jEv.blk [(.aload_n 0, 1, [])] (by decide +kernel) (pc' := 107) (ls' := [(2, Int.ofNat o0), (0, v1), (0, v2)]) (st' := [(2, Int.ofNat o0)]) rfl ?_
                  refine jEv.gfR (o' := (o0 + 35)) (show jfI 148 107 (.getfield 45) 3 [11, 10, 5, 0, 3011] = true by decide +kernel) (isX11_L ho0) (by decide) (isX11_r10 ho0) ?_
                  refine jEv.gfR (o' := (o0 + 36)) (show jfI 148 110 (.getfield 115) 3 [9, 1, 5, 0, 2067] = true by decide +kernel) (isX9_L (isX11_s10 ho0)) (by decide) (isX9_r1 (isX11_s10 ho0)) ?_
                  refine jEv.blk [(.iload_n 1, 1, [])] (by decide +kernel) (pc' := 114) (ls' := [(2, Int.ofNat o0), (0, v1), (0, v2)]) (st' := [(0, v1), (2, Int.ofNat (o0 + 36))]) rfl ?_
                  refine jbind H (fun b14 Hb14 H => ?_)
                  refine jEv.calV (st' := [(0, b14)]) (show jfI 148 114 (.invokevirtual 202) 3 [1, 10, 1, 4224] = true by decide +kernel) rfl (Or.inl rfl) rfl (Nat.le_of_ble_eq_true rfl) (by decide +kernel) (by decide) (isX0_L (isX9_s1 (isX11_s10 ho0))) ((t_Di_serialOf (T := T) (xs := xs) (isX9_s1 (isX11_s10 ho0)) Hb14).mono (jKle 2 hd)) rfl ?_
                  refine jEv.goto (t := 131) (show jfI 148 117 (.goto 14) 3 [] = true by decide +kernel) rfl ?_
                  exact jEv.retI (show jfI 148 131 (.ireturn) 1 [] = true by decide +kernel) (by decide +kernel) (by cases H; exact HY)
                · refine jEv.blk [(.aload_n 0, 1, [])] (by decide +kernel) (pc' := 121) (ls' := [(2, Int.ofNat o0), (0, v1), (0, v2)]) (st' := [(2, Int.ofNat o0)]) rfl ?_
                  refine jEv.gfR (o' := (o0 + 35)) (show jfI 148 121 (.getfield 45) 3 [11, 10, 5, 0, 3011] = true by decide +kernel) (isX11_L ho0) (by decide) (isX11_r10 ho0) ?_
                  refine jEv.gfR (o' := (o0 + 36)) (show jfI 148 124 (.getfield 115) 3 [9, 1, 5, 0, 2067] = true by decide +kernel) (isX9_L (isX11_s10 ho0)) (by decide) (isX9_r1 (isX11_s10 ho0)) ?_
                  refine jEv.blk [(.iload_n 1, 1, [])] (by decide +kernel) (pc' := 128) (ls' := [(2, Int.ofNat o0), (0, v1), (0, v2)]) (st' := [(0, v1), (2, Int.ofNat (o0 + 36))]) rfl ?_
                  refine jbind H (fun b15 Hb15 H => ?_)
                  refine jEv.calV (st' := [(0, b15)]) (show jfI 148 128 (.invokevirtual 205) 3 [1, 14, 1, 4225] = true by decide +kernel) rfl (Or.inl rfl) rfl (Nat.le_of_ble_eq_true rfl) (by decide +kernel) (by decide) (isX0_L (isX9_s1 (isX11_s10 ho0))) ((t_Di_firstOf (T := T) (xs := xs) (isX9_s1 (isX11_s10 ho0)) Hb15).mono (jKle 2 hd)) rfl ?_
                  exact jEv.retI (show jfI 148 131 (.ireturn) 1 [] = true by decide +kernel) (by decide +kernel) (by cases H; exact HY)
    · refine jEv.blk [(.iconst (-1), 1, [])] (by decide +kernel) (pc' := 28) (ls' := [(2, Int.ofNat o0), (0, v1), (0, v2)]) (st' := [(0, (-1))]) rfl ?_
      exact jEv.retI (show jfI 148 28 (.ireturn) 1 [] = true by decide +kernel) (by decide +kernel) (by cases H; exact HY)
