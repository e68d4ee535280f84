/-! methods as functions -/
def yk_Fl_arrive_L3 (T : jT) (xs : List Int) (d : Nat) (y : jV × jS)  (o0 : Nat) (o1 : Nat) (v3 : Int) : ((Int × jH) ⊕ jH) → Prop
  | .inl (v4, h) => jEv xs d (24, 3, [(2, Int.ofNat o0), (2, Int.ofNat o1), (3, 0), (0, v3), (0, v4)], []) (T, h) y
  | .inr o => ykV T y o
set_option maxRecDepth 20000 in
noncomputable def Fl_arrive_B3  (h : jH) (o0 : Nat) (o1 : Nat) (v3 : Int) (v4 : Int) : Option ((Int × jH) ⊕ jH) := (if v4 < v3 then (if v4 < (h o0 2) then Option.bind (G_cell h (o0 + 1) 512 v4) (fun b3 => Option.bind (G_cell h (o0 + 2) 512 v4) (fun b4 => Option.bind (Di_write h o1 b3 b4) (fun b5 => some (.inl ((wr (v4 + 1)), b5))))) else Option.map Sum.inr (some h)) else Option.map Sum.inr (some h))
noncomputable def Fl_arrive_L3  (h : jH) (o0 : Nat) (o1 : Nat) (v3 : Int) (v4 : Int) : Option jH := jloop (fun s : (Int × jH) => Fl_arrive_B3 s.2 o0 o1 v3 s.1) (v4, h)
set_option maxRecDepth 20000 in
theorem t_Fl_arrive_B3 {T : jT} {xs : List Int} {d : Nat} {y : jV × jS} (hd : 2 ≤ d) {h : jH}  {o0 : Nat} {o1 : Nat} {v3 : Int} {v4 : Int} {out : ((Int × jH) ⊕ jH)} (ho0 : isX1 T o0) (ho1 : isX0 T o1) (H : Fl_arrive_B3 h o0 o1 v3 v4 = some out) (HY : yk_Fl_arrive_L3 T xs d y o0 o1 v3 out) : jEv xs d (24, 3, [(2, Int.ofNat o0), (2, Int.ofNat o1), (3, 0), (0, v3), (0, v4)], []) (T, h) y := by
  unfold Fl_arrive_B3 at H
  refine jEv.blk [(.iload 4, 2, []), (.iload_n 3, 1, [])] (by decide +kernel) (pc' := 6) (ls' := [(2, Int.ofNat o0), (2, Int.ofNat o1), (3, 0), (0, v3), (0, v4)]) (st' := [(0, v3), (0, v4)]) rfl ?_
  refine jEv.ic_ge (t := 46) (show jfI 24 6 (.if_icmp .ge 40) 3 [] = true by decide +kernel) rfl H (fun c1 H => ?_) (fun c1 H => ?_)
  · refine jEv.blk [(.iload 4, 2, []), (.aload_n 0, 1, [])] (by decide +kernel) (pc' := 12) (ls' := [(2, Int.ofNat o0), (2, Int.ofNat o1), (3, 0), (0, v3), (0, v4)]) (st' := [(2, Int.ofNat o0), (0, v4)]) rfl ?_
    refine jEv.gfI (show jfI 24 12 (.getfield 18) 3 [1, 2, 0, 0, 1213] = true by decide +kernel) (isX1_L ho0) (by decide) ?_
    refine jEv.ic_ge (t := 46) (show jfI 24 15 (.if_icmp .ge 31) 3 [] = true by decide +kernel) rfl H (fun c2 H => ?_) (fun c2 H => ?_)
    · refine jEv.blk [(.aload_n 1, 1, []), (.aload_n 0, 1, [])] (by decide +kernel) (pc' := 20) (ls' := [(2, Int.ofNat o0), (2, Int.ofNat o1), (3, 0), (0, v3), (0, v4)]) (st' := [(2, Int.ofNat o0), (2, Int.ofNat o1)]) rfl ?_
      refine jEv.gfR (o' := (o0 + 1)) (show jfI 24 20 (.getfield 9) 3 [1, 0, 5, 0, 1210] = true by decide +kernel) (isX1_L ho0) (by decide) (isX1_r0 ho0) ?_
      refine jEv.blk [(.iload 4, 2, [])] (by decide +kernel) (pc' := 25) (ls' := [(2, Int.ofNat o0), (2, Int.ofNat o1), (3, 0), (0, v3), (0, v4)]) (st' := [(0, v4), (2, Int.ofNat (o0 + 1)), (2, Int.ofNat o1)]) rfl ?_
      refine jbind H (fun b3 Hb3 H => ?_)
      refine jEv.calS (st' := [(0, b3), (2, Int.ofNat o1)]) (show jfI 24 25 (.invokestatic 29) 3 [4, 137, 2, 5090] = true by decide +kernel) rfl (Or.inr rfl) rfl (Nat.le_of_ble_eq_true rfl) ((t_G_cell (T := T) (xs := xs) (isX1_a0 ho0) Hb3).mono (jKle 1 hd)) rfl ?_
      refine jEv.blk [(.aload_n 0, 1, [])] (by decide +kernel) (pc' := 29) (ls' := [(2, Int.ofNat o0), (2, Int.ofNat o1), (3, 0), (0, v3), (0, v4)]) (st' := [(2, Int.ofNat o0), (0, b3), (2, Int.ofNat o1)]) rfl ?_
      refine jEv.gfR (o' := (o0 + 2)) (show jfI 24 29 (.getfield 15) 3 [1, 1, 5, 0, 1211] = true by decide +kernel) (isX1_L ho0) (by decide) (isX1_r1 ho0) ?_
      refine jEv.blk [(.iload 4, 2, [])] (by decide +kernel) (pc' := 34) (ls' := [(2, Int.ofNat o0), (2, Int.ofNat o1), (3, 0), (0, v3), (0, v4)]) (st' := [(0, v4), (2, Int.ofNat (o0 + 2)), (0, b3), (2, Int.ofNat o1)]) rfl ?_
      refine jbind H (fun b4 Hb4 H => ?_)
      refine jEv.calS (st' := [(0, b4), (0, b3), (2, Int.ofNat o1)]) (show jfI 24 34 (.invokestatic 29) 3 [4, 137, 2, 5090] = true by decide +kernel) rfl (Or.inr rfl) rfl (Nat.le_of_ble_eq_true rfl) ((t_G_cell (T := T) (xs := xs) (isX1_a1 ho0) Hb4).mono (jKle 1 hd)) rfl ?_
      refine jbind H (fun b5 Hb5 H => ?_)
      refine jEv.calV (st' := []) (show jfI 24 37 (.invokevirtual 33) 3 [1, 4, 2, 5091] = true by decide +kernel) rfl (Or.inl rfl) rfl (Nat.le_of_ble_eq_true rfl) (by decide +kernel) (by decide) (isX0_L ho1) ((t_Di_write (T := T) (xs := xs) ho1 Hb5).mono (jKle 2 hd)) rfl ?_
      refine jEv.blk [(.iinc 4 1, 3, [])] (by decide +kernel) (pc' := 43) (ls' := [(2, Int.ofNat o0), (2, Int.ofNat o1), (3, 0), (0, v3), (0, (wr (v4 + 1)))]) (st' := []) rfl ?_
      refine jEv.goto (t := 3) (show jfI 24 43 (.goto (-40)) 3 [] = true by decide +kernel) rfl ?_
      exact (by cases H; exact HY)
    · refine jmapr H HY (fun out H (HY : ykV T y out) => ?_)
      exact jEv.retV (show jfI 24 46 (.return_) 1 [] = true by decide +kernel) (by decide +kernel) (by cases H; exact HY)
  · refine jmapr H HY (fun out H (HY : ykV T y out) => ?_)
    exact jEv.retV (show jfI 24 46 (.return_) 1 [] = true by decide +kernel) (by decide +kernel) (by cases H; exact HY)
theorem t_Fl_arrive_L3 {T : jT} {xs : List Int} {d : Nat} {y : jV × jS} (hd : 2 ≤ d) {h : jH}  {o0 : Nat} {o1 : Nat} {v3 : Int} {v4 : Int} {out : jH} (ho0 : isX1 T o0) (ho1 : isX0 T o1) (H : Fl_arrive_L3 h o0 o1 v3 v4 = some out) (HY : ykV T y out) : jEv xs d (24, 3, [(2, Int.ofNat o0), (2, Int.ofNat o1), (3, 0), (0, v3), (0, v4)], []) (T, h) y :=
  jloop_sound (G := fun s : (Int × jH) => jEv xs d (24, 3, [(2, Int.ofNat o0), (2, Int.ofNat o1), (3, 0), (0, v3), (0, s.1)], []) (T, s.2) y) (K := yk_Fl_arrive_L3 T xs d y o0 o1 v3) (fun s out H HY => t_Fl_arrive_B3 hd ho0 ho1 H HY) (fun s' hg => hg) (s := (v4, h)) H HY
set_option maxRecDepth 20000 in
noncomputable def Fl_arrive  (h : jH) (o0 : Nat) (o1 : Nat) (v2 : Int) (v3 : Int) : Option jH := Fl_arrive_L3 h o0 o1 v3 v2
set_option maxRecDepth 20000 in
theorem t_Fl_arrive {T : jT} {xs : List Int} {h : jH}  {o0 : Nat} {o1 : Nat} {v2 : Int} {v3 : Int} {out : jH} (ho0 : isX1 T o0) (ho1 : isX0 T o1) (H : Fl_arrive h o0 o1 v2 v3 = some out) : jEm xs 3 24 [(2, Int.ofNat o0), (2, Int.ofNat o1), (0, v2), (0, v3)] (T, h) ((3, 0), (T, out)) := by
  have hd : 2 ≤ 2 := Nat.le_refl _
  obtain ⟨y, ey⟩ : ∃ y : jV × jS, y = ((3, 0), (T, out)) := ⟨_, rfl⟩
  rw [← ey]
  have HY : ykV T y out := ey
  refine jEm.ent (n := 5) (by decide +kernel) (Nat.le_of_ble_eq_true rfl) ?_
  show jEv xs 2 (24, 0, [(2, Int.ofNat o0), (2, Int.ofNat o1), (0, v2), (0, v3), (3, 0)], []) (T, h) y
  unfold Fl_arrive at H
  refine jEv.blk [(.iload_n 2, 1, []), (.istore 4, 2, [])] (by decide +kernel) (pc' := 3) (ls' := [(2, Int.ofNat o0), (2, Int.ofNat o1), (0, v2), (0, v3), (0, v2)]) (st' := []) rfl ?_
  exact jEv.weak (a := [(2, Int.ofNat o0), (2, Int.ofNat o1), (3, 0), (0, v3), (0, v2)]) (jles.c1 (jles.c1 (jles.c0 (jles.c1 (jles.c1 jles.nl))))) (t_Fl_arrive_L3 (T := T) (xs := xs) (y := y) hd ho0 ho1 H HY)
set_option maxRecDepth 20000 in
noncomputable def Fl_add  (h : jH) (o0 : Nat) (v1 : Int) (v2 : Int) : Option jH := (if (h o0 2) < 0 then some h else (if (h o0 2) < ((512 : Nat) : Int) then (if (h o0 2) < ((512 : Nat) : Int) then (if (0 : Int) ≤ (h o0 2) ∧ ((h o0 2) : Int).toNat < 512 then (if (0 : Int) ≤ ((jup h (o0 + 1) ((h o0 2) : Int).toNat v1) o0 2) ∧ (((jup h (o0 + 1) ((h o0 2) : Int).toNat v1) o0 2) : Int).toNat < 512 then some (jup (jup (jup h (o0 + 1) ((h o0 2) : Int).toNat v1) (o0 + 2) (((jup h (o0 + 1) ((h o0 2) : Int).toNat v1) o0 2) : Int).toNat v2) o0 2 (wr (((jup (jup h (o0 + 1) ((h o0 2) : Int).toNat v1) (o0 + 2) (((jup h (o0 + 1) ((h o0 2) : Int).toNat v1) o0 2) : Int).toNat v2) o0 2) + 1))) else none) else none) else some h) else some h))
set_option maxRecDepth 20000 in
theorem t_Fl_add {T : jT} {xs : List Int} {h : jH}  {o0 : Nat} {v1 : Int} {v2 : Int} {out : jH} (ho0 : isX1 T o0) (H : Fl_add h o0 v1 v2 = some out) : jEm xs 1 25 [(2, Int.ofNat o0), (0, v1), (0, v2)] (T, h) ((3, 0), (T, out)) := by
  have hd : 0 ≤ 0 := Nat.le_refl _
  obtain ⟨y, ey⟩ : ∃ y : jV × jS, y = ((3, 0), (T, out)) := ⟨_, rfl⟩
  rw [← ey]
  have HY : ykV T y out := ey
  refine jEm.ent (n := 3) (by decide +kernel) (Nat.le_of_ble_eq_true rfl) ?_
  show jEv xs 0 (25, 0, [(2, Int.ofNat o0), (0, v1), (0, v2)], []) (T, h) y
  unfold Fl_add at H
  refine jEv.blk [(.aload_n 0, 1, [])] (by decide +kernel) (pc' := 1) (ls' := [(2, Int.ofNat o0), (0, v1), (0, v2)]) (st' := [(2, Int.ofNat o0)]) rfl ?_
  refine jEv.gfI (show jfI 25 1 (.getfield 18) 3 [1, 2, 0, 0, 1213] = true by decide +kernel) (isX1_L ho0) (by decide) ?_
  refine jEv.if_lt (t := 61) (show jfI 25 4 (.ifCond .lt 57) 3 [] = true by decide +kernel) rfl H (fun c1 H => ?_) (fun c1 H => ?_)
  · exact jEv.retV (show jfI 25 61 (.return_) 1 [] = true by decide +kernel) (by decide +kernel) (by cases H; exact HY)
  · refine jEv.blk [(.aload_n 0, 1, [])] (by decide +kernel) (pc' := 8) (ls' := [(2, Int.ofNat o0), (0, v1), (0, v2)]) (st' := [(2, Int.ofNat o0)]) rfl ?_
    refine jEv.gfI (show jfI 25 8 (.getfield 18) 3 [1, 2, 0, 0, 1213] = true by decide +kernel) (isX1_L ho0) (by decide) ?_
    refine jEv.blk [(.aload_n 0, 1, [])] (by decide +kernel) (pc' := 12) (ls' := [(2, Int.ofNat o0), (0, v1), (0, v2)]) (st' := [(2, Int.ofNat o0), (0, (h o0 2))]) rfl ?_
    refine jEv.gfR (o' := (o0 + 1)) (show jfI 25 12 (.getfield 9) 3 [1, 0, 5, 0, 1210] = true by decide +kernel) (isX1_L ho0) (by decide) (isX1_r0 ho0) ?_
    refine jEv.alen (show jfI 25 15 (.arraylength) 1 [] = true by decide +kernel) (isX1_a0 ho0) (by decide) ?_
    refine jEv.ic_ge (t := 61) (show jfI 25 16 (.if_icmp .ge 45) 3 [] = true by decide +kernel) rfl H (fun c2 H => ?_) (fun c2 H => ?_)
    · refine jEv.blk [(.aload_n 0, 1, [])] (by decide +kernel) (pc' := 20) (ls' := [(2, Int.ofNat o0), (0, v1), (0, v2)]) (st' := [(2, Int.ofNat o0)]) rfl ?_
      refine jEv.gfI (show jfI 25 20 (.getfield 18) 3 [1, 2, 0, 0, 1213] = true by decide +kernel) (isX1_L ho0) (by decide) ?_
      refine jEv.blk [(.aload_n 0, 1, [])] (by decide +kernel) (pc' := 24) (ls' := [(2, Int.ofNat o0), (0, v1), (0, v2)]) (st' := [(2, Int.ofNat o0), (0, (h o0 2))]) rfl ?_
      refine jEv.gfR (o' := (o0 + 2)) (show jfI 25 24 (.getfield 15) 3 [1, 1, 5, 0, 1211] = true by decide +kernel) (isX1_L ho0) (by decide) (isX1_r1 ho0) ?_
      refine jEv.alen (show jfI 25 27 (.arraylength) 1 [] = true by decide +kernel) (isX1_a1 ho0) (by decide) ?_
      refine jEv.ic_ge (t := 61) (show jfI 25 28 (.if_icmp .ge 33) 3 [] = true by decide +kernel) rfl H (fun c3 H => ?_) (fun c3 H => ?_)
      · refine jEv.blk [(.aload_n 0, 1, [])] (by decide +kernel) (pc' := 32) (ls' := [(2, Int.ofNat o0), (0, v1), (0, v2)]) (st' := [(2, Int.ofNat o0)]) rfl ?_
        refine jEv.gfR (o' := (o0 + 1)) (show jfI 25 32 (.getfield 9) 3 [1, 0, 5, 0, 1210] = true by decide +kernel) (isX1_L ho0) (by decide) (isX1_r0 ho0) ?_
        refine jEv.blk [(.aload_n 0, 1, [])] (by decide +kernel) (pc' := 36) (ls' := [(2, Int.ofNat o0), (0, v1), (0, v2)]) (st' := [(2, Int.ofNat o0), (2, Int.ofNat (o0 + 1))]) rfl ?_
        refine jEv.gfI (show jfI 25 36 (.getfield 18) 3 [1, 2, 0, 0, 1213] = true by decide +kernel) (isX1_L ho0) (by decide) ?_
        refine jEv.blk [(.iload_n 1, 1, [])] (by decide +kernel) (pc' := 40) (ls' := [(2, Int.ofNat o0), (0, v1), (0, v2)]) (st' := [(0, v1), (0, (h o0 2)), (2, Int.ofNat (o0 + 1))]) rfl ?_
        refine jEv.ast (Or.inl ⟨rfl, rfl, rfl⟩) (show jfI 25 40 (.iastore) 1 [] = true by decide +kernel) (isX1_a0 ho0) rfl H (fun c4 H => ?_)
        refine jEv.blk [(.aload_n 0, 1, [])] (by decide +kernel) (pc' := 42) (ls' := [(2, Int.ofNat o0), (0, v1), (0, v2)]) (st' := [(2, Int.ofNat o0)]) rfl ?_
        refine jEv.gfR (o' := (o0 + 2)) (show jfI 25 42 (.getfield 15) 3 [1, 1, 5, 0, 1211] = true by decide +kernel) (isX1_L ho0) (by decide) (isX1_r1 ho0) ?_
        refine jEv.blk [(.aload_n 0, 1, [])] (by decide +kernel) (pc' := 46) (ls' := [(2, Int.ofNat o0), (0, v1), (0, v2)]) (st' := [(2, Int.ofNat o0), (2, Int.ofNat (o0 + 2))]) rfl ?_
        refine jEv.gfI (show jfI 25 46 (.getfield 18) 3 [1, 2, 0, 0, 1213] = true by decide +kernel) (isX1_L ho0) (by decide) ?_
        refine jEv.blk [(.iload_n 2, 1, [])] (by decide +kernel) (pc' := 50) (ls' := [(2, Int.ofNat o0), (0, v1), (0, v2)]) (st' := [(0, v2), (0, ((jup h (o0 + 1) ((h o0 2) : Int).toNat v1) o0 2)), (2, Int.ofNat (o0 + 2))]) rfl ?_
        refine jEv.ast (Or.inl ⟨rfl, rfl, rfl⟩) (show jfI 25 50 (.iastore) 1 [] = true by decide +kernel) (isX1_a1 ho0) rfl H (fun c5 H => ?_)
        refine jEv.blk [(.aload_n 0, 1, []), (.dup, 1, [])] (by decide +kernel) (pc' := 53) (ls' := [(2, Int.ofNat o0), (0, v1), (0, v2)]) (st' := [(2, Int.ofNat o0), (2, Int.ofNat o0)]) rfl ?_
        refine jEv.gfI (show jfI 25 53 (.getfield 18) 3 [1, 2, 0, 0, 1213] = true by decide +kernel) (isX1_L ho0) (by decide) ?_
        refine jEv.blk [(.iconst 1, 1, []), (.iadd, 1, [])] (by decide +kernel) (pc' := 58) (ls' := [(2, Int.ofNat o0), (0, v1), (0, v2)]) (st' := [(0, (wr (((jup (jup h (o0 + 1) ((h o0 2) : Int).toNat v1) (o0 + 2) (((jup h (o0 + 1) ((h o0 2) : Int).toNat v1) o0 2) : Int).toNat v2) o0 2) + 1))), (2, Int.ofNat o0)]) rfl ?_
        refine jEv.pfI (show jfI 25 58 (.putfield 18) 3 [1, 2, 0, 0, 1213] = true by decide +kernel) (isX1_L ho0) (by decide) ?_
        exact jEv.retV (show jfI 25 61 (.return_) 1 [] = true by decide +kernel) (by decide +kernel) (by cases H; exact HY)
      · exact jEv.retV (show jfI 25 61 (.return_) 1 [] = true by decide +kernel) (by decide +kernel) (by cases H; exact HY)
    · exact jEv.retV (show jfI 25 61 (.return_) 1 [] = true by decide +kernel) (by decide +kernel) (by cases H; exact HY)
set_option maxRecDepth 20000 in
noncomputable def Fo_emit  (h : jH) (o0 : Nat) (v1 : Int) : Option jH := Option.bind (G_put h (o0 + 1) 1600 (h o0 1) v1) (fun b1 => some (jup b1 o0 1 (wr ((b1 o0 1) + 1))))
set_option maxRecDepth 20000 in
theorem t_Fo_emit {T : jT} {xs : List Int} {h : jH}  {o0 : Nat} {v1 : Int} {out : jH} (ho0 : isX2 T o0) (H : Fo_emit h o0 v1 = some out) : jEm xs 2 28 [(2, Int.ofNat o0), (0, v1)] (T, h) ((3, 0), (T, out)) := by
  have hd : 1 ≤ 1 := Nat.le_refl _
  obtain ⟨y, ey⟩ : ∃ y : jV × jS, y = ((3, 0), (T, out)) := ⟨_, rfl⟩
  rw [← ey]
  have HY : ykV T y out := ey
  refine jEm.ent (n := 2) (by decide +kernel) (Nat.le_of_ble_eq_true rfl) ?_
  show jEv xs 1 (28, 0, [(2, Int.ofNat o0), (0, v1)], []) (T, h) y
  unfold Fo_emit at H
  refine jEv.blk [(.aload_n 0, 1, [])] (by decide +kernel) (pc' := 1) (ls' := [(2, Int.ofNat o0), (0, v1)]) (st' := [(2, Int.ofNat o0)]) rfl ?_
  refine jEv.gfR (o' := (o0 + 1)) (show jfI 28 1 (.getfield 9) 3 [2, 0, 5, 0, 1041] = true by decide +kernel) (isX2_L ho0) (by decide) (isX2_r0 ho0) ?_
  refine jEv.blk [(.aload_n 0, 1, [])] (by decide +kernel) (pc' := 5) (ls' := [(2, Int.ofNat o0), (0, v1)]) (st' := [(2, Int.ofNat o0), (2, Int.ofNat (o0 + 1))]) rfl ?_
  refine jEv.gfI (show jfI 28 5 (.getfield 21) 3 [2, 1, 0, 0, 1042] = true by decide +kernel) (isX2_L ho0) (by decide) ?_
  refine jEv.blk [(.iload_n 1, 1, [])] (by decide +kernel) (pc' := 9) (ls' := [(2, Int.ofNat o0), (0, v1)]) (st' := [(0, v1), (0, (h o0 1)), (2, Int.ofNat (o0 + 1))]) rfl ?_
  refine jbind H (fun b1 Hb1 H => ?_)
  refine jEv.calS (st' := []) (show jfI 28 9 (.invokestatic 29) 3 [4, 138, 3, 3121] = true by decide +kernel) rfl (Or.inr rfl) rfl (Nat.le_of_ble_eq_true rfl) ((t_G_put (T := T) (xs := xs) (isX2_a0 ho0) Hb1).mono (jKle 1 hd)) rfl ?_
  refine jEv.blk [(.aload_n 0, 1, []), (.dup, 1, [])] (by decide +kernel) (pc' := 14) (ls' := [(2, Int.ofNat o0), (0, v1)]) (st' := [(2, Int.ofNat o0), (2, Int.ofNat o0)]) rfl ?_
  refine jEv.gfI (show jfI 28 14 (.getfield 21) 3 [2, 1, 0, 0, 1042] = true by decide +kernel) (isX2_L ho0) (by decide) ?_
  refine jEv.blk [(.iconst 1, 1, []), (.iadd, 1, [])] (by decide +kernel) (pc' := 19) (ls' := [(2, Int.ofNat o0), (0, v1)]) (st' := [(0, (wr ((b1 o0 1) + 1))), (2, Int.ofNat o0)]) rfl ?_
  refine jEv.pfI (show jfI 28 19 (.putfield 21) 3 [2, 1, 0, 0, 1042] = true by decide +kernel) (isX2_L ho0) (by decide) ?_
  exact jEv.retV (show jfI 28 22 (.return_) 1 [] = true by decide +kernel) (by decide +kernel) (by cases H; exact HY)
def yk_Fo_become_L7 (T : jT) (xs : List Int) (d : Nat) (y : jV × jS) (z1 : Int) (o0 : Nat) (l1 : List Int) : ((Int × jH) ⊕ jH) → Prop
  | .inl (v2, h) => jEv xs d (27, 7, [(2, Int.ofNat o0), (4, z1), (0, v2)], []) (T, h) y
  | .inr o => ykV T y o
set_option maxRecDepth 20000 in
noncomputable def Fo_become_B7  (h : jH) (o0 : Nat) (l1 : List Int) (v2 : Int) : Option ((Int × jH) ⊕ jH) := (if v2 < (l1.length : Int) then (if (0 : Int) ≤ v2 ∧ (v2 : Int).toNat < l1.length then Option.bind (Fo_emit h o0 (l1.getD (v2 : Int).toNat 0)) (fun b3 => some (.inl ((wr (v2 + 1)), b3))) else none) else Option.map Sum.inr (some h))
noncomputable def Fo_become_L7  (h : jH) (o0 : Nat) (l1 : List Int) (v2 : Int) : Option jH := jloop (fun s : (Int × jH) => Fo_become_B7 s.2 o0 l1 s.1) (v2, h)
set_option maxRecDepth 20000 in
theorem t_Fo_become_B7 {T : jT} {xs : List Int} {d : Nat} {y : jV × jS} (hd : 2 ≤ d) {h : jH} {z1 : Int} {o0 : Nat} {l1 : List Int} {v2 : Int} {out : ((Int × jH) ⊕ jH)} (ho0 : isX2 T o0) (hx1 : jext xs z1 = some (20, l1)) (H : Fo_become_B7 h o0 l1 v2 = some out) (HY : yk_Fo_become_L7 T xs d y z1 o0 l1 out) : jEv xs d (27, 7, [(2, Int.ofNat o0), (4, z1), (0, v2)], []) (T, h) y := by
  unfold Fo_become_B7 at H
  refine jEv.blk [(.iload_n 2, 1, []), (.aload_n 1, 1, [])] (by decide +kernel) (pc' := 9) (ls' := [(2, Int.ofNat o0), (4, z1), (0, v2)]) (st' := [(4, z1), (0, v2)]) rfl ?_
  refine jEv.alenX (show jfI 27 9 (.arraylength) 1 [] = true by decide +kernel) hx1 ?_
  refine jEv.ic_ge (t := 26) (show jfI 27 10 (.if_icmp .ge 16) 3 [] = true by decide +kernel) rfl H (fun c1 H => ?_) (fun c1 H => ?_)
  · refine jEv.blk [(.aload_n 0, 1, []), (.aload_n 1, 1, []), (.iload_n 2, 1, [])] (by decide +kernel) (pc' := 16) (ls' := [(2, Int.ofNat o0), (4, z1), (0, v2)]) (st' := [(0, v2), (4, z1), (2, Int.ofNat o0)]) rfl ?_
    refine jEv.aldX (show jfI 27 16 (.iaload) 1 [] = true by decide +kernel) hx1 H (fun c2 H => ?_)
    refine jbind H (fun b3 Hb3 H => ?_)
    refine jEv.calV (st' := []) (show jfI 27 17 (.invokevirtual 25) 3 [1, 28, 1, 3117] = true by decide +kernel) rfl (Or.inl rfl) rfl (Nat.le_of_ble_eq_true rfl) (by decide +kernel) (by decide) (isX2_L ho0) ((t_Fo_emit (T := T) (xs := xs) ho0 Hb3).mono (jKle 2 hd)) rfl ?_
    refine jEv.blk [(.iinc 2 1, 3, [])] (by decide +kernel) (pc' := 23) (ls' := [(2, Int.ofNat o0), (4, z1), (0, (wr (v2 + 1)))]) (st' := []) rfl ?_
    refine jEv.goto (t := 7) (show jfI 27 23 (.goto (-16)) 3 [] = true by decide +kernel) rfl ?_
    exact (by cases H; exact HY)
  · refine jmapr H HY (fun out H (HY : ykV T y out) => ?_)
    exact jEv.retV (show jfI 27 26 (.return_) 1 [] = true by decide +kernel) (by decide +kernel) (by cases H; exact HY)
theorem t_Fo_become_L7 {T : jT} {xs : List Int} {d : Nat} {y : jV × jS} (hd : 2 ≤ d) {h : jH} {z1 : Int} {o0 : Nat} {l1 : List Int} {v2 : Int} {out : jH} (ho0 : isX2 T o0) (hx1 : jext xs z1 = some (20, l1)) (H : Fo_become_L7 h o0 l1 v2 = some out) (HY : ykV T y out) : jEv xs d (27, 7, [(2, Int.ofNat o0), (4, z1), (0, v2)], []) (T, h) y :=
  jloop_sound (G := fun s : (Int × jH) => jEv xs d (27, 7, [(2, Int.ofNat o0), (4, z1), (0, s.1)], []) (T, s.2) y) (K := yk_Fo_become_L7 T xs d y z1 o0 l1) (fun s out H HY => t_Fo_become_B7 hd ho0 hx1 H HY) (fun s' hg => hg) (s := (v2, h)) H HY
set_option maxRecDepth 20000 in
noncomputable def Fo_become  (h : jH) (o0 : Nat) (l1 : List Int) : Option jH := Fo_become_L7 (jup h o0 1 0) o0 l1 0
set_option maxRecDepth 20000 in
theorem t_Fo_become {T : jT} {xs : List Int} {h : jH} {z1 : Int} {o0 : Nat} {l1 : List Int} {out : jH} (ho0 : isX2 T o0) (hx1 : jext xs z1 = some (20, l1)) (H : Fo_become h o0 l1 = some out) : jEm xs 3 27 [(2, Int.ofNat o0), (4, z1)] (T, h) ((3, 0), (T, out)) := by
  have hd : 2 ≤ 2 := Nat.le_refl _
  obtain ⟨y, ey⟩ : ∃ y : jV × jS, y = ((3, 0), (T, out)) := ⟨_, rfl⟩
  rw [← ey]
  have HY : ykV T y out := ey
  refine jEm.ent (n := 3) (by decide +kernel) (Nat.le_of_ble_eq_true rfl) ?_
  show jEv xs 2 (27, 0, [(2, Int.ofNat o0), (4, z1), (3, 0)], []) (T, h) y
  unfold Fo_become at H
  refine jEv.blk [(.aload_n 0, 1, []), (.iconst 0, 1, [])] (by decide +kernel) (pc' := 2) (ls' := [(2, Int.ofNat o0), (4, z1), (3, 0)]) (st' := [(0, 0), (2, Int.ofNat o0)]) rfl ?_
  refine jEv.pfI (show jfI 27 2 (.putfield 21) 3 [2, 1, 0, 0, 1042] = true by decide +kernel) (isX2_L ho0) (by decide) ?_
  refine jEv.blk [(.iconst 0, 1, []), (.istore_n 2, 1, [])] (by decide +kernel) (pc' := 7) (ls' := [(2, Int.ofNat o0), (4, z1), (0, 0)]) (st' := []) rfl ?_
  exact t_Fo_become_L7 (T := T) (xs := xs) (y := y) hd ho0 hx1 H HY
set_option maxRecDepth 20000 in
noncomputable def Fo_clear  (h : jH) (o0 : Nat) : Option jH := some (jup h o0 1 0)
set_option maxRecDepth 20000 in
theorem t_Fo_clear {T : jT} {xs : List Int} {h : jH}  {o0 : Nat} {out : jH} (ho0 : isX2 T o0) (H : Fo_clear h o0 = some out) : jEm xs 1 29 [(2, Int.ofNat o0)] (T, h) ((3, 0), (T, out)) := by
  have hd : 0 ≤ 0 := Nat.le_refl _
  obtain ⟨y, ey⟩ : ∃ y : jV × jS, y = ((3, 0), (T, out)) := ⟨_, rfl⟩
  rw [← ey]
  have HY : ykV T y out := ey
  refine jEm.ent (n := 1) (by decide +kernel) (Nat.le_of_ble_eq_true rfl) ?_
  show jEv xs 0 (29, 0, [(2, Int.ofNat o0)], []) (T, h) y
  unfold Fo_clear at H
  refine jEv.blk [(.aload_n 0, 1, []), (.iconst 0, 1, [])] (by decide +kernel) (pc' := 2) (ls' := [(2, Int.ofNat o0)]) (st' := [(0, 0), (2, Int.ofNat o0)]) rfl ?_
  refine jEv.pfI (show jfI 29 2 (.putfield 21) 3 [2, 1, 0, 0, 1042] = true by decide +kernel) (isX2_L ho0) (by decide) ?_
  exact jEv.retV (show jfI 29 5 (.return_) 1 [] = true by decide +kernel) (by decide +kernel) (by cases H; exact HY)
set_option maxRecDepth 20000 in
noncomputable def Fo_tell  (h : jH) (o0 : Nat) (v1 : Int) (v2 : Int) : Option jH := Option.bind (G_put h (o0 + 2) 160 v1 v2) (fun b1 => some b1)
set_option maxRecDepth 20000 in
theorem t_Fo_tell {T : jT} {xs : List Int} {h : jH}  {o0 : Nat} {v1 : Int} {v2 : Int} {out : jH} (ho0 : isX2 T o0) (H : Fo_tell h o0 v1 v2 = some out) : jEm xs 2 30 [(2, Int.ofNat o0), (0, v1), (0, v2)] (T, h) ((3, 0), (T, out)) := by
  have hd : 1 ≤ 1 := Nat.le_refl _
  obtain ⟨y, ey⟩ : ∃ y : jV × jS, y = ((3, 0), (T, out)) := ⟨_, rfl⟩
  rw [← ey]
  have HY : ykV T y out := ey
  refine jEm.ent (n := 3) (by decide +kernel) (Nat.le_of_ble_eq_true rfl) ?_
  show jEv xs 1 (30, 0, [(2, Int.ofNat o0), (0, v1), (0, v2)], []) (T, h) y
  unfold Fo_tell at H
  refine jEv.blk [(.aload_n 0, 1, [])] (by decide +kernel) (pc' := 1) (ls' := [(2, Int.ofNat o0), (0, v1), (0, v2)]) (st' := [(2, Int.ofNat o0)]) rfl ?_
  refine jEv.gfR (o' := (o0 + 2)) (show jfI 30 1 (.getfield 15) 3 [2, 2, 5, 0, 1043] = true by decide +kernel) (isX2_L ho0) (by decide) (isX2_r2 ho0) ?_
  refine jEv.blk [(.iload_n 1, 1, []), (.iload_n 2, 1, [])] (by decide +kernel) (pc' := 6) (ls' := [(2, Int.ofNat o0), (0, v1), (0, v2)]) (st' := [(0, v2), (0, v1), (2, Int.ofNat (o0 + 2))]) rfl ?_
  refine jbind H (fun b1 Hb1 H => ?_)
  refine jEv.calS (st' := []) (show jfI 30 6 (.invokestatic 29) 3 [4, 138, 3, 3121] = true by decide +kernel) rfl (Or.inr rfl) rfl (Nat.le_of_ble_eq_true rfl) ((t_G_put (T := T) (xs := xs) (isX2_a2 ho0) Hb1).mono (jKle 1 hd)) rfl ?_
  exact jEv.retV (show jfI 30 9 (.return_) 1 [] = true by decide +kernel) (by decide +kernel) (by cases H; exact HY)
set_option maxRecDepth 20000 in
noncomputable def Fo_push  (h : jH) (o0 : Nat) (v1 : Int) : Option jH := Option.bind (G_put h (o0 + 3) 64 (h o0 4) v1) (fun b1 => some (jup b1 o0 4 (wr ((b1 o0 4) + 1))))
set_option maxRecDepth 20000 in
theorem t_Fo_push {T : jT} {xs : List Int} {h : jH}  {o0 : Nat} {v1 : Int} {out : jH} (ho0 : isX2 T o0) (H : Fo_push h o0 v1 = some out) : jEm xs 2 32 [(2, Int.ofNat o0), (0, v1)] (T, h) ((3, 0), (T, out)) := by
  have hd : 1 ≤ 1 := Nat.le_refl _
  obtain ⟨y, ey⟩ : ∃ y : jV × jS, y = ((3, 0), (T, out)) := ⟨_, rfl⟩
  rw [← ey]
  have HY : ykV T y out := ey
  refine jEm.ent (n := 2) (by decide +kernel) (Nat.le_of_ble_eq_true rfl) ?_
  show jEv xs 1 (32, 0, [(2, Int.ofNat o0), (0, v1)], []) (T, h) y
  unfold Fo_push at H
  refine jEv.blk [(.aload_n 0, 1, [])] (by decide +kernel) (pc' := 1) (ls' := [(2, Int.ofNat o0), (0, v1)]) (st' := [(2, Int.ofNat o0)]) rfl ?_
  refine jEv.gfR (o' := (o0 + 3)) (show jfI 32 1 (.getfield 18) 3 [2, 3, 5, 0, 1044] = true by decide +kernel) (isX2_L ho0) (by decide) (isX2_r3 ho0) ?_
  refine jEv.blk [(.aload_n 0, 1, [])] (by decide +kernel) (pc' := 5) (ls' := [(2, Int.ofNat o0), (0, v1)]) (st' := [(2, Int.ofNat o0), (2, Int.ofNat (o0 + 3))]) rfl ?_
  refine jEv.gfI (show jfI 32 5 (.getfield 39) 3 [2, 4, 0, 0, 1045] = true by decide +kernel) (isX2_L ho0) (by decide) ?_
  refine jEv.blk [(.iload_n 1, 1, [])] (by decide +kernel) (pc' := 9) (ls' := [(2, Int.ofNat o0), (0, v1)]) (st' := [(0, v1), (0, (h o0 4)), (2, Int.ofNat (o0 + 3))]) rfl ?_
  refine jbind H (fun b1 Hb1 H => ?_)
  refine jEv.calS (st' := []) (show jfI 32 9 (.invokestatic 29) 3 [4, 138, 3, 3121] = true by decide +kernel) rfl (Or.inr rfl) rfl (Nat.le_of_ble_eq_true rfl) ((t_G_put (T := T) (xs := xs) (isX2_a3 ho0) Hb1).mono (jKle 1 hd)) rfl ?_
  refine jEv.blk [(.aload_n 0, 1, []), (.dup, 1, [])] (by decide +kernel) (pc' := 14) (ls' := [(2, Int.ofNat o0), (0, v1)]) (st' := [(2, Int.ofNat o0), (2, Int.ofNat o0)]) rfl ?_
  refine jEv.gfI (show jfI 32 14 (.getfield 39) 3 [2, 4, 0, 0, 1045] = true by decide +kernel) (isX2_L ho0) (by decide) ?_
  refine jEv.blk [(.iconst 1, 1, []), (.iadd, 1, [])] (by decide +kernel) (pc' := 19) (ls' := [(2, Int.ofNat o0), (0, v1)]) (st' := [(0, (wr ((b1 o0 4) + 1))), (2, Int.ofNat o0)]) rfl ?_
  refine jEv.pfI (show jfI 32 19 (.putfield 39) 3 [2, 4, 0, 0, 1045] = true by decide +kernel) (isX2_L ho0) (by decide) ?_
  exact jEv.retV (show jfI 32 22 (.return_) 1 [] = true by decide +kernel) (by decide +kernel) (by cases H; exact HY)
set_option maxRecDepth 20000 in
noncomputable def Fo_pop  (h : jH) (o0 : Nat) : Option (Int × jH) := Option.bind (G_cell (jup h o0 4 (wr ((h o0 4) - 1))) (o0 + 3) 64 ((jup h o0 4 (wr ((h o0 4) - 1))) o0 4)) (fun b1 => some (b1, (jup h o0 4 (wr ((h o0 4) - 1)))))
set_option maxRecDepth 20000 in
theorem t_Fo_pop {T : jT} {xs : List Int} {h : jH}  {o0 : Nat} {out : (Int × jH)} (ho0 : isX2 T o0) (H : Fo_pop h o0 = some out) : jEm xs 2 33 [(2, Int.ofNat o0)] (T, h) ((0, out.1), (T, out.2)) := by
  have hd : 1 ≤ 1 := Nat.le_refl _
  obtain ⟨y, ey⟩ : ∃ y : jV × jS, y = ((0, out.1), (T, out.2)) := ⟨_, rfl⟩
  rw [← ey]
  have HY : ykI T y out := ey
  refine jEm.ent (n := 1) (by decide +kernel) (Nat.le_of_ble_eq_true rfl) ?_
  show jEv xs 1 (33, 0, [(2, Int.ofNat o0)], []) (T, h) y
  unfold Fo_pop at H
  refine jEv.blk [(.aload_n 0, 1, []), (.dup, 1, [])] (by decide +kernel) (pc' := 2) (ls' := [(2, Int.ofNat o0)]) (st' := [(2, Int.ofNat o0), (2, Int.ofNat o0)]) rfl ?_
  refine jEv.gfI (show jfI 33 2 (.getfield 39) 3 [2, 4, 0, 0, 1045] = true by decide +kernel) (isX2_L ho0) (by decide) ?_
  refine jEv.blk [(.iconst 1, 1, []), (.isub, 1, [])] (by decide +kernel) (pc' := 7) (ls' := [(2, Int.ofNat o0)]) (st' := [(0, (wr ((h o0 4) - 1))), (2, Int.ofNat o0)]) rfl ?_
  refine jEv.pfI (show jfI 33 7 (.putfield 39) 3 [2, 4, 0, 0, 1045] = true by decide +kernel) (isX2_L ho0) (by decide) ?_
  refine jEv.blk [(.aload_n 0, 1, [])] (by decide +kernel) (pc' := 11) (ls' := [(2, Int.ofNat o0)]) (st' := [(2, Int.ofNat o0)]) rfl ?_
  refine jEv.gfR (o' := (o0 + 3)) (show jfI 33 11 (.getfield 18) 3 [2, 3, 5, 0, 1044] = true by decide +kernel) (isX2_L ho0) (by decide) (isX2_r3 ho0) ?_
  refine jEv.blk [(.aload_n 0, 1, [])] (by decide +kernel) (pc' := 15) (ls' := [(2, Int.ofNat o0)]) (st' := [(2, Int.ofNat o0), (2, Int.ofNat (o0 + 3))]) rfl ?_
  refine jEv.gfI (show jfI 33 15 (.getfield 39) 3 [2, 4, 0, 0, 1045] = true by decide +kernel) (isX2_L ho0) (by decide) ?_
  refine jbind H (fun b1 Hb1 H => ?_)
  refine jEv.calS (st' := [(0, b1)]) (show jfI 33 18 (.invokestatic 42) 3 [4, 137, 2, 5135] = true by decide +kernel) rfl (Or.inr rfl) rfl (Nat.le_of_ble_eq_true rfl) ((t_G_cell (T := T) (xs := xs) (isX2_a3 ho0) Hb1).mono (jKle 1 hd)) rfl ?_
  exact jEv.retI (show jfI 33 21 (.ireturn) 1 [] = true by decide +kernel) (by decide +kernel) (by cases H; exact HY)
set_option maxRecDepth 20000 in
noncomputable def Fo_ofOne_p63  (h : jH)  : Option Int := some 0
set_option maxRecDepth 20000 in
theorem t_Fo_ofOne_p63 {T : jT} {xs : List Int} {d : Nat} {y : jV × jS} (hd : 1 ≤ d) {h : jH}   {out : Int}  (H : Fo_ofOne_p63 h = some out) (HY : ykIp T h y out) : jEv xs d (34, 63, [(3, 0), (3, 0), (3, 0)], []) (T, h) y := by
  unfold Fo_ofOne_p63 at H
  refine jEv.blk [(.iconst 0, 1, [])] (by decide +kernel) (pc' := 64) (ls' := [(3, 0), (3, 0), (3, 0)]) (st' := [(0, 0)]) rfl ?_
  exact jEv.retI (show jfI 34 64 (.ireturn) 1 [] = true by decide +kernel) (by decide +kernel) (by cases H; exact HY)
set_option maxRecDepth 20000 in
noncomputable def Fo_ofOne_p89  (h : jH)  : Option Int := some 0
set_option maxRecDepth 20000 in
theorem t_Fo_ofOne_p89 {T : jT} {xs : List Int} {d : Nat} {y : jV × jS} (hd : 1 ≤ d) {h : jH}   {out : Int}  (H : Fo_ofOne_p89 h = some out) (HY : ykIp T h y out) : jEv xs d (34, 89, [(3, 0), (3, 0), (3, 0)], []) (T, h) y := by
  unfold Fo_ofOne_p89 at H
  refine jEv.blk [(.iconst 0, 1, [])] (by decide +kernel) (pc' := 90) (ls' := [(3, 0), (3, 0), (3, 0)]) (st' := [(0, 0)]) rfl ?_
  exact jEv.retI (show jfI 34 90 (.ireturn) 1 [] = true by decide +kernel) (by decide +kernel) (by cases H; exact HY)
set_option maxRecDepth 20000 in
noncomputable def Fo_ofOne  (h : jH) (o0 : Nat) (v1 : Int) (v2 : Int) : Option Int := (if v1 = 20000 then (if v2 = 0 then some 1 else some 0) else (if v1 = 20001 then (if v2 < 0 then Fo_ofOne_p63 h else (if v2 < 128 then Option.bind (G_cell h (o0 + 2) 160 (wr (32 + v2))) (fun b6 => some b6) else Fo_ofOne_p63 h)) else (if v2 < 0 then Fo_ofOne_p89 h else (if v2 < 16 then Option.bind (G_cell h (o0 + 2) 160 (wr (16 + v2))) (fun b9 => some b9) else Fo_ofOne_p89 h))))
set_option maxRecDepth 20000 in
theorem t_Fo_ofOne {T : jT} {xs : List Int} {h : jH}  {o0 : Nat} {v1 : Int} {v2 : Int} {out : Int} (ho0 : isX2 T o0) (H : Fo_ofOne h o0 v1 v2 = some out) : jEm xs 2 34 [(2, Int.ofNat o0), (0, v1), (0, v2)] (T, h) ((0, out), (T, h)) := by
  have hd : 1 ≤ 1 := Nat.le_refl _
  obtain ⟨y, ey⟩ : ∃ y : jV × jS, y = ((0, out), (T, h)) := ⟨_, rfl⟩
  rw [← ey]
  have HY : ykIp T h y out := ey
  refine jEm.ent (n := 3) (by decide +kernel) (Nat.le_of_ble_eq_true rfl) ?_
  show jEv xs 1 (34, 0, [(2, Int.ofNat o0), (0, v1), (0, v2)], []) (T, h) y
  unfold Fo_ofOne at H
  refine jEv.blk [(.iload_n 1, 1, [])] (by decide +kernel) (pc' := 1) (ls' := [(2, Int.ofNat o0), (0, v1), (0, v2)]) (st' := [(0, v1)]) rfl ?_
  refine jite H (fun c1 H => ?_) (fun c1 H => ?_)
  · refine jEv.lsw (off := 27) (t := 28) (show jfI 34 1 (.lookupswitch 64 #[(20000, 27), (20001, 37)]) 27 [] = true by decide +kernel) (by rw [c1]; rfl) rfl (by decide) ?_
    refine jEv.blk [(.iload_n 2, 1, [])] (by decide +kernel) (pc' := 29) (ls' := [(2, Int.ofNat o0), (0, v1), (0, v2)]) (st' := [(0, v2)]) rfl ?_
    refine jEv.if_ne (t := 36) (show jfI 34 29 (.ifCond .ne 7) 3 [] = true by decide +kernel) rfl H (fun c2 H => ?_) (fun c2 H => ?_)
    · refine jEv.blk [(.iconst 1, 1, [])] (by decide +kernel) (pc' := 33) (ls' := [(2, Int.ofNat o0), (0, v1), (0, v2)]) (st' := [(0, 1)]) rfl ?_
      refine jEv.goto (t := 37) (show jfI 34 33 (.goto 4) 3 [] = true by decide +kernel) rfl ?_
      exact jEv.retI (show jfI 34 37 (.ireturn) 1 [] = true by decide +kernel) (by decide +kernel) (by cases H; exact HY)
    · refine jEv.blk [(.iconst 0, 1, [])] (by decide +kernel) (pc' := 37) (ls' := [(2, Int.ofNat o0), (0, v1), (0, v2)]) (st' := [(0, 0)]) rfl ?_
      exact jEv.retI (show jfI 34 37 (.ireturn) 1 [] = true by decide +kernel) (by decide +kernel) (by cases H; exact HY)
  · refine jite H (fun c3 H => ?_) (fun c3 H => ?_)
    · refine jEv.lsw (off := 37) (t := 38) (show jfI 34 1 (.lookupswitch 64 #[(20000, 27), (20001, 37)]) 27 [] = true by decide +kernel) (by rw [c3]; rfl) rfl (by decide) ?_
      refine jEv.blk [(.iload_n 2, 1, [])] (by decide +kernel) (pc' := 39) (ls' := [(2, Int.ofNat o0), (0, v1), (0, v2)]) (st' := [(0, v2)]) rfl ?_
      refine jEv.if_lt (t := 63) (show jfI 34 39 (.ifCond .lt 24) 3 [] = true by decide +kernel) rfl H (fun c4 H => ?_) (fun c4 H => ?_)
      · exact jEv.weak (a := [(3, 0), (3, 0), (3, 0)]) (jles.c0 (jles.c0 (jles.c0 jles.nl))) (t_Fo_ofOne_p63 (T := T) (xs := xs) (y := y) hd H HY)
      · refine jEv.blk [(.iload_n 2, 1, []), (.sipush 128, 3, [])] (by decide +kernel) (pc' := 46) (ls' := [(2, Int.ofNat o0), (0, v1), (0, v2)]) (st' := [(0, 128), (0, v2)]) rfl ?_
        refine jEv.ic_ge (t := 63) (show jfI 34 46 (.if_icmp .ge 17) 3 [] = true by decide +kernel) rfl H (fun c5 H => ?_) (fun c5 H => ?_)
        · refine jEv.blk [(.aload_n 0, 1, [])] (by decide +kernel) (pc' := 50) (ls' := [(2, Int.ofNat o0), (0, v1), (0, v2)]) (st' := [(2, Int.ofNat o0)]) rfl ?_
          refine jEv.gfR (o' := (o0 + 2)) (show jfI 34 50 (.getfield 15) 3 [2, 2, 5, 0, 1043] = true by decide +kernel) (isX2_L ho0) (by decide) (isX2_r2 ho0) ?_
          refine jEv.blk [(.bipush 32, 2, []), (.iload_n 2, 1, []), (.iadd, 1, [])] (by decide +kernel) (pc' := 57) (ls' := [(2, Int.ofNat o0), (0, v1), (0, v2)]) (st' := [(0, (wr (32 + v2))), (2, Int.ofNat (o0 + 2))]) rfl ?_
          refine jbind H (fun b6 Hb6 H => ?_)
          refine jEv.calS (st' := [(0, b6)]) (show jfI 34 57 (.invokestatic 42) 3 [4, 137, 2, 5135] = true by decide +kernel) rfl (Or.inr rfl) rfl (Nat.le_of_ble_eq_true rfl) ((t_G_cell (T := T) (xs := xs) (isX2_a2 ho0) Hb6).mono (jKle 1 hd)) rfl ?_
          refine jEv.goto (t := 64) (show jfI 34 60 (.goto 4) 3 [] = true by decide +kernel) rfl ?_
          exact jEv.retI (show jfI 34 64 (.ireturn) 1 [] = true by decide +kernel) (by decide +kernel) (by cases H; exact HY)
        · exact jEv.weak (a := [(3, 0), (3, 0), (3, 0)]) (jles.c0 (jles.c0 (jles.c0 jles.nl))) (t_Fo_ofOne_p63 (T := T) (xs := xs) (y := y) hd H HY)
    · refine jEv.lsw (off := 64) (t := 65) (show jfI 34 1 (.lookupswitch 64 #[(20000, 27), (20001, 37)]) 27 [] = true by decide +kernel) (by simp [Op.lookupswitch.offset, (Ne.symm c1 : _ ≠ _), (Ne.symm c3 : _ ≠ _)]) rfl (by decide) ?_
      refine jEv.blk [(.iload_n 2, 1, [])] (by decide +kernel) (pc' := 66) (ls' := [(2, Int.ofNat o0), (0, v1), (0, v2)]) (st' := [(0, v2)]) rfl ?_
      refine jEv.if_lt (t := 89) (show jfI 34 66 (.ifCond .lt 23) 3 [] = true by decide +kernel) rfl H (fun c7 H => ?_) (fun c7 H => ?_)
      · exact jEv.weak (a := [(3, 0), (3, 0), (3, 0)]) (jles.c0 (jles.c0 (jles.c0 jles.nl))) (t_Fo_ofOne_p89 (T := T) (xs := xs) (y := y) hd H HY)
      · refine jEv.blk [(.iload_n 2, 1, []), (.bipush 16, 2, [])] (by decide +kernel) (pc' := 72) (ls' := [(2, Int.ofNat o0), (0, v1), (0, v2)]) (st' := [(0, 16), (0, v2)]) rfl ?_
        refine jEv.ic_ge (t := 89) (show jfI 34 72 (.if_icmp .ge 17) 3 [] = true by decide +kernel) rfl H (fun c8 H => ?_) (fun c8 H => ?_)
        · refine jEv.blk [(.aload_n 0, 1, [])] (by decide +kernel) (pc' := 76) (ls' := [(2, Int.ofNat o0), (0, v1), (0, v2)]) (st' := [(2, Int.ofNat o0)]) rfl ?_
          refine jEv.gfR (o' := (o0 + 2)) (show jfI 34 76 (.getfield 15) 3 [2, 2, 5, 0, 1043] = true by decide +kernel) (isX2_L ho0) (by decide) (isX2_r2 ho0) ?_
          refine jEv.blk [(.bipush 16, 2, []), (.iload_n 2, 1, []), (.iadd, 1, [])] (by decide +kernel) (pc' := 83) (ls' := [(2, Int.ofNat o0), (0, v1), (0, v2)]) (st' := [(0, (wr (16 + v2))), (2, Int.ofNat (o0 + 2))]) rfl ?_
          refine jbind H (fun b9 Hb9 H => ?_)
          refine jEv.calS (st' := [(0, b9)]) (show jfI 34 83 (.invokestatic 42) 3 [4, 137, 2, 5135] = true by decide +kernel) rfl (Or.inr rfl) rfl (Nat.le_of_ble_eq_true rfl) ((t_G_cell (T := T) (xs := xs) (isX2_a2 ho0) Hb9).mono (jKle 1 hd)) rfl ?_
          refine jEv.goto (t := 90) (show jfI 34 86 (.goto 4) 3 [] = true by decide +kernel) rfl ?_
          exact jEv.retI (show jfI 34 90 (.ireturn) 1 [] = true by decide +kernel) (by decide +kernel) (by cases H; exact HY)
        · exact jEv.weak (a := [(3, 0), (3, 0), (3, 0)]) (jles.c0 (jles.c0 (jles.c0 jles.nl))) (t_Fo_ofOne_p89 (T := T) (xs := xs) (y := y) hd H HY)
set_option maxRecDepth 20000 in
noncomputable def Fo_held  (o0 : Nat) (v1 : Int) : Option Int := some (wr (max (-1000000) (min 1000000 v1)))
set_option maxRecDepth 20000 in
theorem t_Fo_held {T : jT} {xs : List Int} {h : jH}  {o0 : Nat} {v1 : Int} {out : Int} (ho0 : isX2 T o0) (H : Fo_held o0 v1 = some out) : jEm xs 2 36 [(2, Int.ofNat o0), (1, v1)] (T, h) ((0, out), (T, h)) := by
  have hd : 1 ≤ 1 := Nat.le_refl _
  obtain ⟨y, ey⟩ : ∃ y : jV × jS, y = ((0, out), (T, h)) := ⟨_, rfl⟩
  rw [← ey]
  have HY : ykIp T h y out := ey
  refine jEm.ent (n := 3) (by decide +kernel) (Nat.le_of_ble_eq_true rfl) ?_
  show jEv xs 1 (36, 0, [(2, Int.ofNat o0), (1, v1), (3, 0)], []) (T, h) y
  unfold Fo_held at H
  refine jEv.blk [(.ldc2_w 76, 3, [1, 1, 1000000, 5156]), (.ldc2_w 78, 3, [1, 0, 1000000, 5157]), (.lload_n 1, 1, [])] (by decide +kernel) (pc' := 7) (ls' := [(2, Int.ofNat o0), (1, v1), (3, 0)]) (st' := [(1, v1), (1, 1000000), (1, (-1000000))]) rfl ?_
  refine jEv.calS (st' := [(1, (min 1000000 v1)), (1, (-1000000))]) (show jfI 36 7 (.invokestatic 80) 3 [3, 368, 2, 5158] = true by decide +kernel) rfl (Or.inl rfl) rfl (Nat.le_of_ble_eq_true rfl) ((t_JMath_min_1 (T := T) (xs := xs)).mono (jKle 1 hd)) rfl ?_
  refine jEv.calS (st' := [(1, (max (-1000000) (min 1000000 v1)))]) (show jfI 36 10 (.invokestatic 83) 3 [3, 369, 2, 5161] = true by decide +kernel) rfl (Or.inl rfl) rfl (Nat.le_of_ble_eq_true rfl) ((t_JMath_max_0 (T := T) (xs := xs)).mono (jKle 1 hd)) rfl ?_
  refine jEv.blk [(.l2i, 1, [])] (by decide +kernel) (pc' := 14) (ls' := [(2, Int.ofNat o0), (1, v1), (3, 0)]) (st' := [(0, (wr (max (-1000000) (min 1000000 v1))))]) rfl ?_
  exact jEv.retI (show jfI 36 14 (.ireturn) 1 [] = true by decide +kernel) (by decide +kernel) (by cases H; exact HY)
set_option maxRecDepth 20000 in
noncomputable def JMath_floorDiv  (v0 : Int) (v1 : Int) : Option Int := (if v1 ≠ 0 then (if (jxor v0 v1) < 0 then (if (wr ((wr (Int.tdiv v0 v1)) * v1)) = v0 then some (wr (Int.tdiv v0 v1)) else some (wr ((wr (Int.tdiv v0 v1)) - 1))) else some (wr (Int.tdiv v0 v1))) else none)
set_option maxRecDepth 20000 in
theorem t_JMath_floorDiv {T : jT} {xs : List Int} {h : jH}  {v0 : Int} {v1 : Int} {out : Int}  (H : JMath_floorDiv v0 v1 = some out) : jEm xs 1 370 [(0, v0), (0, v1)] (T, h) ((0, out), (T, h)) := by
  have hd : 0 ≤ 0 := Nat.le_refl _
  obtain ⟨y, ey⟩ : ∃ y : jV × jS, y = ((0, out), (T, h)) := ⟨_, rfl⟩
  rw [← ey]
  have HY : ykIp T h y out := ey
  refine jEm.ent (n := 3) (by decide +kernel) (Nat.le_of_ble_eq_true rfl) ?_
  show jEv xs 0 (370, 0, [(0, v0), (0, v1), (3, 0)], []) (T, h) y
  unfold JMath_floorDiv at H
  refine jEv.blk [(.iload_n 0, 1, []), (.iload_n 1, 1, [])] (by decide +kernel) (pc' := 2) (ls' := [(0, v0), (0, v1), (3, 0)]) (st' := [(0, v1), (0, v0)]) rfl ?_
  refine jchk H (fun c1 H => ?_)
  refine jEv.idiv (show jfI 370 2 (.idiv) 1 [] = true by decide +kernel) c1 ?_
  refine jEv.blk [(.istore_n 2, 1, []), (.iload_n 0, 1, []), (.iload_n 1, 1, []), (.ixor, 1, [])] (by decide +kernel) (pc' := 7) (ls' := [(0, v0), (0, v1), (0, (wr (Int.tdiv v0 v1)))]) (st' := [(0, (jxor v0 v1))]) rfl ?_
  refine jEv.if_ge (t := 21) (show jfI 370 7 (.ifCond .ge 14) 3 [] = true by decide +kernel) rfl H (fun c2 H => ?_) (fun c2 H => ?_)
  · refine jEv.blk [(.iload_n 2, 1, []), (.iload_n 1, 1, []), (.imul, 1, []), (.iload_n 0, 1, [])] (by decide +kernel) (pc' := 14) (ls' := [(0, v0), (0, v1), (0, (wr (Int.tdiv v0 v1)))]) (st' := [(0, v0), (0, (wr ((wr (Int.tdiv v0 v1)) * v1)))]) rfl ?_
    refine jEv.ic_eq (t := 21) (show jfI 370 14 (.if_icmp .eq 7) 3 [] = true by decide +kernel) rfl H (fun c3 H => ?_) (fun c3 H => ?_)
    · refine jEv.blk [(.iload_n 2, 1, [])] (by decide +kernel) (pc' := 22) (ls' := [(0, v0), (0, v1), (0, (wr (Int.tdiv v0 v1)))]) (st' := [(0, (wr (Int.tdiv v0 v1)))]) rfl ?_
      exact jEv.retI (show jfI 370 22 (.ireturn) 1 [] = true by decide +kernel) (by decide +kernel) (by cases H; exact HY)
    · refine jEv.blk [(.iload_n 2, 1, []), (.iconst 1, 1, []), (.isub, 1, [])] (by decide +kernel) (pc' := 20) (ls' := [(0, v0), (0, v1), (0, (wr (Int.tdiv v0 v1)))]) (st' := [(0, (wr ((wr (Int.tdiv v0 v1)) - 1)))]) rfl ?_
      exact jEv.retI (show jfI 370 20 (.ireturn) 1 [] = true by decide +kernel) (by decide +kernel) (by cases H; exact HY)
  · refine jEv.blk [(.iload_n 2, 1, [])] (by decide +kernel) (pc' := 22) (ls' := [(0, v0), (0, v1), (0, (wr (Int.tdiv v0 v1)))]) (st' := [(0, (wr (Int.tdiv v0 v1)))]) rfl ?_
    exact jEv.retI (show jfI 370 22 (.ireturn) 1 [] = true by decide +kernel) (by decide +kernel) (by cases H; exact HY)
set_option maxRecDepth 20000 in
noncomputable def Fo_ofTwo  (o0 : Nat) (v1 : Int) (v2 : Int) (v3 : Int) : Option Int := (if v1 = 30000 then some (jor v2 v3) else (if v1 = 30001 then some (jand v2 v3) else (if v1 = 30002 then (if v2 < v3 then some 1 else some 0) else (if v1 = 30003 then (if v3 < v2 then some 1 else some 0) else (if v1 = 30004 then (if v2 = v3 then some 1 else some 0) else (if v1 = 30005 then Option.bind (Fo_held o0 (wl (v2 + v3))) (fun b10 => some b10) else (if v1 = 30006 then Option.bind (Fo_held o0 (wl (v2 - v3))) (fun b12 => some b12) else (if v1 = 30007 then Option.bind (Fo_held o0 (wl (v2 * v3))) (fun b14 => some b14) else (if v1 = 30008 then (if v3 = 0 then some 0 else Option.bind (JMath_floorDiv v2 v3) (fun b17 => some b17)) else (if v1 = 30009 then some (min v2 v3) else some (max v2 v3)))))))))))
set_option maxRecDepth 20000 in
theorem t_Fo_ofTwo {T : jT} {xs : List Int} {h : jH}  {o0 : Nat} {v1 : Int} {v2 : Int} {v3 : Int} {out : Int} (ho0 : isX2 T o0) (H : Fo_ofTwo o0 v1 v2 v3 = some out) : jEm xs 3 35 [(2, Int.ofNat o0), (0, v1), (0, v2), (0, v3)] (T, h) ((0, out), (T, h)) := by
  have hd : 2 ≤ 2 := Nat.le_refl _
  obtain ⟨y, ey⟩ : ∃ y : jV × jS, y = ((0, out), (T, h)) := ⟨_, rfl⟩
  rw [← ey]
  have HY : ykIp T h y out := ey
  refine jEm.ent (n := 4) (by decide +kernel) (Nat.le_of_ble_eq_true rfl) ?_
  show jEv xs 2 (35, 0, [(2, Int.ofNat o0), (0, v1), (0, v2), (0, v3)], []) (T, h) y
  unfold Fo_ofTwo at H
  refine jEv.blk [(.iload_n 1, 1, [])] (by decide +kernel) (pc' := 1) (ls' := [(2, Int.ofNat o0), (0, v1), (0, v2), (0, v3)]) (st' := [(0, v1)]) rfl ?_
  refine jite H (fun c1 H => ?_) (fun c1 H => ?_)
  · refine jEv.tsI (v := 30000) (off := 55) (t := 56) (show jfI 35 1 (.tableswitch 146 30000 30009 #[55, 59, 63, 74, 85, 96, 106, 116, 126, 140]) 55 [] = true by decide +kernel) c1 (by decide) (by decide) rfl (by decide) ?_
    refine jEv.blk [(.iload_n 2, 1, []), (.iload_n 3, 1, []), (.ior, 1, [])] (by decide +kernel) (pc' := 59) (ls' := [(2, Int.ofNat o0), (0, v1), (0, v2), (0, v3)]) (st' := [(0, (jor v2 v3))]) rfl ?_
    exact jEv.retI (show jfI 35 59 (.ireturn) 1 [] = true by decide +kernel) (by decide +kernel) (by cases H; exact HY)
  · refine jite H (fun c2 H => ?_) (fun c2 H => ?_)
    · refine jEv.tsI (v := 30001) (off := 59) (t := 60) (show jfI 35 1 (.tableswitch 146 30000 30009 #[55, 59, 63, 74, 85, 96, 106, 116, 126, 140]) 55 [] = true by decide +kernel) c2 (by decide) (by decide) rfl (by decide) ?_
      refine jEv.blk [(.iload_n 2, 1, []), (.iload_n 3, 1, []), (.iand, 1, [])] (by decide +kernel) (pc' := 63) (ls' := [(2, Int.ofNat o0), (0, v1), (0, v2), (0, v3)]) (st' := [(0, (jand v2 v3))]) rfl ?_
      exact jEv.retI (show jfI 35 63 (.ireturn) 1 [] = true by decide +kernel) (by decide +kernel) (by cases H; exact HY)
    · refine jite H (fun c3 H => ?_) (fun c3 H => ?_)
      · refine jEv.tsI (v := 30002) (off := 63) (t := 64) (show jfI 35 1 (.tableswitch 146 30000 30009 #[55, 59, 63, 74, 85, 96, 106, 116, 126, 140]) 55 [] = true by decide +kernel) c3 (by decide) (by decide) rfl (by decide) ?_
        refine jEv.blk [(.iload_n 2, 1, []), (.iload_n 3, 1, [])] (by decide +kernel) (pc' := 66) (ls' := [(2, Int.ofNat o0), (0, v1), (0, v2), (0, v3)]) (st' := [(0, v3), (0, v2)]) rfl ?_
        refine jEv.ic_ge (t := 73) (show jfI 35 66 (.if_icmp .ge 7) 3 [] = true by decide +kernel) rfl H (fun c4 H => ?_) (fun c4 H => ?_)
        · refine jEv.blk [(.iconst 1, 1, [])] (by decide +kernel) (pc' := 70) (ls' := [(2, Int.ofNat o0), (0, v1), (0, v2), (0, v3)]) (st' := [(0, 1)]) rfl ?_
          refine jEv.goto (t := 74) (show jfI 35 70 (.goto 4) 3 [] = true by decide +kernel) rfl ?_
          exact jEv.retI (show jfI 35 74 (.ireturn) 1 [] = true by decide +kernel) (by decide +kernel) (by cases H; exact HY)
        · refine jEv.blk [(.iconst 0, 1, [])] (by decide +kernel) (pc' := 74) (ls' := [(2, Int.ofNat o0), (0, v1), (0, v2), (0, v3)]) (st' := [(0, 0)]) rfl ?_
          exact jEv.retI (show jfI 35 74 (.ireturn) 1 [] = true by decide +kernel) (by decide +kernel) (by cases H; exact HY)
      · refine jite H (fun c5 H => ?_) (fun c5 H => ?_)
        · refine jEv.tsI (v := 30003) (off := 74) (t := 75) (show jfI 35 1 (.tableswitch 146 30000 30009 #[55, 59, 63, 74, 85, 96, 106, 116, 126, 140]) 55 [] = true by decide +kernel) c5 (by decide) (by decide) rfl (by decide) ?_
          refine jEv.blk [(.iload_n 2, 1, []), (.iload_n 3, 1, [])] (by decide +kernel) (pc' := 77) (ls' := [(2, Int.ofNat o0), (0, v1), (0, v2), (0, v3)]) (st' := [(0, v3), (0, v2)]) rfl ?_
          refine jEv.ic_le (t := 84) (show jfI 35 77 (.if_icmp .le 7) 3 [] = true by decide +kernel) rfl H (fun c6 H => ?_) (fun c6 H => ?_)
          · refine jEv.blk [(.iconst 1, 1, [])] (by decide +kernel) (pc' := 81) (ls' := [(2, Int.ofNat o0), (0, v1), (0, v2), (0, v3)]) (st' := [(0, 1)]) rfl ?_
            refine jEv.goto (t := 85) (show jfI 35 81 (.goto 4) 3 [] = true by decide +kernel) rfl ?_
            exact jEv.retI (show jfI 35 85 (.ireturn) 1 [] = true by decide +kernel) (by decide +kernel) (by cases H; exact HY)
          · refine jEv.blk [(.iconst 0, 1, [])] (by decide +kernel) (pc' := 85) (ls' := [(2, Int.ofNat o0), (0, v1), (0, v2), (0, v3)]) (st' := [(0, 0)]) rfl ?_
            exact jEv.retI (show jfI 35 85 (.ireturn) 1 [] = true by decide +kernel) (by decide +kernel) (by cases H; exact HY)
        · refine jite H (fun c7 H => ?_) (fun c7 H => ?_)
          · refine jEv.tsI (v := 30004) (off := 85) (t := 86) (show jfI 35 1 (.tableswitch 146 30000 30009 #[55, 59, 63, 74, 85, 96, 106, 116, 126, 140]) 55 [] = true by decide +kernel) c7 (by decide) (by decide) rfl (by decide) ?_
            refine jEv.blk [(.iload_n 2, 1, []), (.iload_n 3, 1, [])] (by decide +kernel) (pc' := 88) (ls' := [(2, Int.ofNat o0), (0, v1), (0, v2), (0, v3)]) (st' := [(0, v3), (0, v2)]) rfl ?_
            refine jEv.ic_ne (t := 95) (show jfI 35 88 (.if_icmp .ne 7) 3 [] = true by decide +kernel) rfl H (fun c8 H => ?_) (fun c8 H => ?_)
            · refine jEv.blk [(.iconst 1, 1, [])] (by decide +kernel) (pc' := 92) (ls' := [(2, Int.ofNat o0), (0, v1), (0, v2), (0, v3)]) (st' := [(0, 1)]) rfl ?_
              refine jEv.goto (t := 96) (show jfI 35 92 (.goto 4) 3 [] = true by decide +kernel) rfl ?_
              exact jEv.retI (show jfI 35 96 (.ireturn) 1 [] = true by decide +kernel) (by decide +kernel) (by cases H; exact HY)
            · refine jEv.blk [(.iconst 0, 1, [])] (by decide +kernel) (pc' := 96) (ls' := [(2, Int.ofNat o0), (0, v1), (0, v2), (0, v3)]) (st' := [(0, 0)]) rfl ?_
              exact jEv.retI (show jfI 35 96 (.ireturn) 1 [] = true by decide +kernel) (by decide +kernel) (by cases H; exact HY)
          · refine jite H (fun c9 H => ?_) (fun c9 H => ?_)
            · refine jEv.tsI (v := 30005) (off := 96) (t := 97) (show jfI 35 1 (.tableswitch 146 30000 30009 #[55, 59, 63, 74, 85, 96, 106, 116, 126, 140]) 55 [] = true by decide +kernel) c9 (by decide) (by decide) rfl (by decide) ?_
              refine jEv.blk [(.aload_n 0, 1, []), (.iload_n 2, 1, []), (.i2l, 1, []), (.iload_n 3, 1, []), (.i2l, 1, []), (.ladd, 1, [])] (by decide +kernel) (pc' := 103) (ls' := [(2, Int.ofNat o0), (0, v1), (0, v2), (0, v3)]) (st' := [(1, (wl (v2 + v3))), (2, Int.ofNat o0)]) rfl ?_
              refine jbind H (fun b10 Hb10 H => ?_)
              refine jEv.calV (st' := [(0, b10)]) (show jfI 35 103 (.invokevirtual 61) 3 [1, 36, 1, 5152] = true by decide +kernel) rfl (Or.inl rfl) rfl (Nat.le_of_ble_eq_true rfl) (by decide +kernel) (by decide) (isX2_L ho0) ((t_Fo_held (T := T) (xs := xs) ho0 Hb10).mono (jKle 2 hd)) rfl ?_
              exact jEv.retI (show jfI 35 106 (.ireturn) 1 [] = true by decide +kernel) (by decide +kernel) (by cases H; exact HY)
            · refine jite H (fun c11 H => ?_) (fun c11 H => ?_)
              · refine jEv.tsI (v := 30006) (off := 106) (t := 107) (show jfI 35 1 (.tableswitch 146 30000 30009 #[55, 59, 63, 74, 85, 96, 106, 116, 126, 140]) 55 [] = true by decide +kernel) c11 (by decide) (by decide) rfl (by decide) ?_
                refine jEv.blk [(.aload_n 0, 1, []), (.iload_n 2, 1, []), (.i2l, 1, []), (.iload_n 3, 1, []), (.i2l, 1, []), (.lsub, 1, [])] (by decide +kernel) (pc' := 113) (ls' := [(2, Int.ofNat o0), (0, v1), (0, v2), (0, v3)]) (st' := [(1, (wl (v2 - v3))), (2, Int.ofNat o0)]) rfl ?_
                refine jbind H (fun b12 Hb12 H => ?_)
                refine jEv.calV (st' := [(0, b12)]) (show jfI 35 113 (.invokevirtual 61) 3 [1, 36, 1, 5152] = true by decide +kernel) rfl (Or.inl rfl) rfl (Nat.le_of_ble_eq_true rfl) (by decide +kernel) (by decide) (isX2_L ho0) ((t_Fo_held (T := T) (xs := xs) ho0 Hb12).mono (jKle 2 hd)) rfl ?_
                exact jEv.retI (show jfI 35 116 (.ireturn) 1 [] = true by decide +kernel) (by decide +kernel) (by cases H; exact HY)
              · refine jite H (fun c13 H => ?_) (fun c13 H => ?_)
                · refine jEv.tsI (v := 30007) (off := 116) (t := 117) (show jfI 35 1 (.tableswitch 146 30000 30009 #[55, 59, 63, 74, 85, 96, 106, 116, 126, 140]) 55 [] = true by decide +kernel) c13 (by decide) (by decide) rfl (by decide) ?_
                  refine jEv.blk [(.aload_n 0, 1, []), (.iload_n 2, 1, []), (.i2l, 1, []), (.iload_n 3, 1, []), (.i2l, 1, []), (.lmul, 1, [])] (by decide +kernel) (pc' := 123) (ls' := [(2, Int.ofNat o0), (0, v1), (0, v2), (0, v3)]) (st' := [(1, (wl (v2 * v3))), (2, Int.ofNat o0)]) rfl ?_
                  refine jbind H (fun b14 Hb14 H => ?_)
                  refine jEv.calV (st' := [(0, b14)]) (show jfI 35 123 (.invokevirtual 61) 3 [1, 36, 1, 5152] = true by decide +kernel) rfl (Or.inl rfl) rfl (Nat.le_of_ble_eq_true rfl) (by decide +kernel) (by decide) (isX2_L ho0) ((t_Fo_held (T := T) (xs := xs) ho0 Hb14).mono (jKle 2 hd)) rfl ?_
                  exact jEv.retI (show jfI 35 126 (.ireturn) 1 [] = true by decide +kernel) (by decide +kernel) (by cases H; exact HY)
                · refine jite H (fun c15 H => ?_) (fun c15 H => ?_)
                  · refine jEv.tsI (v := 30008) (off := 126) (t := 127) (show jfI 35 1 (.tableswitch 146 30000 30009 #[55, 59, 63, 74, 85, 96, 106, 116, 126, 140]) 55 [] = true by decide +kernel) c15 (by decide) (by decide) rfl (by decide) ?_
                    refine jEv.blk [(.iload_n 3, 1, [])] (by decide +kernel) (pc' := 128) (ls' := [(2, Int.ofNat o0), (0, v1), (0, v2), (0, v3)]) (st' := [(0, v3)]) rfl ?_
                    refine jEv.if_ne (t := 135) (show jfI 35 128 (.ifCond .ne 7) 3 [] = true by decide +kernel) rfl H (fun c16 H => ?_) (fun c16 H => ?_)
                    · refine jEv.blk [(.iconst 0, 1, [])] (by decide +kernel) (pc' := 132) (ls' := [(2, Int.ofNat o0), (0, v1), (0, v2), (0, v3)]) (st' := [(0, 0)]) rfl ?_
                      refine jEv.goto (t := 140) (show jfI 35 132 (.goto 8) 3 [] = true by decide +kernel) rfl ?_
                      exact jEv.retI (show jfI 35 140 (.ireturn) 1 [] = true by decide +kernel) (by decide +kernel) (by cases H; exact HY)
                    · refine jEv.blk [(.iload_n 2, 1, []), (.iload_n 3, 1, [])] (by decide +kernel) (pc' := 137) (ls' := [(2, Int.ofNat o0), (0, v1), (0, v2), (0, v3)]) (st' := [(0, v3), (0, v2)]) rfl ?_
                      refine jbind H (fun b17 Hb17 H => ?_)
                      refine jEv.calS (st' := [(0, b17)]) (show jfI 35 137 (.invokestatic 65) 3 [3, 370, 2, 5164] = true by decide +kernel) rfl (Or.inl rfl) rfl (Nat.le_of_ble_eq_true rfl) ((t_JMath_floorDiv (T := T) (xs := xs)  Hb17).mono (jKle 1 hd)) rfl ?_
                      exact jEv.retI (show jfI 35 140 (.ireturn) 1 [] = true by decide +kernel) (by decide +kernel) (by cases H; exact HY)
                  · refine jite H (fun c18 H => ?_) (fun c18 H => ?_)
                    · refine jEv.tsI (v := 30009) (off := 140) (t := 141) (show jfI 35 1 (.tableswitch 146 30000 30009 #[55, 59, 63, 74, 85, 96, 106, 116, 126, 140]) 55 [] = true by decide +kernel) c18 (by decide) (by decide) rfl (by decide) ?_
                      refine jEv.blk [(.iload_n 2, 1, []), (.iload_n 3, 1, [])] (by decide +kernel) (pc' := 143) (ls' := [(2, Int.ofNat o0), (0, v1), (0, v2), (0, v3)]) (st' := [(0, v3), (0, v2)]) rfl ?_
                      refine jEv.calS (st' := [(0, (min v2 v3))]) (show jfI 35 143 (.invokestatic 70) 3 [3, 360, 2, 5167] = true by decide +kernel) rfl (Or.inl rfl) rfl (Nat.le_of_ble_eq_true rfl) ((t_JMath_min_0 (T := T) (xs := xs)).mono (jKle 1 hd)) rfl ?_
                      exact jEv.retI (show jfI 35 146 (.ireturn) 1 [] = true by decide +kernel) (by decide +kernel) (by cases H; exact HY)
                    · refine jEv.tsO (t := 147) (show jfI 35 1 (.tableswitch 146 30000 30009 #[55, 59, 63, 74, 85, 96, 106, 116, 126, 140]) 55 [] = true by decide +kernel) (by omega) rfl (by decide) ?_
                      refine jEv.blk [(.iload_n 2, 1, []), (.iload_n 3, 1, [])] (by decide +kernel) (pc' := 149) (ls' := [(2, Int.ofNat o0), (0, v1), (0, v2), (0, v3)]) (st' := [(0, v3), (0, v2)]) rfl ?_
                      refine jEv.calS (st' := [(0, (max v2 v3))]) (show jfI 35 149 (.invokestatic 73) 3 [3, 371, 2, 5168] = true by decide +kernel) rfl (Or.inl rfl) rfl (Nat.le_of_ble_eq_true rfl) ((t_JMath_max_1 (T := T) (xs := xs)).mono (jKle 1 hd)) rfl ?_
                      exact jEv.retI (show jfI 35 152 (.ireturn) 1 [] = true by decide +kernel) (by decide +kernel) (by cases H; exact HY)
def yk_Fo_evaluate_L7 (T : jT) (xs : List Int) (d : Nat) (y : jV × jS)  (o0 : Nat) : ((Int × jH) ⊕ (Int × jH)) → Prop
  | .inl (v1, h) => jEv xs d (31, 7, [(2, Int.ofNat o0), (0, v1), (3, 0), (3, 0)], []) (T, h) y
  | .inr o => ykI T y o
set_option maxRecDepth 20000 in
noncomputable def Fo_evaluate_B7  (h : jH) (o0 : Nat) (v1 : Int) : Option ((Int × jH) ⊕ (Int × jH)) := (if v1 < (h o0 1) then Option.bind (G_cell h (o0 + 1) 1600 v1) (fun b2 => (if b2 < 10000 then Option.bind (Fo_push h o0 b2) (fun b4 => some (.inl ((wr (v1 + 1)), b4))) else (if b2 < 20000 then Option.bind (G_cell h (o0 + 2) 160 (wr (b2 - 10000))) (fun b6 => Option.bind (Fo_push h o0 b6) (fun b7 => some (.inl ((wr (v1 + 1)), b7)))) else (if b2 < 30000 then Option.bind (Fo_pop h o0) (fun b9 => Option.bind (Fo_ofOne b9.2 o0 b2 b9.1) (fun b10 => Option.bind (Fo_push b9.2 o0 b10) (fun b11 => some (.inl ((wr (v1 + 1)), b11))))) else Option.bind (Fo_pop h o0) (fun b12 => Option.bind (Fo_pop b12.2 o0) (fun b13 => Option.bind (Fo_ofTwo o0 b2 b13.1 b12.1) (fun b14 => Option.bind (Fo_push b13.2 o0 b14) (fun b15 => some (.inl ((wr (v1 + 1)), b15)))))))))) else Option.map Sum.inr (Option.bind (Fo_pop h o0) (fun b16 => some (b16.1, b16.2))))
noncomputable def Fo_evaluate_L7  (h : jH) (o0 : Nat) (v1 : Int) : Option (Int × jH) := jloop (fun s : (Int × jH) => Fo_evaluate_B7 s.2 o0 s.1) (v1, h)
set_option maxRecDepth 20000 in
theorem t_Fo_evaluate_B7 {T : jT} {xs : List Int} {d : Nat} {y : jV × jS} (hd : 3 ≤ d) {h : jH}  {o0 : Nat} {v1 : Int} {out : ((Int × jH) ⊕ (Int × jH))} (ho0 : isX2 T o0) (H : Fo_evaluate_B7 h o0 v1 = some out) (HY : yk_Fo_evaluate_L7 T xs d y o0 out) : jEv xs d (31, 7, [(2, Int.ofNat o0), (0, v1), (3, 0), (3, 0)], []) (T, h) y := by
  unfold Fo_evaluate_B7 at H
  refine jEv.blk [(.iload_n 1, 1, []), (.aload_n 0, 1, [])] (by decide +kernel) (pc' := 9) (ls' := [(2, Int.ofNat o0), (0, v1), (3, 0), (3, 0)]) (st' := [(2, Int.ofNat o0), (0, v1)]) rfl ?_
  refine jEv.gfI (show jfI 31 9 (.getfield 21) 3 [2, 1, 0, 0, 1042] = true by decide +kernel) (isX2_L ho0) (by decide) ?_
  refine jEv.ic_ge (t := 113) (show jfI 31 12 (.if_icmp .ge 101) 3 [] = true by decide +kernel) rfl H (fun c1 H => ?_) (fun c1 H => ?_)
  · refine jEv.blk [(.aload_n 0, 1, [])] (by decide +kernel) (pc' := 16) (ls' := [(2, Int.ofNat o0), (0, v1), (3, 0), (3, 0)]) (st' := [(2, Int.ofNat o0)]) rfl ?_
    refine jEv.gfR (o' := (o0 + 1)) (show jfI 31 16 (.getfield 9) 3 [2, 0, 5, 0, 1041] = true by decide +kernel) (isX2_L ho0) (by decide) (isX2_r0 ho0) ?_
    refine jEv.blk [(.iload_n 1, 1, [])] (by decide +kernel) (pc' := 20) (ls' := [(2, Int.ofNat o0), (0, v1), (3, 0), (3, 0)]) (st' := [(0, v1), (2, Int.ofNat (o0 + 1))]) rfl ?_
    refine jbind H (fun b2 Hb2 H => ?_)
    refine jEv.calS (st' := [(0, b2)]) (show jfI 31 20 (.invokestatic 42) 3 [4, 137, 2, 5135] = true by decide +kernel) rfl (Or.inr rfl) rfl (Nat.le_of_ble_eq_true rfl) ((t_G_cell (T := T) (xs := xs) (isX2_a0 ho0) Hb2).mono (jKle 1 hd)) rfl ?_
    refine jEv.blk [(.istore_n 2, 1, []), (.iload_n 2, 1, []), (.sipush 10000, 3, [])] (by decide +kernel) (pc' := 28) (ls' := [(2, Int.ofNat o0), (0, v1), (0, b2), (3, 0)]) (st' := [(0, 10000), (0, b2)]) rfl ?_
    refine jEv.ic_ge (t := 39) (show jfI 31 28 (.if_icmp .ge 11) 3 [] = true by decide +kernel) rfl H (fun c3 H => ?_) (fun c3 H => ?_)
    · refine jEv.blk [(.aload_n 0, 1, []), (.iload_n 2, 1, [])] (by decide +kernel) (pc' := 33) (ls' := [(2, Int.ofNat o0), (0, v1), (0, b2), (3, 0)]) (st' := [(0, b2), (2, Int.ofNat o0)]) rfl ?_
      refine jbind H (fun b4 Hb4 H => ?_)
      refine jEv.calV (st' := []) (show jfI 31 33 (.invokevirtual 46) 3 [1, 32, 1, 5136] = true by decide +kernel) rfl (Or.inl rfl) rfl (Nat.le_of_ble_eq_true rfl) (by decide +kernel) (by decide) (isX2_L ho0) ((t_Fo_push (T := T) (xs := xs) ho0 Hb4).mono (jKle 2 hd)) rfl ?_
      refine jEv.goto (t := 107) (show jfI 31 36 (.goto 71) 3 [] = true by decide +kernel) rfl ?_
      refine jEv.blk [(.iinc 1 1, 3, [])] (by decide +kernel) (pc' := 110) (ls' := [(2, Int.ofNat o0), (0, (wr (v1 + 1))), (0, b2), (3, 0)]) (st' := []) rfl ?_
      refine jEv.goto (t := 7) (show jfI 31 110 (.goto (-103)) 3 [] = true by decide +kernel) rfl ?_
      exact jEv.weak (a := [(2, Int.ofNat o0), (0, (wr (v1 + 1))), (3, 0), (3, 0)]) (jles.c1 (jles.c1 (jles.c0 (jles.c0 jles.nl)))) ((by cases H; exact HY))
    · refine jEv.blk [(.iload_n 2, 1, []), (.sipush 20000, 3, [])] (by decide +kernel) (pc' := 43) (ls' := [(2, Int.ofNat o0), (0, v1), (0, b2), (3, 0)]) (st' := [(0, 20000), (0, b2)]) rfl ?_
      refine jEv.ic_ge (t := 65) (show jfI 31 43 (.if_icmp .ge 22) 3 [] = true by decide +kernel) rfl H (fun c5 H => ?_) (fun c5 H => ?_)
      · refine jEv.blk [(.aload_n 0, 1, []), (.aload_n 0, 1, [])] (by decide +kernel) (pc' := 48) (ls' := [(2, Int.ofNat o0), (0, v1), (0, b2), (3, 0)]) (st' := [(2, Int.ofNat o0), (2, Int.ofNat o0)]) rfl ?_
        refine jEv.gfR (o' := (o0 + 2)) (show jfI 31 48 (.getfield 15) 3 [2, 2, 5, 0, 1043] = true by decide +kernel) (isX2_L ho0) (by decide) (isX2_r2 ho0) ?_
        refine jEv.blk [(.iload_n 2, 1, []), (.sipush 10000, 3, []), (.isub, 1, [])] (by decide +kernel) (pc' := 56) (ls' := [(2, Int.ofNat o0), (0, v1), (0, b2), (3, 0)]) (st' := [(0, (wr (b2 - 10000))), (2, Int.ofNat (o0 + 2)), (2, Int.ofNat o0)]) rfl ?_
        refine jbind H (fun b6 Hb6 H => ?_)
        refine jEv.calS (st' := [(0, b6), (2, Int.ofNat o0)]) (show jfI 31 56 (.invokestatic 42) 3 [4, 137, 2, 5135] = true by decide +kernel) rfl (Or.inr rfl) rfl (Nat.le_of_ble_eq_true rfl) ((t_G_cell (T := T) (xs := xs) (isX2_a2 ho0) Hb6).mono (jKle 1 hd)) rfl ?_
        refine jbind H (fun b7 Hb7 H => ?_)
        refine jEv.calV (st' := []) (show jfI 31 59 (.invokevirtual 46) 3 [1, 32, 1, 5136] = true by decide +kernel) rfl (Or.inl rfl) rfl (Nat.le_of_ble_eq_true rfl) (by decide +kernel) (by decide) (isX2_L ho0) ((t_Fo_push (T := T) (xs := xs) ho0 Hb7).mono (jKle 2 hd)) rfl ?_
        refine jEv.goto (t := 107) (show jfI 31 62 (.goto 45) 3 [] = true by decide +kernel) rfl ?_
        refine jEv.blk [(.iinc 1 1, 3, [])] (by decide +kernel) (pc' := 110) (ls' := [(2, Int.ofNat o0), (0, (wr (v1 + 1))), (0, b2), (3, 0)]) (st' := []) rfl ?_
        refine jEv.goto (t := 7) (show jfI 31 110 (.goto (-103)) 3 [] = true by decide +kernel) rfl ?_
        exact jEv.weak (a := [(2, Int.ofNat o0), (0, (wr (v1 + 1))), (3, 0), (3, 0)]) (jles.c1 (jles.c1 (jles.c0 (jles.c0 jles.nl)))) ((by cases H; exact HY))
      · refine jEv.blk [(.iload_n 2, 1, []), (.sipush 30000, 3, [])] (by decide +kernel) (pc' := 69) (ls' := [(2, Int.ofNat o0), (0, v1), (0, b2), (3, 0)]) (st' := [(0, 30000), (0, b2)]) rfl ?_
        refine jEv.ic_ge (t := 88) (show jfI 31 69 (.if_icmp .ge 19) 3 [] = true by decide +kernel) rfl H (fun c8 H => ?_) (fun c8 H => ?_)
        · refine jEv.blk [(.aload_n 0, 1, []), (.aload_n 0, 1, []), (.iload_n 2, 1, []), (.aload_n 0, 1, [])] (by decide +kernel) (pc' := 76) (ls' := [(2, Int.ofNat o0), (0, v1), (0, b2), (3, 0)]) (st' := [(2, Int.ofNat o0), (0, b2), (2, Int.ofNat o0), (2, Int.ofNat o0)]) rfl ?_
          refine jbind H (fun b9 Hb9 H => ?_)
          refine jEv.calV (st' := [(0, b9.1), (0, b2), (2, Int.ofNat o0), (2, Int.ofNat o0)]) (show jfI 31 76 (.invokevirtual 49) 3 [1, 33, 0, 5140] = true by decide +kernel) rfl (Or.inl rfl) rfl (Nat.le_of_ble_eq_true rfl) (by decide +kernel) (by decide) (isX2_L ho0) ((t_Fo_pop (T := T) (xs := xs) ho0 Hb9).mono (jKle 2 hd)) rfl ?_
          refine jbind H (fun b10 Hb10 H => ?_)
          refine jEv.calV (st' := [(0, b10), (2, Int.ofNat o0)]) (show jfI 31 79 (.invokevirtual 53) 3 [1, 34, 2, 5144] = true by decide +kernel) rfl (Or.inl rfl) rfl (Nat.le_of_ble_eq_true rfl) (by decide +kernel) (by decide) (isX2_L ho0) ((t_Fo_ofOne (T := T) (xs := xs) ho0 Hb10).mono (jKle 2 hd)) rfl ?_
          refine jbind H (fun b11 Hb11 H => ?_)
          refine jEv.calV (st' := []) (show jfI 31 82 (.invokevirtual 46) 3 [1, 32, 1, 5136] = true by decide +kernel) rfl (Or.inl rfl) rfl (Nat.le_of_ble_eq_true rfl) (by decide +kernel) (by decide) (isX2_L ho0) ((t_Fo_push (T := T) (xs := xs) ho0 Hb11).mono (jKle 2 hd)) rfl ?_
          refine jEv.goto (t := 107) (show jfI 31 85 (.goto 22) 3 [] = true by decide +kernel) rfl ?_
          refine jEv.blk [(.iinc 1 1, 3, [])] (by decide +kernel) (pc' := 110) (ls' := [(2, Int.ofNat o0), (0, (wr (v1 + 1))), (0, b2), (3, 0)]) (st' := []) rfl ?_
          refine jEv.goto (t := 7) (show jfI 31 110 (.goto (-103)) 3 [] = true by decide +kernel) rfl ?_
          exact jEv.weak (a := [(2, Int.ofNat o0), (0, (wr (v1 + 1))), (3, 0), (3, 0)]) (jles.c1 (jles.c1 (jles.c0 (jles.c0 jles.nl)))) ((by cases H; exact HY))
        · refine jEv.blk [(.aload_n 0, 1, [])] (by decide +kernel) (pc' := 89) (ls' := [(2, Int.ofNat o0), (0, v1), (0, b2), (3, 0)]) (st' := [(2, Int.ofNat o0)]) rfl ?_
          refine jbind H (fun b12 Hb12 H => ?_)
          refine jEv.calV (st' := [(0, b12.1)]) (show jfI 31 89 (.invokevirtual 49) 3 [1, 33, 0, 5140] = true by decide +kernel) rfl (Or.inl rfl) rfl (Nat.le_of_ble_eq_true rfl) (by decide +kernel) (by decide) (isX2_L ho0) ((t_Fo_pop (T := T) (xs := xs) ho0 Hb12).mono (jKle 2 hd)) rfl ?_
          refine jEv.blk [(.istore_n 3, 1, []), (.aload_n 0, 1, []), (.aload_n 0, 1, []), (.iload_n 2, 1, []), (.aload_n 0, 1, [])] (by decide +kernel) (pc' := 97) (ls' := [(2, Int.ofNat o0), (0, v1), (0, b2), (0, b12.1)]) (st' := [(2, Int.ofNat o0), (0, b2), (2, Int.ofNat o0), (2, Int.ofNat o0)]) rfl ?_
          refine jbind H (fun b13 Hb13 H => ?_)
          refine jEv.calV (st' := [(0, b13.1), (0, b2), (2, Int.ofNat o0), (2, Int.ofNat o0)]) (show jfI 31 97 (.invokevirtual 49) 3 [1, 33, 0, 5140] = true by decide +kernel) rfl (Or.inl rfl) rfl (Nat.le_of_ble_eq_true rfl) (by decide +kernel) (by decide) (isX2_L ho0) ((t_Fo_pop (T := T) (xs := xs) ho0 Hb13).mono (jKle 2 hd)) rfl ?_
          refine jEv.blk [(.iload_n 3, 1, [])] (by decide +kernel) (pc' := 101) (ls' := [(2, Int.ofNat o0), (0, v1), (0, b2), (0, b12.1)]) (st' := [(0, b12.1), (0, b13.1), (0, b2), (2, Int.ofNat o0), (2, Int.ofNat o0)]) rfl ?_
          refine jbind H (fun b14 Hb14 H => ?_)
          refine jEv.calV (st' := [(0, b14), (2, Int.ofNat o0)]) (show jfI 31 101 (.invokevirtual 57) 3 [1, 35, 3, 5148] = true by decide +kernel) rfl (Or.inl rfl) rfl (Nat.le_of_ble_eq_true rfl) (by decide +kernel) (by decide) (isX2_L ho0) ((t_Fo_ofTwo (T := T) (xs := xs) ho0 Hb14).mono (jKle 3 hd)) rfl ?_
          refine jbind H (fun b15 Hb15 H => ?_)
          refine jEv.calV (st' := []) (show jfI 31 104 (.invokevirtual 46) 3 [1, 32, 1, 5136] = true by decide +kernel) rfl (Or.inl rfl) rfl (Nat.le_of_ble_eq_true rfl) (by decide +kernel) (by decide) (isX2_L ho0) ((t_Fo_push (T := T) (xs := xs) ho0 Hb15).mono (jKle 2 hd)) rfl ?_
          refine jEv.blk [(.iinc 1 1, 3, [])] (by decide +kernel) (pc' := 110) (ls' := [(2, Int.ofNat o0), (0, (wr (v1 + 1))), (0, b2), (0, b12.1)]) (st' := []) rfl ?_
          refine jEv.goto (t := 7) (show jfI 31 110 (.goto (-103)) 3 [] = true by decide +kernel) rfl ?_
          exact jEv.weak (a := [(2, Int.ofNat o0), (0, (wr (v1 + 1))), (3, 0), (3, 0)]) (jles.c1 (jles.c1 (jles.c0 (jles.c0 jles.nl)))) ((by cases H; exact HY))
  · refine jmapr H HY (fun out H (HY : ykI T y out) => ?_)
    refine jEv.blk [(.aload_n 0, 1, [])] (by decide +kernel) (pc' := 114) (ls' := [(2, Int.ofNat o0), (0, v1), (3, 0), (3, 0)]) (st' := [(2, Int.ofNat o0)]) rfl ?_
    refine jbind H (fun b16 Hb16 H => ?_)
    refine jEv.calV (st' := [(0, b16.1)]) (show jfI 31 114 (.invokevirtual 49) 3 [1, 33, 0, 5140] = true by decide +kernel) rfl (Or.inl rfl) rfl (Nat.le_of_ble_eq_true rfl) (by decide +kernel) (by decide) (isX2_L ho0) ((t_Fo_pop (T := T) (xs := xs) ho0 Hb16).mono (jKle 2 hd)) rfl ?_
    exact jEv.retI (show jfI 31 117 (.ireturn) 1 [] = true by decide +kernel) (by decide +kernel) (by cases H; exact HY)
theorem t_Fo_evaluate_L7 {T : jT} {xs : List Int} {d : Nat} {y : jV × jS} (hd : 3 ≤ d) {h : jH}  {o0 : Nat} {v1 : Int} {out : (Int × jH)} (ho0 : isX2 T o0) (H : Fo_evaluate_L7 h o0 v1 = some out) (HY : ykI T y out) : jEv xs d (31, 7, [(2, Int.ofNat o0), (0, v1), (3, 0), (3, 0)], []) (T, h) y :=
  jloop_sound (G := fun s : (Int × jH) => jEv xs d (31, 7, [(2, Int.ofNat o0), (0, s.1), (3, 0), (3, 0)], []) (T, s.2) y) (K := yk_Fo_evaluate_L7 T xs d y o0) (fun s out H HY => t_Fo_evaluate_B7 hd ho0 H HY) (fun s' hg => hg) (s := (v1, h)) H HY
set_option maxRecDepth 20000 in
noncomputable def Fo_evaluate  (h : jH) (o0 : Nat) : Option (Int × jH) := Fo_evaluate_L7 (jup h o0 4 0) o0 0
set_option maxRecDepth 20000 in
theorem t_Fo_evaluate {T : jT} {xs : List Int} {h : jH}  {o0 : Nat} {out : (Int × jH)} (ho0 : isX2 T o0) (H : Fo_evaluate h o0 = some out) : jEm xs 4 31 [(2, Int.ofNat o0)] (T, h) ((0, out.1), (T, out.2)) := by
  have hd : 3 ≤ 3 := Nat.le_refl _
  obtain ⟨y, ey⟩ : ∃ y : jV × jS, y = ((0, out.1), (T, out.2)) := ⟨_, rfl⟩
  rw [← ey]
  have HY : ykI T y out := ey
  refine jEm.ent (n := 4) (by decide +kernel) (Nat.le_of_ble_eq_true rfl) ?_
  show jEv xs 3 (31, 0, [(2, Int.ofNat o0), (3, 0), (3, 0), (3, 0)], []) (T, h) y
  unfold Fo_evaluate at H
  refine jEv.blk [(.aload_n 0, 1, []), (.iconst 0, 1, [])] (by decide +kernel) (pc' := 2) (ls' := [(2, Int.ofNat o0), (3, 0), (3, 0), (3, 0)]) (st' := [(0, 0), (2, Int.ofNat o0)]) rfl ?_
  refine jEv.pfI (show jfI 31 2 (.putfield 39) 3 [2, 4, 0, 0, 1045] = true by decide +kernel) (isX2_L ho0) (by decide) ?_
  refine jEv.blk [(.iconst 0, 1, []), (.istore_n 1, 1, [])] (by decide +kernel) (pc' := 7) (ls' := [(2, Int.ofNat o0), (0, 0), (3, 0), (3, 0)]) (st' := []) rfl ?_
  exact t_Fo_evaluate_L7 (T := T) (xs := xs) (y := y) hd ho0 H HY
set_option maxRecDepth 20000 in
noncomputable def Fo_clearFacts  (h : jH) (o0 : Nat) : Option jH := some (jfill h (o0 + 2) 160 0)
set_option maxRecDepth 20000 in
theorem t_Fo_clearFacts {T : jT} {xs : List Int} {h : jH}  {o0 : Nat} {out : jH} (ho0 : isX2 T o0) (H : Fo_clearFacts h o0 = some out) : jEm xs 2 37 [(2, Int.ofNat o0)] (T, h) ((3, 0), (T, out)) := by
  have hd : 1 ≤ 1 := Nat.le_refl _
  obtain ⟨y, ey⟩ : ∃ y : jV × jS, y = ((3, 0), (T, out)) := ⟨_, rfl⟩
  rw [← ey]
  have HY : ykV T y out := ey
  refine jEm.ent (n := 1) (by decide +kernel) (Nat.le_of_ble_eq_true rfl) ?_
  show jEv xs 1 (37, 0, [(2, Int.ofNat o0)], []) (T, h) y
  unfold Fo_clearFacts at H
  refine jEv.blk [(.aload_n 0, 1, [])] (by decide +kernel) (pc' := 1) (ls' := [(2, Int.ofNat o0)]) (st' := [(2, Int.ofNat o0)]) rfl ?_
  refine jEv.gfR (o' := (o0 + 2)) (show jfI 37 1 (.getfield 15) 3 [2, 2, 5, 0, 1043] = true by decide +kernel) (isX2_L ho0) (by decide) (isX2_r2 ho0) ?_
  refine jEv.blk [(.iconst 0, 1, [])] (by decide +kernel) (pc' := 5) (ls' := [(2, Int.ofNat o0)]) (st' := [(0, 0), (2, Int.ofNat (o0 + 2))]) rfl ?_
  refine jEv.calS (st' := []) (show jfI 37 5 (.invokestatic 33) 3 [3, 359, 2, 6233] = true by decide +kernel) rfl (Or.inl rfl) rfl (Nat.le_of_ble_eq_true rfl) ((t_JArr_fill (xs := xs) (by decide) (isX2_a2 ho0)).mono (jKle 1 hd)) rfl ?_
  exact jEv.retV (show jfI 37 8 (.return_) 1 [] = true by decide +kernel) (by decide +kernel) (by cases H; exact HY)
set_option maxRecDepth 20000 in
noncomputable def FR_open  (h : jH) (o0 : Nat) (o1 : Nat) (v2 : Int) : Option jH := Option.bind (Di_serialOf (jup h o0 6 v2) o1 v2) (fun b1 => some (jup (jup (jup (jup h o0 6 v2) o0 7 b1) o0 3 5) o0 9 0))
set_option maxRecDepth 20000 in
theorem t_FR_open {T : jT} {xs : List Int} {h : jH}  {o0 : Nat} {o1 : Nat} {v2 : Int} {out : jH} (ho0 : isX3 T o0) (ho1 : isX0 T o1) (H : FR_open h o0 o1 v2 = some out) : jEm xs 3 40 [(2, Int.ofNat o0), (2, Int.ofNat o1), (0, v2)] (T, h) ((3, 0), (T, out)) := by
  have hd : 2 ≤ 2 := Nat.le_refl _
  obtain ⟨y, ey⟩ : ∃ y : jV × jS, y = ((3, 0), (T, out)) := ⟨_, rfl⟩
  rw [← ey]
  have HY : ykV T y out := ey
  refine jEm.ent (n := 3) (by decide +kernel) (Nat.le_of_ble_eq_true rfl) ?_
  show jEv xs 2 (40, 0, [(2, Int.ofNat o0), (2, Int.ofNat o1), (0, v2)], []) (T, h) y
  unfold FR_open at H
  refine jEv.blk [(.aload_n 0, 1, []), (.iload_n 2, 1, [])] (by decide +kernel) (pc' := 2) (ls' := [(2, Int.ofNat o0), (2, Int.ofNat o1), (0, v2)]) (st' := [(0, v2), (2, Int.ofNat o0)]) rfl ?_
  refine jEv.pfI (show jfI 40 2 (.putfield 9) 3 [3, 6, 0, 0, 2178] = true by decide +kernel) (isX3_L ho0) (by decide) ?_
  refine jEv.blk [(.aload_n 0, 1, []), (.aload_n 1, 1, []), (.iload_n 2, 1, [])] (by decide +kernel) (pc' := 8) (ls' := [(2, Int.ofNat o0), (2, Int.ofNat o1), (0, v2)]) (st' := [(0, v2), (2, Int.ofNat o1), (2, Int.ofNat o0)]) rfl ?_
  refine jbind H (fun b1 Hb1 H => ?_)
  refine jEv.calV (st' := [(0, b1), (2, Int.ofNat o0)]) (show jfI 40 8 (.invokevirtual 15) 3 [1, 10, 1, 4192] = true by decide +kernel) rfl (Or.inl rfl) rfl (Nat.le_of_ble_eq_true rfl) (by decide +kernel) (by decide) (isX0_L ho1) ((t_Di_serialOf (T := T) (xs := xs) ho1 Hb1).mono (jKle 2 hd)) rfl ?_
  refine jEv.pfI (show jfI 40 11 (.putfield 21) 3 [3, 7, 0, 0, 2179] = true by decide +kernel) (isX3_L ho0) (by decide) ?_
  refine jEv.blk [(.aload_n 0, 1, []), (.iconst 5, 1, [])] (by decide +kernel) (pc' := 16) (ls' := [(2, Int.ofNat o0), (2, Int.ofNat o1), (0, v2)]) (st' := [(0, 5), (2, Int.ofNat o0)]) rfl ?_
  refine jEv.pfI (show jfI 40 16 (.putfield 24) 3 [3, 3, 0, 0, 2172] = true by decide +kernel) (isX3_L ho0) (by decide) ?_
  refine jEv.blk [(.aload_n 0, 1, []), (.iconst 0, 1, [])] (by decide +kernel) (pc' := 21) (ls' := [(2, Int.ofNat o0), (2, Int.ofNat o1), (0, v2)]) (st' := [(0, 0), (2, Int.ofNat o0)]) rfl ?_
  refine jEv.pfZ (show jfI 40 21 (.putfield 27) 3 [3, 9, 0, 1, 2181] = true by decide +kernel) (isX3_L ho0) (by decide) (by decide) ?_
  exact jEv.retV (show jfI 40 24 (.return_) 1 [] = true by decide +kernel) (by decide +kernel) (by cases H; exact HY)
set_option maxRecDepth 20000 in
noncomputable def FR_canBe_p15  (h : jH) (o0 : Nat) (vs0 : Int) : Option Int := (if vs0 = (h o0 9) then some 0 else some 1)
set_option maxRecDepth 20000 in
theorem t_FR_canBe_p15 {T : jT} {xs : List Int} {d : Nat} {y : jV × jS} (hd : 0 ≤ d) {h : jH}  {o0 : Nat} {vs0 : Int} {out : Int} (ho0 : isX3 T o0) (H : FR_canBe_p15 h o0 vs0 = some out) (HY : ykIp T h y out) : jEv xs d (42, 15, [(2, Int.ofNat o0), (3, 0)], [(0, vs0)]) (T, h) y := by
  unfold FR_canBe_p15 at H
  refine jEv.blk [(.aload_n 0, 1, [])] (by decide +kernel) (pc' := 16) (ls' := [(2, Int.ofNat o0), (3, 0)]) (st' := [(2, Int.ofNat o0), (0, vs0)]) rfl ?_
  refine jEv.gfI (show jfI 42 16 (.getfield 27) 3 [3, 9, 0, 1, 2181] = true by decide +kernel) (isX3_L ho0) (by decide) ?_
  refine jEv.ic_eq (t := 26) (show jfI 42 19 (.if_icmp .eq 7) 3 [] = true by decide +kernel) rfl H (fun c3 H => ?_) (fun c3 H => ?_)
  · refine jEv.blk [(.iconst 0, 1, [])] (by decide +kernel) (pc' := 27) (ls' := [(2, Int.ofNat o0), (3, 0)]) (st' := [(0, 0)]) rfl ?_
    exact jEv.retZ (show jfI 42 27 (.ireturn) 1 [] = true by decide +kernel) (by decide +kernel) (by decide) (by cases H; exact HY)
  · refine jEv.blk [(.iconst 1, 1, [])] (by decide +kernel) (pc' := 23) (ls' := [(2, Int.ofNat o0), (3, 0)]) (st' := [(0, 1)]) rfl ?_
    refine jEv.goto (t := 27) (show jfI 42 23 (.goto 4) 3 [] = true by decide +kernel) rfl ?_
    exact jEv.retZ (show jfI 42 27 (.ireturn) 1 [] = true by decide +kernel) (by decide +kernel) (by decide) (by cases H; exact HY)
set_option maxRecDepth 20000 in
noncomputable def FR_canBe_p10  (h : jH) (o0 : Nat) : Option Int := FR_canBe_p15 h o0 1
set_option maxRecDepth 20000 in
theorem t_FR_canBe_p10 {T : jT} {xs : List Int} {d : Nat} {y : jV × jS} (hd : 0 ≤ d) {h : jH}  {o0 : Nat} {out : Int} (ho0 : isX3 T o0) (H : FR_canBe_p10 h o0 = some out) (HY : ykIp T h y out) : jEv xs d (42, 10, [(2, Int.ofNat o0), (3, 0)], []) (T, h) y := by
  unfold FR_canBe_p10 at H
  refine jEv.blk [(.iconst 1, 1, [])] (by decide +kernel) (pc' := 11) (ls' := [(2, Int.ofNat o0), (3, 0)]) (st' := [(0, 1)]) rfl ?_
  refine jEv.goto (t := 15) (show jfI 42 11 (.goto 4) 3 [] = true by decide +kernel) rfl ?_
  exact t_FR_canBe_p15 (T := T) (xs := xs) (y := y) hd ho0 H HY
set_option maxRecDepth 20000 in
noncomputable def FR_canBe  (h : jH) (o0 : Nat) (v1 : Int) : Option Int := (if v1 = 1 then FR_canBe_p10 h o0 else (if v1 = 2 then FR_canBe_p10 h o0 else FR_canBe_p15 h o0 0))
set_option maxRecDepth 20000 in
theorem t_FR_canBe {T : jT} {xs : List Int} {h : jH}  {o0 : Nat} {v1 : Int} {out : Int} (ho0 : isX3 T o0) (H : FR_canBe h o0 v1 = some out) : jEm xs 1 42 [(2, Int.ofNat o0), (0, v1)] (T, h) ((0, out), (T, h)) := by
  have hd : 0 ≤ 0 := Nat.le_refl _
  obtain ⟨y, ey⟩ : ∃ y : jV × jS, y = ((0, out), (T, h)) := ⟨_, rfl⟩
  rw [← ey]
  have HY : ykIp T h y out := ey
  refine jEm.ent (n := 2) (by decide +kernel) (Nat.le_of_ble_eq_true rfl) ?_
  show jEv xs 0 (42, 0, [(2, Int.ofNat o0), (0, v1)], []) (T, h) y
  unfold FR_canBe at H
  refine jEv.blk [(.iload_n 1, 1, []), (.iconst 1, 1, [])] (by decide +kernel) (pc' := 2) (ls' := [(2, Int.ofNat o0), (0, v1)]) (st' := [(0, 1), (0, v1)]) rfl ?_
  refine jEv.ic_eq (t := 10) (show jfI 42 2 (.if_icmp .eq 8) 3 [] = true by decide +kernel) rfl H (fun c1 H => ?_) (fun c1 H => ?_)
  · exact jEv.weak (a := [(2, Int.ofNat o0), (3, 0)]) (jles.c1 (jles.c0 jles.nl)) (t_FR_canBe_p10 (T := T) (xs := xs) (y := y) hd ho0 H HY)
  · refine jEv.blk [(.iload_n 1, 1, []), (.iconst 2, 1, [])] (by decide +kernel) (pc' := 7) (ls' := [(2, Int.ofNat o0), (0, v1)]) (st' := [(0, 2), (0, v1)]) rfl ?_
    refine jEv.ic_ne (t := 14) (show jfI 42 7 (.if_icmp .ne 7) 3 [] = true by decide +kernel) rfl H (fun c2 H => ?_) (fun c2 H => ?_)
    · exact jEv.weak (a := [(2, Int.ofNat o0), (3, 0)]) (jles.c1 (jles.c0 jles.nl)) (t_FR_canBe_p10 (T := T) (xs := xs) (y := y) hd ho0 H HY)
    · refine jEv.blk [(.iconst 0, 1, [])] (by decide +kernel) (pc' := 15) (ls' := [(2, Int.ofNat o0), (0, v1)]) (st' := [(0, 0)]) rfl ?_
      exact jEv.weak (a := [(2, Int.ofNat o0), (3, 0)]) (jles.c1 (jles.c0 jles.nl)) (t_FR_canBe_p15 (T := T) (xs := xs) (y := y) hd ho0 H HY)
set_option maxRecDepth 20000 in
noncomputable def FR_takeOctet  (h : jH) (o0 : Nat) (v1 : Int) (v2 : Int) : Option jH := (if v1 = 0 then some (jup h o0 4 v2) else (if v1 = 1 then some (jup h o0 5 (jshl v2 8)) else some (jup h o0 5 (jor (jand (h o0 5) 65280) v2))))
set_option maxRecDepth 20000 in
theorem t_FR_takeOctet {T : jT} {xs : List Int} {h : jH}  {o0 : Nat} {v1 : Int} {v2 : Int} {out : jH} (ho0 : isX3 T o0) (H : FR_takeOctet h o0 v1 v2 = some out) : jEm xs 1 43 [(2, Int.ofNat o0), (0, v1), (0, v2)] (T, h) ((3, 0), (T, out)) := by
  have hd : 0 ≤ 0 := Nat.le_refl _
  obtain ⟨y, ey⟩ : ∃ y : jV × jS, y = ((3, 0), (T, out)) := ⟨_, rfl⟩
  rw [← ey]
  have HY : ykV T y out := ey
  refine jEm.ent (n := 3) (by decide +kernel) (Nat.le_of_ble_eq_true rfl) ?_
  show jEv xs 0 (43, 0, [(2, Int.ofNat o0), (0, v1), (0, v2)], []) (T, h) y
  unfold FR_takeOctet at H
  refine jEv.blk [(.iload_n 1, 1, [])] (by decide +kernel) (pc' := 1) (ls' := [(2, Int.ofNat o0), (0, v1), (0, v2)]) (st' := [(0, v1)]) rfl ?_
  refine jEv.if_ne (t := 12) (show jfI 43 1 (.ifCond .ne 11) 3 [] = true by decide +kernel) rfl H (fun c1 H => ?_) (fun c1 H => ?_)
  · refine jEv.blk [(.aload_n 0, 1, []), (.iload_n 2, 1, [])] (by decide +kernel) (pc' := 6) (ls' := [(2, Int.ofNat o0), (0, v1), (0, v2)]) (st' := [(0, v2), (2, Int.ofNat o0)]) rfl ?_
    refine jEv.pfI (show jfI 43 6 (.putfield 83) 3 [3, 4, 0, 0, 2175] = true by decide +kernel) (isX3_L ho0) (by decide) ?_
    refine jEv.goto (t := 41) (show jfI 43 9 (.goto 32) 3 [] = true by decide +kernel) rfl ?_
    exact jEv.retV (show jfI 43 41 (.return_) 1 [] = true by decide +kernel) (by decide +kernel) (by cases H; exact HY)
  · refine jEv.blk [(.iload_n 1, 1, []), (.iconst 1, 1, [])] (by decide +kernel) (pc' := 14) (ls' := [(2, Int.ofNat o0), (0, v1), (0, v2)]) (st' := [(0, 1), (0, v1)]) rfl ?_
    refine jEv.ic_ne (t := 28) (show jfI 43 14 (.if_icmp .ne 14) 3 [] = true by decide +kernel) rfl H (fun c2 H => ?_) (fun c2 H => ?_)
    · refine jEv.blk [(.aload_n 0, 1, []), (.iload_n 2, 1, []), (.bipush 8, 2, []), (.ishl, 1, [])] (by decide +kernel) (pc' := 22) (ls' := [(2, Int.ofNat o0), (0, v1), (0, v2)]) (st' := [(0, (jshl v2 8)), (2, Int.ofNat o0)]) rfl ?_
      refine jEv.pfI (show jfI 43 22 (.putfield 86) 3 [3, 5, 0, 0, 2177] = true by decide +kernel) (isX3_L ho0) (by decide) ?_
      refine jEv.goto (t := 41) (show jfI 43 25 (.goto 16) 3 [] = true by decide +kernel) rfl ?_
      exact jEv.retV (show jfI 43 41 (.return_) 1 [] = true by decide +kernel) (by decide +kernel) (by cases H; exact HY)
    · refine jEv.blk [(.aload_n 0, 1, []), (.aload_n 0, 1, [])] (by decide +kernel) (pc' := 30) (ls' := [(2, Int.ofNat o0), (0, v1), (0, v2)]) (st' := [(2, Int.ofNat o0), (2, Int.ofNat o0)]) rfl ?_
      refine jEv.gfI (show jfI 43 30 (.getfield 86) 3 [3, 5, 0, 0, 2177] = true by decide +kernel) (isX3_L ho0) (by decide) ?_
      refine jEv.blk [(.ldc 89, 2, [0, 0, 65280, 4214]), (.iand, 1, []), (.iload_n 2, 1, []), (.ior, 1, [])] (by decide +kernel) (pc' := 38) (ls' := [(2, Int.ofNat o0), (0, v1), (0, v2)]) (st' := [(0, (jor (jand (h o0 5) 65280) v2)), (2, Int.ofNat o0)]) rfl ?_
      refine jEv.pfI (show jfI 43 38 (.putfield 86) 3 [3, 5, 0, 0, 2177] = true by decide +kernel) (isX3_L ho0) (by decide) ?_
      exact jEv.retV (show jfI 43 41 (.return_) 1 [] = true by decide +kernel) (by decide +kernel) (by cases H; exact HY)
set_option maxRecDepth 20000 in
noncomputable def FR_isLast_p16  (h : jH)  : Option Int := some 1
set_option maxRecDepth 20000 in
theorem t_FR_isLast_p16 {T : jT} {xs : List Int} {d : Nat} {y : jV × jS} (hd : 0 ≤ d) {h : jH}   {out : Int}  (H : FR_isLast_p16 h = some out) (HY : ykIp T h y out) : jEv xs d (44, 16, [(3, 0)], []) (T, h) y := by
  unfold FR_isLast_p16 at H
  refine jEv.blk [(.iconst 1, 1, [])] (by decide +kernel) (pc' := 17) (ls' := [(3, 0)]) (st' := [(0, 1)]) rfl ?_
  refine jEv.goto (t := 21) (show jfI 44 17 (.goto 4) 3 [] = true by decide +kernel) rfl ?_
  exact jEv.retZ (show jfI 44 21 (.ireturn) 1 [] = true by decide +kernel) (by decide +kernel) (by decide) (by cases H; exact HY)
set_option maxRecDepth 20000 in
noncomputable def FR_isLast  (h : jH) (o0 : Nat) : Option Int := (if (h o0 1) = 1 then FR_isLast_p16 h else (if (h o0 1) = 4 then FR_isLast_p16 h else some 0))
set_option maxRecDepth 20000 in
theorem t_FR_isLast {T : jT} {xs : List Int} {h : jH}  {o0 : Nat} {out : Int} (ho0 : isX3 T o0) (H : FR_isLast h o0 = some out) : jEm xs 1 44 [(2, Int.ofNat o0)] (T, h) ((0, out), (T, h)) := by
  have hd : 0 ≤ 0 := Nat.le_refl _
  obtain ⟨y, ey⟩ : ∃ y : jV × jS, y = ((0, out), (T, h)) := ⟨_, rfl⟩
  rw [← ey]
  have HY : ykIp T h y out := ey
  refine jEm.ent (n := 1) (by decide +kernel) (Nat.le_of_ble_eq_true rfl) ?_
  show jEv xs 0 (44, 0, [(2, Int.ofNat o0)], []) (T, h) y
  unfold FR_isLast at H
  refine jEv.blk [(.aload_n 0, 1, [])] (by decide +kernel) (pc' := 1) (ls' := [(2, Int.ofNat o0)]) (st' := [(2, Int.ofNat o0)]) rfl ?_
  refine jEv.gfI (show jfI 44 1 (.getfield 49) 3 [3, 1, 0, 0, 2168] = true by decide +kernel) (isX3_L ho0) (by decide) ?_
  refine jEv.blk [(.iconst 1, 1, [])] (by decide +kernel) (pc' := 5) (ls' := [(2, Int.ofNat o0)]) (st' := [(0, 1), (0, (h o0 1))]) rfl ?_
  refine jEv.ic_eq (t := 16) (show jfI 44 5 (.if_icmp .eq 11) 3 [] = true by decide +kernel) rfl H (fun c1 H => ?_) (fun c1 H => ?_)
  · exact jEv.weak (a := [(3, 0)]) (jles.c0 jles.nl) (t_FR_isLast_p16 (T := T) (xs := xs) (y := y) hd H HY)
  · refine jEv.blk [(.aload_n 0, 1, [])] (by decide +kernel) (pc' := 9) (ls' := [(2, Int.ofNat o0)]) (st' := [(2, Int.ofNat o0)]) rfl ?_
    refine jEv.gfI (show jfI 44 9 (.getfield 49) 3 [3, 1, 0, 0, 2168] = true by decide +kernel) (isX3_L ho0) (by decide) ?_
    refine jEv.blk [(.iconst 4, 1, [])] (by decide +kernel) (pc' := 13) (ls' := [(2, Int.ofNat o0)]) (st' := [(0, 4), (0, (h o0 1))]) rfl ?_
    refine jEv.ic_ne (t := 20) (show jfI 44 13 (.if_icmp .ne 7) 3 [] = true by decide +kernel) rfl H (fun c2 H => ?_) (fun c2 H => ?_)
    · exact jEv.weak (a := [(3, 0)]) (jles.c0 jles.nl) (t_FR_isLast_p16 (T := T) (xs := xs) (y := y) hd H HY)
    · refine jEv.blk [(.iconst 0, 1, [])] (by decide +kernel) (pc' := 21) (ls' := [(2, Int.ofNat o0)]) (st' := [(0, 0)]) rfl ?_
      exact jEv.retZ (show jfI 44 21 (.ireturn) 1 [] = true by decide +kernel) (by decide +kernel) (by decide) (by cases H; exact HY)
set_option maxRecDepth 20000 in
noncomputable def FR_recordStands_p28  (h : jH)  : Option Int := some 0
set_option maxRecDepth 20000 in
theorem t_FR_recordStands_p28 {T : jT} {xs : List Int} {d : Nat} {y : jV × jS} (hd : 0 ≤ d) {h : jH}   {out : Int}  (H : FR_recordStands_p28 h = some out) (HY : ykIp T h y out) : jEv xs d (45, 28, [(3, 0), (3, 0)], []) (T, h) y := by
  unfold FR_recordStands_p28 at H
  refine jEv.blk [(.iconst 0, 1, [])] (by decide +kernel) (pc' := 29) (ls' := [(3, 0), (3, 0)]) (st' := [(0, 0)]) rfl ?_
  exact jEv.retZ (show jfI 45 29 (.ireturn) 1 [] = true by decide +kernel) (by decide +kernel) (by decide) (by cases H; exact HY)
set_option maxRecDepth 20000 in
noncomputable def FR_recordStands  (h : jH) (o0 : Nat) (v1 : Int) : Option Int := (if v1 < 3 then FR_recordStands_p28 h else (if (h o0 4) < 16 then (if (h o0 5) < 1000 then some 1 else FR_recordStands_p28 h) else FR_recordStands_p28 h))
set_option maxRecDepth 20000 in
theorem t_FR_recordStands {T : jT} {xs : List Int} {h : jH}  {o0 : Nat} {v1 : Int} {out : Int} (ho0 : isX3 T o0) (H : FR_recordStands h o0 v1 = some out) : jEm xs 1 45 [(2, Int.ofNat o0), (0, v1)] (T, h) ((0, out), (T, h)) := by
  have hd : 0 ≤ 0 := Nat.le_refl _
  obtain ⟨y, ey⟩ : ∃ y : jV × jS, y = ((0, out), (T, h)) := ⟨_, rfl⟩
  rw [← ey]
  have HY : ykIp T h y out := ey
  refine jEm.ent (n := 2) (by decide +kernel) (Nat.le_of_ble_eq_true rfl) ?_
  show jEv xs 0 (45, 0, [(2, Int.ofNat o0), (0, v1)], []) (T, h) y
  unfold FR_recordStands at H
  refine jEv.blk [(.iload_n 1, 1, []), (.iconst 3, 1, [])] (by decide +kernel) (pc' := 2) (ls' := [(2, Int.ofNat o0), (0, v1)]) (st' := [(0, 3), (0, v1)]) rfl ?_
  refine jEv.ic_lt (t := 28) (show jfI 45 2 (.if_icmp .lt 26) 3 [] = true by decide +kernel) rfl H (fun c1 H => ?_) (fun c1 H => ?_)
  · exact jEv.weak (a := [(3, 0), (3, 0)]) (jles.c0 (jles.c0 jles.nl)) (t_FR_recordStands_p28 (T := T) (xs := xs) (y := y) hd H HY)
  · refine jEv.blk [(.aload_n 0, 1, [])] (by decide +kernel) (pc' := 6) (ls' := [(2, Int.ofNat o0), (0, v1)]) (st' := [(2, Int.ofNat o0)]) rfl ?_
    refine jEv.gfI (show jfI 45 6 (.getfield 83) 3 [3, 4, 0, 0, 2175] = true by decide +kernel) (isX3_L ho0) (by decide) ?_
    refine jEv.blk [(.bipush 16, 2, [])] (by decide +kernel) (pc' := 11) (ls' := [(2, Int.ofNat o0), (0, v1)]) (st' := [(0, 16), (0, (h o0 4))]) rfl ?_
    refine jEv.ic_ge (t := 28) (show jfI 45 11 (.if_icmp .ge 17) 3 [] = true by decide +kernel) rfl H (fun c2 H => ?_) (fun c2 H => ?_)
    · refine jEv.blk [(.aload_n 0, 1, [])] (by decide +kernel) (pc' := 15) (ls' := [(2, Int.ofNat o0), (0, v1)]) (st' := [(2, Int.ofNat o0)]) rfl ?_
      refine jEv.gfI (show jfI 45 15 (.getfield 86) 3 [3, 5, 0, 0, 2177] = true by decide +kernel) (isX3_L ho0) (by decide) ?_
      refine jEv.blk [(.sipush 1000, 3, [])] (by decide +kernel) (pc' := 21) (ls' := [(2, Int.ofNat o0), (0, v1)]) (st' := [(0, 1000), (0, (h o0 5))]) rfl ?_
      refine jEv.ic_ge (t := 28) (show jfI 45 21 (.if_icmp .ge 7) 3 [] = true by decide +kernel) rfl H (fun c3 H => ?_) (fun c3 H => ?_)
      · refine jEv.blk [(.iconst 1, 1, [])] (by decide +kernel) (pc' := 25) (ls' := [(2, Int.ofNat o0), (0, v1)]) (st' := [(0, 1)]) rfl ?_
        refine jEv.goto (t := 29) (show jfI 45 25 (.goto 4) 3 [] = true by decide +kernel) rfl ?_
        exact jEv.retZ (show jfI 45 29 (.ireturn) 1 [] = true by decide +kernel) (by decide +kernel) (by decide) (by cases H; exact HY)
      · exact jEv.weak (a := [(3, 0), (3, 0)]) (jles.c0 (jles.c0 jles.nl)) (t_FR_recordStands_p28 (T := T) (xs := xs) (y := y) hd H HY)
    · exact jEv.weak (a := [(3, 0), (3, 0)]) (jles.c0 (jles.c0 jles.nl)) (t_FR_recordStands_p28 (T := T) (xs := xs) (y := y) hd H HY)
def yk_FR_advance_L108 (T : jT) (xs : List Int) (d : Nat) (y : jV × jS)  (o0 : Nat) (o1 : Nat) (v2 : Int) : ((Int × jH) ⊕ (Int × jH)) → Prop
  | .inl (v3, h) => jEv xs d (41, 108, [(2, Int.ofNat o0), (2, Int.ofNat o1), (0, v2), (0, v3)], []) (T, h) y
  | .inr o => ykI T y o
set_option maxRecDepth 20000 in
noncomputable def FR_advance_p197  (h : jH) (o0 : Nat) (os0 : Nat) (vs1 : Int) : Option (Int × jH) := (if vs1 = 0 ∨ vs1 = 1 then some (1, (jup (jup (jup h os0 9 vs1) o0 0 ((jup h os0 9 vs1) o0 3)) o0 3 (wr (((jup (jup h os0 9 vs1) o0 0 ((jup h os0 9 vs1) o0 3)) o0 3) + (wr (4 + ((jup (jup h os0 9 vs1) o0 0 ((jup h os0 9 vs1) o0 3)) o0 2))))))) else none)
set_option maxRecDepth 20000 in
theorem t_FR_advance_p197 {T : jT} {xs : List Int} {d : Nat} {y : jV × jS} (hd : 2 ≤ d) {h : jH}  {o0 : Nat} {os0 : Nat} {vs1 : Int} {out : (Int × jH)} (ho0 : isX3 T o0) (hos0 : isX3 T os0) (H : FR_advance_p197 h o0 os0 vs1 = some out) (HY : ykI T y out) : jEv xs d (41, 197, [(2, Int.ofNat o0), (3, 0), (3, 0), (3, 0)], [(0, vs1), (2, Int.ofNat os0)]) (T, h) y := by
  unfold FR_advance_p197 at H
  refine jchk H (fun c20 H => ?_)
  refine jEv.pfZ (show jfI 41 197 (.putfield 27) 3 [3, 9, 0, 1, 2181] = true by decide +kernel) (isX3_L hos0) (by decide) c20 ?_
  refine jEv.blk [(.aload_n 0, 1, []), (.aload_n 0, 1, [])] (by decide +kernel) (pc' := 202) (ls' := [(2, Int.ofNat o0), (3, 0), (3, 0), (3, 0)]) (st' := [(2, Int.ofNat o0), (2, Int.ofNat o0)]) rfl ?_
  refine jEv.gfI (show jfI 41 202 (.getfield 24) 3 [3, 3, 0, 0, 2172] = true by decide +kernel) (isX3_L ho0) (by decide) ?_
  refine jEv.pfI (show jfI 41 205 (.putfield 66) 3 [3, 0, 0, 0, 2166] = true by decide +kernel) (isX3_L ho0) (by decide) ?_
  refine jEv.blk [(.aload_n 0, 1, []), (.dup, 1, [])] (by decide +kernel) (pc' := 210) (ls' := [(2, Int.ofNat o0), (3, 0), (3, 0), (3, 0)]) (st' := [(2, Int.ofNat o0), (2, Int.ofNat o0)]) rfl ?_
  refine jEv.gfI (show jfI 41 210 (.getfield 24) 3 [3, 3, 0, 0, 2172] = true by decide +kernel) (isX3_L ho0) (by decide) ?_
  refine jEv.blk [(.iconst 4, 1, []), (.aload_n 0, 1, [])] (by decide +kernel) (pc' := 215) (ls' := [(2, Int.ofNat o0), (3, 0), (3, 0), (3, 0)]) (st' := [(2, Int.ofNat o0), (0, 4), (0, ((jup (jup h os0 9 vs1) o0 0 ((jup h os0 9 vs1) o0 3)) o0 3)), (2, Int.ofNat o0)]) rfl ?_
  refine jEv.gfI (show jfI 41 215 (.getfield 52) 3 [3, 2, 0, 0, 2170] = true by decide +kernel) (isX3_L ho0) (by decide) ?_
  refine jEv.blk [(.iadd, 1, []), (.iadd, 1, [])] (by decide +kernel) (pc' := 220) (ls' := [(2, Int.ofNat o0), (3, 0), (3, 0), (3, 0)]) (st' := [(0, (wr (((jup (jup h os0 9 vs1) o0 0 ((jup h os0 9 vs1) o0 3)) o0 3) + (wr (4 + ((jup (jup h os0 9 vs1) o0 0 ((jup h os0 9 vs1) o0 3)) o0 2)))))), (2, Int.ofNat o0)]) rfl ?_
  refine jEv.pfI (show jfI 41 220 (.putfield 24) 3 [3, 3, 0, 0, 2172] = true by decide +kernel) (isX3_L ho0) (by decide) ?_
  refine jEv.blk [(.iconst 1, 1, [])] (by decide +kernel) (pc' := 224) (ls' := [(2, Int.ofNat o0), (3, 0), (3, 0), (3, 0)]) (st' := [(0, 1)]) rfl ?_
  exact jEv.retZ (show jfI 41 224 (.ireturn) 1 [] = true by decide +kernel) (by decide +kernel) (by decide) (by cases H; exact HY)
set_option maxRecDepth 20000 in
noncomputable def FR_advance_p174  (h : jH) (o0 : Nat) (v2 : Int) : Option (Int × jH) := Option.bind (FR_isLast (jup h o0 8 (wr (v2 + (h o0 2)))) o0) (fun b18 => (if b18 = 0 then FR_advance_p197 (jup h o0 8 (wr (v2 + (h o0 2)))) o0 o0 1 else FR_advance_p197 (jup h o0 8 (wr (v2 + (h o0 2)))) o0 o0 0))
set_option maxRecDepth 20000 in
theorem t_FR_advance_p174 {T : jT} {xs : List Int} {d : Nat} {y : jV × jS} (hd : 2 ≤ d) {h : jH}  {o0 : Nat} {v2 : Int} {out : (Int × jH)} (ho0 : isX3 T o0) (H : FR_advance_p174 h o0 v2 = some out) (HY : ykI T y out) : jEv xs d (41, 174, [(2, Int.ofNat o0), (3, 0), (0, v2), (3, 0)], []) (T, h) y := by
  unfold FR_advance_p174 at H
  refine jEv.blk [(.aload_n 0, 1, []), (.iload_n 2, 1, []), (.aload_n 0, 1, [])] (by decide +kernel) (pc' := 177) (ls' := [(2, Int.ofNat o0), (3, 0), (0, v2), (3, 0)]) (st' := [(2, Int.ofNat o0), (0, v2), (2, Int.ofNat o0)]) rfl ?_
  refine jEv.gfI (show jfI 41 177 (.getfield 52) 3 [3, 2, 0, 0, 2170] = true by decide +kernel) (isX3_L ho0) (by decide) ?_
  refine jEv.blk [(.iadd, 1, [])] (by decide +kernel) (pc' := 181) (ls' := [(2, Int.ofNat o0), (3, 0), (0, v2), (3, 0)]) (st' := [(0, (wr (v2 + (h o0 2)))), (2, Int.ofNat o0)]) rfl ?_
  refine jEv.pfI (show jfI 41 181 (.putfield 46) 3 [3, 8, 0, 0, 2180] = true by decide +kernel) (isX3_L ho0) (by decide) ?_
  refine jEv.blk [(.aload_n 0, 1, []), (.aload_n 0, 1, [])] (by decide +kernel) (pc' := 186) (ls' := [(2, Int.ofNat o0), (3, 0), (0, v2), (3, 0)]) (st' := [(2, Int.ofNat o0), (2, Int.ofNat o0)]) rfl ?_
  refine jbind H (fun b18 Hb18 H => ?_)
  refine jEv.calV (st' := [(0, b18), (2, Int.ofNat o0)]) (show jfI 41 186 (.invokevirtual 59) 3 [1, 44, 0, 4215] = true by decide +kernel) rfl (Or.inl rfl) rfl (Nat.le_of_ble_eq_true rfl) (by decide +kernel) (by decide) (isX3_L ho0) ((t_FR_isLast (T := T) (xs := xs) ho0 Hb18).mono (jKle 1 hd)) rfl ?_
  refine jEv.if_ne (t := 196) (show jfI 41 189 (.ifCond .ne 7) 3 [] = true by decide +kernel) rfl H (fun c19 H => ?_) (fun c19 H => ?_)
  · refine jEv.blk [(.iconst 1, 1, [])] (by decide +kernel) (pc' := 193) (ls' := [(2, Int.ofNat o0), (3, 0), (0, v2), (3, 0)]) (st' := [(0, 1), (2, Int.ofNat o0)]) rfl ?_
    refine jEv.goto (t := 197) (show jfI 41 193 (.goto 4) 3 [] = true by decide +kernel) rfl ?_
    exact jEv.weak (a := [(2, Int.ofNat o0), (3, 0), (3, 0), (3, 0)]) (jles.c1 (jles.c0 (jles.c0 (jles.c0 jles.nl)))) (t_FR_advance_p197 (T := T) (xs := xs) (y := y) hd ho0 ho0 H HY)
  · refine jEv.blk [(.iconst 0, 1, [])] (by decide +kernel) (pc' := 197) (ls' := [(2, Int.ofNat o0), (3, 0), (0, v2), (3, 0)]) (st' := [(0, 0), (2, Int.ofNat o0)]) rfl ?_
    exact jEv.weak (a := [(2, Int.ofNat o0), (3, 0), (3, 0), (3, 0)]) (jles.c1 (jles.c0 (jles.c0 (jles.c0 jles.nl)))) (t_FR_advance_p197 (T := T) (xs := xs) (y := y) hd ho0 ho0 H HY)
set_option maxRecDepth 20000 in
noncomputable def FR_advance_p152  (h : jH) (o0 : Nat) (v2 : Int) : Option (Int × jH) := Option.bind (FR_isLast h o0) (fun b14 => (if b14 = 0 then FR_advance_p174 h o0 v2 else Option.bind (FR_recordStands h o0 (wr (v2 + (h o0 2)))) (fun b16 => (if b16 = 0 then some (0, h) else FR_advance_p174 h o0 v2))))
set_option maxRecDepth 20000 in
theorem t_FR_advance_p152 {T : jT} {xs : List Int} {d : Nat} {y : jV × jS} (hd : 2 ≤ d) {h : jH}  {o0 : Nat} {v2 : Int} {out : (Int × jH)} (ho0 : isX3 T o0) (H : FR_advance_p152 h o0 v2 = some out) (HY : ykI T y out) : jEv xs d (41, 152, [(2, Int.ofNat o0), (3, 0), (0, v2), (3, 0)], []) (T, h) y := by
  unfold FR_advance_p152 at H
  refine jEv.blk [(.aload_n 0, 1, [])] (by decide +kernel) (pc' := 153) (ls' := [(2, Int.ofNat o0), (3, 0), (0, v2), (3, 0)]) (st' := [(2, Int.ofNat o0)]) rfl ?_
  refine jbind H (fun b14 Hb14 H => ?_)
  refine jEv.calV (st' := [(0, b14)]) (show jfI 41 153 (.invokevirtual 59) 3 [1, 44, 0, 4215] = true by decide +kernel) rfl (Or.inl rfl) rfl (Nat.le_of_ble_eq_true rfl) (by decide +kernel) (by decide) (isX3_L ho0) ((t_FR_isLast (T := T) (xs := xs) ho0 Hb14).mono (jKle 1 hd)) rfl ?_
  refine jEv.if_eq (t := 174) (show jfI 41 156 (.ifCond .eq 18) 3 [] = true by decide +kernel) rfl H (fun c15 H => ?_) (fun c15 H => ?_)
  · exact t_FR_advance_p174 (T := T) (xs := xs) (y := y) hd ho0 H HY
  · refine jEv.blk [(.aload_n 0, 1, []), (.iload_n 2, 1, []), (.aload_n 0, 1, [])] (by decide +kernel) (pc' := 162) (ls' := [(2, Int.ofNat o0), (3, 0), (0, v2), (3, 0)]) (st' := [(2, Int.ofNat o0), (0, v2), (2, Int.ofNat o0)]) rfl ?_
    refine jEv.gfI (show jfI 41 162 (.getfield 52) 3 [3, 2, 0, 0, 2170] = true by decide +kernel) (isX3_L ho0) (by decide) ?_
    refine jEv.blk [(.iadd, 1, [])] (by decide +kernel) (pc' := 166) (ls' := [(2, Int.ofNat o0), (3, 0), (0, v2), (3, 0)]) (st' := [(0, (wr (v2 + (h o0 2)))), (2, Int.ofNat o0)]) rfl ?_
    refine jbind H (fun b16 Hb16 H => ?_)
    refine jEv.calV (st' := [(0, b16)]) (show jfI 41 166 (.invokevirtual 63) 3 [1, 45, 1, 4219] = true by decide +kernel) rfl (Or.inl rfl) rfl (Nat.le_of_ble_eq_true rfl) (by decide +kernel) (by decide) (isX3_L ho0) ((t_FR_recordStands (T := T) (xs := xs) ho0 Hb16).mono (jKle 1 hd)) rfl ?_
    refine jEv.if_ne (t := 174) (show jfI 41 169 (.ifCond .ne 5) 3 [] = true by decide +kernel) rfl H (fun c17 H => ?_) (fun c17 H => ?_)
    · refine jEv.blk [(.iconst 0, 1, [])] (by decide +kernel) (pc' := 173) (ls' := [(2, Int.ofNat o0), (3, 0), (0, v2), (3, 0)]) (st' := [(0, 0)]) rfl ?_
      exact jEv.retZ (show jfI 41 173 (.ireturn) 1 [] = true by decide +kernel) (by decide +kernel) (by decide) (by cases H; exact HY)
    · exact t_FR_advance_p174 (T := T) (xs := xs) (y := y) hd ho0 H HY
set_option maxRecDepth 20000 in
noncomputable def FR_advance_B108  (h : jH) (o0 : Nat) (o1 : Nat) (v2 : Int) (v3 : Int) : Option ((Int × jH) ⊕ (Int × jH)) := (if v3 < (h o0 2) then (if (wr (v2 + v3)) < 3 then Option.bind (Di_octetAt h o1 (h o0 6) (wr ((wr ((h o0 3) + 4)) + v3))) (fun b12 => Option.bind (FR_takeOctet h o0 (wr (v2 + v3)) b12) (fun b13 => some (.inl ((wr (v3 + 1)), b13)))) else Option.map Sum.inr (FR_advance_p152 h o0 v2)) else Option.map Sum.inr (FR_advance_p152 h o0 v2))
noncomputable def FR_advance_L108  (h : jH) (o0 : Nat) (o1 : Nat) (v2 : Int) (v3 : Int) : Option (Int × jH) := jloop (fun s : (Int × jH) => FR_advance_B108 s.2 o0 o1 v2 s.1) (v3, h)
set_option maxRecDepth 20000 in
theorem t_FR_advance_B108 {T : jT} {xs : List Int} {d : Nat} {y : jV × jS} (hd : 2 ≤ d) {h : jH}  {o0 : Nat} {o1 : Nat} {v2 : Int} {v3 : Int} {out : ((Int × jH) ⊕ (Int × jH))} (ho0 : isX3 T o0) (ho1 : isX0 T o1) (H : FR_advance_B108 h o0 o1 v2 v3 = some out) (HY : yk_FR_advance_L108 T xs d y o0 o1 v2 out) : jEv xs d (41, 108, [(2, Int.ofNat o0), (2, Int.ofNat o1), (0, v2), (0, v3)], []) (T, h) y := by
  unfold FR_advance_B108 at H
  refine jEv.blk [(.iload_n 3, 1, []), (.aload_n 0, 1, [])] (by decide +kernel) (pc' := 110) (ls' := [(2, Int.ofNat o0), (2, Int.ofNat o1), (0, v2), (0, v3)]) (st' := [(2, Int.ofNat o0), (0, v3)]) rfl ?_
  refine jEv.gfI (show jfI 41 110 (.getfield 52) 3 [3, 2, 0, 0, 2170] = true by decide +kernel) (isX3_L ho0) (by decide) ?_
  refine jEv.ic_ge (t := 152) (show jfI 41 113 (.if_icmp .ge 39) 3 [] = true by decide +kernel) rfl H (fun c10 H => ?_) (fun c10 H => ?_)
  · refine jEv.blk [(.iload_n 2, 1, []), (.iload_n 3, 1, []), (.iadd, 1, []), (.iconst 3, 1, [])] (by decide +kernel) (pc' := 120) (ls' := [(2, Int.ofNat o0), (2, Int.ofNat o1), (0, v2), (0, v3)]) (st' := [(0, 3), (0, (wr (v2 + v3)))]) rfl ?_
    refine jEv.ic_ge (t := 152) (show jfI 41 120 (.if_icmp .ge 32) 3 [] = true by decide +kernel) rfl H (fun c11 H => ?_) (fun c11 H => ?_)
    · refine jEv.blk [(.aload_n 0, 1, []), (.iload_n 2, 1, []), (.iload_n 3, 1, []), (.iadd, 1, []), (.aload_n 1, 1, []), (.aload_n 0, 1, [])] (by decide +kernel) (pc' := 129) (ls' := [(2, Int.ofNat o0), (2, Int.ofNat o1), (0, v2), (0, v3)]) (st' := [(2, Int.ofNat o0), (2, Int.ofNat o1), (0, (wr (v2 + v3))), (2, Int.ofNat o0)]) rfl ?_
      refine jEv.gfI (show jfI 41 129 (.getfield 9) 3 [3, 6, 0, 0, 2178] = true by decide +kernel) (isX3_L ho0) (by decide) ?_
      refine jEv.blk [(.aload_n 0, 1, [])] (by decide +kernel) (pc' := 133) (ls' := [(2, Int.ofNat o0), (2, Int.ofNat o1), (0, v2), (0, v3)]) (st' := [(2, Int.ofNat o0), (0, (h o0 6)), (2, Int.ofNat o1), (0, (wr (v2 + v3))), (2, Int.ofNat o0)]) rfl ?_
      refine jEv.gfI (show jfI 41 133 (.getfield 24) 3 [3, 3, 0, 0, 2172] = true by decide +kernel) (isX3_L ho0) (by decide) ?_
      refine jEv.blk [(.iconst 4, 1, []), (.iadd, 1, []), (.iload_n 3, 1, []), (.iadd, 1, [])] (by decide +kernel) (pc' := 140) (ls' := [(2, Int.ofNat o0), (2, Int.ofNat o1), (0, v2), (0, v3)]) (st' := [(0, (wr ((wr ((h o0 3) + 4)) + v3))), (0, (h o0 6)), (2, Int.ofNat o1), (0, (wr (v2 + v3))), (2, Int.ofNat o0)]) rfl ?_
      refine jbind H (fun b12 Hb12 H => ?_)
      refine jEv.calV (st' := [(0, b12), (0, (wr (v2 + v3))), (2, Int.ofNat o0)]) (show jfI 41 140 (.invokevirtual 38) 3 [1, 11, 2, 4205] = true by decide +kernel) rfl (Or.inl rfl) rfl (Nat.le_of_ble_eq_true rfl) (by decide +kernel) (by decide) (isX0_L ho1) ((t_Di_octetAt (T := T) (xs := xs) ho1 Hb12).mono (jKle 1 hd)) rfl ?_
      refine jbind H (fun b13 Hb13 H => ?_)
      refine jEv.calV (st' := []) (show jfI 41 143 (.invokevirtual 55) 3 [1, 43, 2, 4210] = true by decide +kernel) rfl (Or.inl rfl) rfl (Nat.le_of_ble_eq_true rfl) (by decide +kernel) (by decide) (isX3_L ho0) ((t_FR_takeOctet (T := T) (xs := xs) ho0 Hb13).mono (jKle 1 hd)) rfl ?_
      refine jEv.blk [(.iinc 3 1, 3, [])] (by decide +kernel) (pc' := 149) (ls' := [(2, Int.ofNat o0), (2, Int.ofNat o1), (0, v2), (0, (wr (v3 + 1)))]) (st' := []) rfl ?_
      refine jEv.goto (t := 108) (show jfI 41 149 (.goto (-41)) 3 [] = true by decide +kernel) rfl ?_
      exact (by cases H; exact HY)
    · refine jmapr H HY (fun out H (HY : ykI T y out) => ?_)
      exact jEv.weak (a := [(2, Int.ofNat o0), (3, 0), (0, v2), (3, 0)]) (jles.c1 (jles.c0 (jles.c1 (jles.c0 jles.nl)))) (t_FR_advance_p152 (T := T) (xs := xs) (y := y) hd ho0 H HY)
  · refine jmapr H HY (fun out H (HY : ykI T y out) => ?_)
    exact jEv.weak (a := [(2, Int.ofNat o0), (3, 0), (0, v2), (3, 0)]) (jles.c1 (jles.c0 (jles.c1 (jles.c0 jles.nl)))) (t_FR_advance_p152 (T := T) (xs := xs) (y := y) hd ho0 H HY)
theorem t_FR_advance_L108 {T : jT} {xs : List Int} {d : Nat} {y : jV × jS} (hd : 2 ≤ d) {h : jH}  {o0 : Nat} {o1 : Nat} {v2 : Int} {v3 : Int} {out : (Int × jH)} (ho0 : isX3 T o0) (ho1 : isX0 T o1) (H : FR_advance_L108 h o0 o1 v2 v3 = some out) (HY : ykI T y out) : jEv xs d (41, 108, [(2, Int.ofNat o0), (2, Int.ofNat o1), (0, v2), (0, v3)], []) (T, h) y :=
  jloop_sound (G := fun s : (Int × jH) => jEv xs d (41, 108, [(2, Int.ofNat o0), (2, Int.ofNat o1), (0, v2), (0, s.1)], []) (T, s.2) y) (K := yk_FR_advance_L108 T xs d y o0 o1 v2) (fun s out H HY => t_FR_advance_B108 hd ho0 ho1 H HY) (fun s' hg => hg) (s := (v3, h)) H HY
set_option maxRecDepth 20000 in
noncomputable def FR_advance_p69  (h : jH) (o0 : Nat) (o1 : Nat) (vs0 : Int) : Option (Int × jH) := Option.bind (Di_octetAt h o1 (h o0 6) (wr ((h o0 3) + 1))) (fun b8 => Option.bind (Di_octetAt (jup h o0 1 b8) o1 ((jup h o0 1 b8) o0 6) (wr (((jup h o0 1 b8) o0 3) + 2))) (fun b9 => FR_advance_L108 (jup (jup h o0 1 b8) o0 2 b9) o0 o1 vs0 0))
set_option maxRecDepth 20000 in
theorem t_FR_advance_p69 {T : jT} {xs : List Int} {d : Nat} {y : jV × jS} (hd : 2 ≤ d) {h : jH}  {o0 : Nat} {o1 : Nat} {vs0 : Int} {out : (Int × jH)} (ho0 : isX3 T o0) (ho1 : isX0 T o1) (H : FR_advance_p69 h o0 o1 vs0 = some out) (HY : ykI T y out) : jEv xs d (41, 69, [(2, Int.ofNat o0), (2, Int.ofNat o1), (3, 0), (3, 0)], [(0, vs0)]) (T, h) y := by
  unfold FR_advance_p69 at H
  refine jEv.blk [(.istore_n 2, 1, []), (.aload_n 0, 1, []), (.aload_n 1, 1, []), (.aload_n 0, 1, [])] (by decide +kernel) (pc' := 73) (ls' := [(2, Int.ofNat o0), (2, Int.ofNat o1), (0, vs0), (3, 0)]) (st' := [(2, Int.ofNat o0), (2, Int.ofNat o1), (2, Int.ofNat o0)]) rfl ?_
  refine jEv.gfI (show jfI 41 73 (.getfield 9) 3 [3, 6, 0, 0, 2178] = true by decide +kernel) (isX3_L ho0) (by decide) ?_
  refine jEv.blk [(.aload_n 0, 1, [])] (by decide +kernel) (pc' := 77) (ls' := [(2, Int.ofNat o0), (2, Int.ofNat o1), (0, vs0), (3, 0)]) (st' := [(2, Int.ofNat o0), (0, (h o0 6)), (2, Int.ofNat o1), (2, Int.ofNat o0)]) rfl ?_
  refine jEv.gfI (show jfI 41 77 (.getfield 24) 3 [3, 3, 0, 0, 2172] = true by decide +kernel) (isX3_L ho0) (by decide) ?_
  refine jEv.blk [(.iconst 1, 1, []), (.iadd, 1, [])] (by decide +kernel) (pc' := 82) (ls' := [(2, Int.ofNat o0), (2, Int.ofNat o1), (0, vs0), (3, 0)]) (st' := [(0, (wr ((h o0 3) + 1))), (0, (h o0 6)), (2, Int.ofNat o1), (2, Int.ofNat o0)]) rfl ?_
  refine jbind H (fun b8 Hb8 H => ?_)
  refine jEv.calV (st' := [(0, b8), (2, Int.ofNat o0)]) (show jfI 41 82 (.invokevirtual 38) 3 [1, 11, 2, 4205] = true by decide +kernel) rfl (Or.inl rfl) rfl (Nat.le_of_ble_eq_true rfl) (by decide +kernel) (by decide) (isX0_L ho1) ((t_Di_octetAt (T := T) (xs := xs) ho1 Hb8).mono (jKle 1 hd)) rfl ?_
  refine jEv.pfI (show jfI 41 85 (.putfield 49) 3 [3, 1, 0, 0, 2168] = true by decide +kernel) (isX3_L ho0) (by decide) ?_
  refine jEv.blk [(.aload_n 0, 1, []), (.aload_n 1, 1, []), (.aload_n 0, 1, [])] (by decide +kernel) (pc' := 91) (ls' := [(2, Int.ofNat o0), (2, Int.ofNat o1), (0, vs0), (3, 0)]) (st' := [(2, Int.ofNat o0), (2, Int.ofNat o1), (2, Int.ofNat o0)]) rfl ?_
  refine jEv.gfI (show jfI 41 91 (.getfield 9) 3 [3, 6, 0, 0, 2178] = true by decide +kernel) (isX3_L ho0) (by decide) ?_
  refine jEv.blk [(.aload_n 0, 1, [])] (by decide +kernel) (pc' := 95) (ls' := [(2, Int.ofNat o0), (2, Int.ofNat o1), (0, vs0), (3, 0)]) (st' := [(2, Int.ofNat o0), (0, ((jup h o0 1 b8) o0 6)), (2, Int.ofNat o1), (2, Int.ofNat o0)]) rfl ?_
  refine jEv.gfI (show jfI 41 95 (.getfield 24) 3 [3, 3, 0, 0, 2172] = true by decide +kernel) (isX3_L ho0) (by decide) ?_
  refine jEv.blk [(.iconst 2, 1, []), (.iadd, 1, [])] (by decide +kernel) (pc' := 100) (ls' := [(2, Int.ofNat o0), (2, Int.ofNat o1), (0, vs0), (3, 0)]) (st' := [(0, (wr (((jup h o0 1 b8) o0 3) + 2))), (0, ((jup h o0 1 b8) o0 6)), (2, Int.ofNat o1), (2, Int.ofNat o0)]) rfl ?_
  refine jbind H (fun b9 Hb9 H => ?_)
  refine jEv.calV (st' := [(0, b9), (2, Int.ofNat o0)]) (show jfI 41 100 (.invokevirtual 38) 3 [1, 11, 2, 4205] = true by decide +kernel) rfl (Or.inl rfl) rfl (Nat.le_of_ble_eq_true rfl) (by decide +kernel) (by decide) (isX0_L ho1) ((t_Di_octetAt (T := T) (xs := xs) ho1 Hb9).mono (jKle 1 hd)) rfl ?_
  refine jEv.pfI (show jfI 41 103 (.putfield 52) 3 [3, 2, 0, 0, 2170] = true by decide +kernel) (isX3_L ho0) (by decide) ?_
  refine jEv.blk [(.iconst 0, 1, []), (.istore_n 3, 1, [])] (by decide +kernel) (pc' := 108) (ls' := [(2, Int.ofNat o0), (2, Int.ofNat o1), (0, vs0), (0, 0)]) (st' := []) rfl ?_
  exact t_FR_advance_L108 (T := T) (xs := xs) (y := y) hd ho0 ho1 H HY
set_option maxRecDepth 20000 in
noncomputable def FR_advance  (h : jH) (o0 : Nat) (o1 : Nat) : Option (Int × jH) := Option.bind (Di_frameStart h o1 (h o0 3)) (fun b1 => Option.bind (Di_frameStands (jup h o0 3 b1) o1 ((jup h o0 3 b1) o0 6) ((jup h o0 3 b1) o0 3) ((jup h o0 3 b1) o0 7)) (fun b2 => (if b2 = 0 then some (0, (jup h o0 3 b1)) else Option.bind (Di_octetAt (jup h o0 3 b1) o1 ((jup h o0 3 b1) o0 6) (wr (((jup h o0 3 b1) o0 3) + 1))) (fun b4 => Option.bind (FR_canBe (jup h o0 3 b1) o0 b4) (fun b5 => (if b5 = 0 then some (0, (jup h o0 3 b1)) else (if ((jup h o0 3 b1) o0 9) = 0 then FR_advance_p69 (jup h o0 3 b1) o0 o1 0 else FR_advance_p69 (jup h o0 3 b1) o0 o1 ((jup h o0 3 b1) o0 8))))))))
set_option maxRecDepth 20000 in
theorem t_FR_advance {T : jT} {xs : List Int} {h : jH}  {o0 : Nat} {o1 : Nat} {out : (Int × jH)} (ho0 : isX3 T o0) (ho1 : isX0 T o1) (H : FR_advance h o0 o1 = some out) : jEm xs 3 41 [(2, Int.ofNat o0), (2, Int.ofNat o1)] (T, h) ((0, out.1), (T, out.2)) := by
  have hd : 2 ≤ 2 := Nat.le_refl _
  obtain ⟨y, ey⟩ : ∃ y : jV × jS, y = ((0, out.1), (T, out.2)) := ⟨_, rfl⟩
  rw [← ey]
  have HY : ykI T y out := ey
  refine jEm.ent (n := 4) (by decide +kernel) (Nat.le_of_ble_eq_true rfl) ?_
  show jEv xs 2 (41, 0, [(2, Int.ofNat o0), (2, Int.ofNat o1), (3, 0), (3, 0)], []) (T, h) y
  unfold FR_advance at H
  refine jEv.blk [(.aload_n 0, 1, []), (.aload_n 1, 1, []), (.aload_n 0, 1, [])] (by decide +kernel) (pc' := 3) (ls' := [(2, Int.ofNat o0), (2, Int.ofNat o1), (3, 0), (3, 0)]) (st' := [(2, Int.ofNat o0), (2, Int.ofNat o1), (2, Int.ofNat o0)]) rfl ?_
  refine jEv.gfI (show jfI 41 3 (.getfield 24) 3 [3, 3, 0, 0, 2172] = true by decide +kernel) (isX3_L ho0) (by decide) ?_
  refine jbind H (fun b1 Hb1 H => ?_)
  refine jEv.calV (st' := [(0, b1), (2, Int.ofNat o0)]) (show jfI 41 6 (.invokevirtual 31) 3 [1, 12, 1, 4197] = true by decide +kernel) rfl (Or.inl rfl) rfl (Nat.le_of_ble_eq_true rfl) (by decide +kernel) (by decide) (isX0_L ho1) ((t_Di_frameStart (T := T) (xs := xs) ho1 Hb1).mono (jKle 2 hd)) rfl ?_
  refine jEv.pfI (show jfI 41 9 (.putfield 24) 3 [3, 3, 0, 0, 2172] = true by decide +kernel) (isX3_L ho0) (by decide) ?_
  refine jEv.blk [(.aload_n 1, 1, []), (.aload_n 0, 1, [])] (by decide +kernel) (pc' := 14) (ls' := [(2, Int.ofNat o0), (2, Int.ofNat o1), (3, 0), (3, 0)]) (st' := [(2, Int.ofNat o0), (2, Int.ofNat o1)]) rfl ?_
  refine jEv.gfI (show jfI 41 14 (.getfield 9) 3 [3, 6, 0, 0, 2178] = true by decide +kernel) (isX3_L ho0) (by decide) ?_
  refine jEv.blk [(.aload_n 0, 1, [])] (by decide +kernel) (pc' := 18) (ls' := [(2, Int.ofNat o0), (2, Int.ofNat o1), (3, 0), (3, 0)]) (st' := [(2, Int.ofNat o0), (0, ((jup h o0 3 b1) o0 6)), (2, Int.ofNat o1)]) rfl ?_
  refine jEv.gfI (show jfI 41 18 (.getfield 24) 3 [3, 3, 0, 0, 2172] = true by decide +kernel) (isX3_L ho0) (by decide) ?_
  refine jEv.blk [(.aload_n 0, 1, [])] (by decide +kernel) (pc' := 22) (ls' := [(2, Int.ofNat o0), (2, Int.ofNat o1), (3, 0), (3, 0)]) (st' := [(2, Int.ofNat o0), (0, ((jup h o0 3 b1) o0 3)), (0, ((jup h o0 3 b1) o0 6)), (2, Int.ofNat o1)]) rfl ?_
  refine jEv.gfI (show jfI 41 22 (.getfield 21) 3 [3, 7, 0, 0, 2179] = true by decide +kernel) (isX3_L ho0) (by decide) ?_
  refine jbind H (fun b2 Hb2 H => ?_)
  refine jEv.calV (st' := [(0, b2)]) (show jfI 41 25 (.invokevirtual 34) 3 [1, 13, 3, 4201] = true by decide +kernel) rfl (Or.inl rfl) rfl (Nat.le_of_ble_eq_true rfl) (by decide +kernel) (by decide) (isX0_L ho1) ((t_Di_frameStands (T := T) (xs := xs) ho1 Hb2).mono (jKle 2 hd)) rfl ?_
  refine jEv.if_eq (t := 52) (show jfI 41 28 (.ifCond .eq 24) 3 [] = true by decide +kernel) rfl H (fun c3 H => ?_) (fun c3 H => ?_)
  · refine jEv.blk [(.iconst 0, 1, [])] (by decide +kernel) (pc' := 53) (ls' := [(2, Int.ofNat o0), (2, Int.ofNat o1), (3, 0), (3, 0)]) (st' := [(0, 0)]) rfl ?_
    exact jEv.retZ (show jfI 41 53 (.ireturn) 1 [] = true by decide +kernel) (by decide +kernel) (by decide) (by cases H; exact HY)
  · refine jEv.blk [(.aload_n 0, 1, []), (.aload_n 1, 1, []), (.aload_n 0, 1, [])] (by decide +kernel) (pc' := 34) (ls' := [(2, Int.ofNat o0), (2, Int.ofNat o1), (3, 0), (3, 0)]) (st' := [(2, Int.ofNat o0), (2, Int.ofNat o1), (2, Int.ofNat o0)]) rfl ?_
    refine jEv.gfI (show jfI 41 34 (.getfield 9) 3 [3, 6, 0, 0, 2178] = true by decide +kernel) (isX3_L ho0) (by decide) ?_
    refine jEv.blk [(.aload_n 0, 1, [])] (by decide +kernel) (pc' := 38) (ls' := [(2, Int.ofNat o0), (2, Int.ofNat o1), (3, 0), (3, 0)]) (st' := [(2, Int.ofNat o0), (0, ((jup h o0 3 b1) o0 6)), (2, Int.ofNat o1), (2, Int.ofNat o0)]) rfl ?_
    refine jEv.gfI (show jfI 41 38 (.getfield 24) 3 [3, 3, 0, 0, 2172] = true by decide +kernel) (isX3_L ho0) (by decide) ?_
    refine jEv.blk [(.iconst 1, 1, []), (.iadd, 1, [])] (by decide +kernel) (pc' := 43) (ls' := [(2, Int.ofNat o0), (2, Int.ofNat o1), (3, 0), (3, 0)]) (st' := [(0, (wr (((jup h o0 3 b1) o0 3) + 1))), (0, ((jup h o0 3 b1) o0 6)), (2, Int.ofNat o1), (2, Int.ofNat o0)]) rfl ?_
    refine jbind H (fun b4 Hb4 H => ?_)
    refine jEv.calV (st' := [(0, b4), (2, Int.ofNat o0)]) (show jfI 41 43 (.invokevirtual 38) 3 [1, 11, 2, 4205] = true by decide +kernel) rfl (Or.inl rfl) rfl (Nat.le_of_ble_eq_true rfl) (by decide +kernel) (by decide) (isX0_L ho1) ((t_Di_octetAt (T := T) (xs := xs) ho1 Hb4).mono (jKle 1 hd)) rfl ?_
    refine jbind H (fun b5 Hb5 H => ?_)
    refine jEv.calV (st' := [(0, b5)]) (show jfI 41 46 (.invokevirtual 42) 3 [1, 42, 1, 4206] = true by decide +kernel) rfl (Or.inl rfl) rfl (Nat.le_of_ble_eq_true rfl) (by decide +kernel) (by decide) (isX3_L ho0) ((t_FR_canBe (T := T) (xs := xs) ho0 Hb5).mono (jKle 1 hd)) rfl ?_
    refine jEv.if_ne (t := 54) (show jfI 41 49 (.ifCond .ne 5) 3 [] = true by decide +kernel) rfl H (fun c6 H => ?_) (fun c6 H => ?_)
    · refine jEv.blk [(.iconst 0, 1, [])] (by decide +kernel) (pc' := 53) (ls' := [(2, Int.ofNat o0), (2, Int.ofNat o1), (3, 0), (3, 0)]) (st' := [(0, 0)]) rfl ?_
      exact jEv.retZ (show jfI 41 53 (.ireturn) 1 [] = true by decide +kernel) (by decide +kernel) (by decide) (by cases H; exact HY)
    · refine jEv.blk [(.aload_n 0, 1, [])] (by decide +kernel) (pc' := 55) (ls' := [(2, Int.ofNat o0), (2, Int.ofNat o1), (3, 0), (3, 0)]) (st' := [(2, Int.ofNat o0)]) rfl ?_
      refine jEv.gfI (show jfI 41 55 (.getfield 27) 3 [3, 9, 0, 1, 2181] = true by decide +kernel) (isX3_L ho0) (by decide) ?_
      refine jEv.if_eq (t := 68) (show jfI 41 58 (.ifCond .eq 10) 3 [] = true by decide +kernel) rfl H (fun c7 H => ?_) (fun c7 H => ?_)
      · refine jEv.blk [(.iconst 0, 1, [])] (by decide +kernel) (pc' := 69) (ls' := [(2, Int.ofNat o0), (2, Int.ofNat o1), (3, 0), (3, 0)]) (st' := [(0, 0)]) rfl ?_
        exact t_FR_advance_p69 (T := T) (xs := xs) (y := y) hd ho0 ho1 H HY
      · refine jEv.blk [(.aload_n 0, 1, [])] (by decide +kernel) (pc' := 62) (ls' := [(2, Int.ofNat o0), (2, Int.ofNat o1), (3, 0), (3, 0)]) (st' := [(2, Int.ofNat o0)]) rfl ?_
        refine jEv.gfI (show jfI 41 62 (.getfield 46) 3 [3, 8, 0, 0, 2180] = true by decide +kernel) (isX3_L ho0) (by decide) ?_
        refine jEv.goto (t := 69) (show jfI 41 65 (.goto 4) 3 [] = true by decide +kernel) rfl ?_
        exact t_FR_advance_p69 (T := T) (xs := xs) (y := y) hd ho0 ho1 H HY
def yk_FR_frameCount_L18 (T : jT) (xs : List Int) (d : Nat) (y : jV × jS)  (o0 : Nat) (o1 : Nat) : ((Int × jH) ⊕ (Int × jH)) → Prop
  | .inl (v3, h) => jEv xs d (39, 18, [(2, Int.ofNat o0), (2, Int.ofNat o1), (3, 0), (0, v3)], []) (T, h) y
  | .inr o => ykI T y o
set_option maxRecDepth 20000 in
noncomputable def FR_frameCount_B18  (h : jH) (o0 : Nat) (o1 : Nat) (v3 : Int) : Option ((Int × jH) ⊕ (Int × jH)) := (if v3 < 128 then Option.bind (FR_advance h o0 o1) (fun b5 => (if b5.1 = 0 then Option.map Sum.inr (some (v3, b5.2)) else some (.inl ((wr (v3 + 1)), b5.2)))) else Option.map Sum.inr (some (v3, h)))
noncomputable def FR_frameCount_L18  (h : jH) (o0 : Nat) (o1 : Nat) (v3 : Int) : Option (Int × jH) := jloop (fun s : (Int × jH) => FR_frameCount_B18 s.2 o0 o1 s.1) (v3, h)
set_option maxRecDepth 20000 in
theorem t_FR_frameCount_B18 {T : jT} {xs : List Int} {d : Nat} {y : jV × jS} (hd : 3 ≤ d) {h : jH}  {o0 : Nat} {o1 : Nat} {v3 : Int} {out : ((Int × jH) ⊕ (Int × jH))} (ho0 : isX3 T o0) (ho1 : isX0 T o1) (H : FR_frameCount_B18 h o0 o1 v3 = some out) (HY : yk_FR_frameCount_L18 T xs d y o0 o1 out) : jEv xs d (39, 18, [(2, Int.ofNat o0), (2, Int.ofNat o1), (3, 0), (0, v3)], []) (T, h) y := by
  unfold FR_frameCount_B18 at H
  refine jEv.blk [(.iload_n 3, 1, []), (.sipush 128, 3, [])] (by decide +kernel) (pc' := 22) (ls' := [(2, Int.ofNat o0), (2, Int.ofNat o1), (3, 0), (0, v3)]) (st' := [(0, 128), (0, v3)]) rfl ?_
  refine jEv.ic_ge (t := 39) (show jfI 39 22 (.if_icmp .ge 17) 3 [] = true by decide +kernel) rfl H (fun c4 H => ?_) (fun c4 H => ?_)
  · refine jEv.blk [(.aload_n 0, 1, []), (.aload_n 1, 1, [])] (by decide +kernel) (pc' := 27) (ls' := [(2, Int.ofNat o0), (2, Int.ofNat o1), (3, 0), (0, v3)]) (st' := [(2, Int.ofNat o1), (2, Int.ofNat o0)]) rfl ?_
    refine jbind H (fun b5 Hb5 H => ?_)
    refine jEv.calV (st' := [(0, b5.1)]) (show jfI 39 27 (.invokevirtual 76) 3 [1, 41, 1, 4193] = true by decide +kernel) rfl (Or.inl rfl) rfl (Nat.le_of_ble_eq_true rfl) (by decide +kernel) (by decide) (isX3_L ho0) ((t_FR_advance (T := T) (xs := xs) ho0 ho1 Hb5).mono (jKle 3 hd)) rfl ?_
    refine jEv.if_eq (t := 39) (show jfI 39 30 (.ifCond .eq 9) 3 [] = true by decide +kernel) rfl H (fun c6 H => ?_) (fun c6 H => ?_)
    · refine jmapr H HY (fun out H (HY : ykI T y out) => ?_)
      refine jEv.blk [(.iload_n 3, 1, [])] (by decide +kernel) (pc' := 40) (ls' := [(2, Int.ofNat o0), (2, Int.ofNat o1), (3, 0), (0, v3)]) (st' := [(0, v3)]) rfl ?_
      exact jEv.retI (show jfI 39 40 (.ireturn) 1 [] = true by decide +kernel) (by decide +kernel) (by cases H; exact HY)
    · refine jEv.blk [(.iinc 3 1, 3, [])] (by decide +kernel) (pc' := 36) (ls' := [(2, Int.ofNat o0), (2, Int.ofNat o1), (3, 0), (0, (wr (v3 + 1)))]) (st' := []) rfl ?_
      refine jEv.goto (t := 18) (show jfI 39 36 (.goto (-18)) 3 [] = true by decide +kernel) rfl ?_
      exact (by cases H; exact HY)
  · refine jmapr H HY (fun out H (HY : ykI T y out) => ?_)
    refine jEv.blk [(.iload_n 3, 1, [])] (by decide +kernel) (pc' := 40) (ls' := [(2, Int.ofNat o0), (2, Int.ofNat o1), (3, 0), (0, v3)]) (st' := [(0, v3)]) rfl ?_
    exact jEv.retI (show jfI 39 40 (.ireturn) 1 [] = true by decide +kernel) (by decide +kernel) (by cases H; exact HY)
theorem t_FR_frameCount_L18 {T : jT} {xs : List Int} {d : Nat} {y : jV × jS} (hd : 3 ≤ d) {h : jH}  {o0 : Nat} {o1 : Nat} {v3 : Int} {out : (Int × jH)} (ho0 : isX3 T o0) (ho1 : isX0 T o1) (H : FR_frameCount_L18 h o0 o1 v3 = some out) (HY : ykI T y out) : jEv xs d (39, 18, [(2, Int.ofNat o0), (2, Int.ofNat o1), (3, 0), (0, v3)], []) (T, h) y :=
  jloop_sound (G := fun s : (Int × jH) => jEv xs d (39, 18, [(2, Int.ofNat o0), (2, Int.ofNat o1), (3, 0), (0, s.1)], []) (T, s.2) y) (K := yk_FR_frameCount_L18 T xs d y o0 o1) (fun s out H HY => t_FR_frameCount_B18 hd ho0 ho1 H HY) (fun s' hg => hg) (s := (v3, h)) H HY
set_option maxRecDepth 20000 in
noncomputable def FR_frameCount  (h : jH) (o0 : Nat) (o1 : Nat) (v2 : Int) : Option (Int × jH) := Option.bind (Di_headStands h o1 v2) (fun b1 => (if b1 = 0 then some (0, h) else Option.bind (FR_open h o0 o1 v2) (fun b3 => FR_frameCount_L18 b3 o0 o1 0)))
set_option maxRecDepth 20000 in
theorem t_FR_frameCount {T : jT} {xs : List Int} {h : jH}  {o0 : Nat} {o1 : Nat} {v2 : Int} {out : (Int × jH)} (ho0 : isX3 T o0) (ho1 : isX0 T o1) (H : FR_frameCount h o0 o1 v2 = some out) : jEm xs 4 39 [(2, Int.ofNat o0), (2, Int.ofNat o1), (0, v2)] (T, h) ((0, out.1), (T, out.2)) := by
  have hd : 3 ≤ 3 := Nat.le_refl _
  obtain ⟨y, ey⟩ : ∃ y : jV × jS, y = ((0, out.1), (T, out.2)) := ⟨_, rfl⟩
  rw [← ey]
  have HY : ykI T y out := ey
  refine jEm.ent (n := 4) (by decide +kernel) (Nat.le_of_ble_eq_true rfl) ?_
  show jEv xs 3 (39, 0, [(2, Int.ofNat o0), (2, Int.ofNat o1), (0, v2), (3, 0)], []) (T, h) y
  unfold FR_frameCount at H
  refine jEv.blk [(.aload_n 1, 1, []), (.iload_n 2, 1, [])] (by decide +kernel) (pc' := 2) (ls' := [(2, Int.ofNat o0), (2, Int.ofNat o1), (0, v2), (3, 0)]) (st' := [(0, v2), (2, Int.ofNat o1)]) rfl ?_
  refine jbind H (fun b1 Hb1 H => ?_)
  refine jEv.calV (st' := [(0, b1)]) (show jfI 39 2 (.invokevirtual 69) 3 [1, 8, 1, 4172] = true by decide +kernel) rfl (Or.inl rfl) rfl (Nat.le_of_ble_eq_true rfl) (by decide +kernel) (by decide) (isX0_L ho1) ((t_Di_headStands (T := T) (xs := xs) ho1 Hb1).mono (jKle 3 hd)) rfl ?_
  refine jEv.if_ne (t := 10) (show jfI 39 5 (.ifCond .ne 5) 3 [] = true by decide +kernel) rfl H (fun c2 H => ?_) (fun c2 H => ?_)
  · refine jEv.blk [(.iconst 0, 1, [])] (by decide +kernel) (pc' := 9) (ls' := [(2, Int.ofNat o0), (2, Int.ofNat o1), (0, v2), (3, 0)]) (st' := [(0, 0)]) rfl ?_
    exact jEv.retI (show jfI 39 9 (.ireturn) 1 [] = true by decide +kernel) (by decide +kernel) (by cases H; exact HY)
  · refine jEv.blk [(.aload_n 0, 1, []), (.aload_n 1, 1, []), (.iload_n 2, 1, [])] (by decide +kernel) (pc' := 13) (ls' := [(2, Int.ofNat o0), (2, Int.ofNat o1), (0, v2), (3, 0)]) (st' := [(0, v2), (2, Int.ofNat o1), (2, Int.ofNat o0)]) rfl ?_
    refine jbind H (fun b3 Hb3 H => ?_)
    refine jEv.calV (st' := []) (show jfI 39 13 (.invokevirtual 72) 3 [1, 40, 2, 4188] = true by decide +kernel) rfl (Or.inl rfl) rfl (Nat.le_of_ble_eq_true rfl) (by decide +kernel) (by decide) (isX3_L ho0) ((t_FR_open (T := T) (xs := xs) ho0 ho1 Hb3).mono (jKle 3 hd)) rfl ?_
    refine jEv.blk [(.iconst 0, 1, []), (.istore_n 3, 1, [])] (by decide +kernel) (pc' := 18) (ls' := [(2, Int.ofNat o0), (2, Int.ofNat o1), (0, v2), (0, 0)]) (st' := []) rfl ?_
    exact jEv.weak (a := [(2, Int.ofNat o0), (2, Int.ofNat o1), (3, 0), (0, 0)]) (jles.c1 (jles.c1 (jles.c0 (jles.c1 jles.nl)))) (t_FR_frameCount_L18 (T := T) (xs := xs) (y := y) hd ho0 ho1 H HY)
