/-! methods as functions -/
def yk_M_qSums_L53 (T : jT) (xs : List Int) (d : Nat) (y : jV × jS)  (o0 : Nat) (v1 : Int) : (jH ⊕ jH) → Prop
  | .inl h => jEv xs d (223, 53, [(2, Int.ofNat o0), (0, v1), (3, 0)], []) (T, h) y
  | .inr o => ykV T y o
def yk_M_qSums_L15 (T : jT) (xs : List Int) (d : Nat) (y : jV × jS)  (o0 : Nat) (v1 : Int) : ((Int × jH) ⊕ jH) → Prop
  | .inl (v2, h) => jEv xs d (223, 15, [(2, Int.ofNat o0), (0, v1), (0, v2)], []) (T, h) y
  | .inr o => ykV T y o
set_option maxRecDepth 20000 in
noncomputable def M_qSums_B53  (h : jH) (o0 : Nat) (v1 : Int) : Option (jH ⊕ jH) := (if (h o0 5) = 0 then (if (h o0 103) < (h o0 101) then Option.bind (M_qDrops h o0) (fun b9 => some (.inl (b9))) else Option.map Sum.inr (some (jup h o0 103 v1))) else Option.map Sum.inr (some (jup h o0 103 v1)))
noncomputable def M_qSums_L53  (h : jH) (o0 : Nat) (v1 : Int) : Option jH := jloop (fun s : jH => M_qSums_B53 s o0 v1) (h)
set_option maxRecDepth 20000 in
theorem t_M_qSums_B53 {T : jT} {xs : List Int} {d : Nat} {y : jV × jS} (hd : 6 ≤ d) {h : jH}  {o0 : Nat} {v1 : Int} {out : (jH ⊕ jH)} (ho0 : isX12 T o0) (H : M_qSums_B53 h o0 v1 = some out) (HY : yk_M_qSums_L53 T xs d y o0 v1 out) : jEv xs d (223, 53, [(2, Int.ofNat o0), (0, v1), (3, 0)], []) (T, h) y := by
  unfold M_qSums_B53 at H
  refine jEv.blk [(.aload_n 0, 1, [])] (by decide +kernel) (pc' := 54) (ls' := [(2, Int.ofNat o0), (0, v1), (3, 0)]) (st' := [(2, Int.ofNat o0)]) rfl ?_
  refine jEv.gfI (show jfI 223 54 (.getfield 232) 3 [12, 5, 0, 0, 7041] = true by decide +kernel) (isX12_L ho0) (by decide) ?_
  refine jEv.if_ne (t := 78) (show jfI 223 57 (.ifCond .ne 21) 3 [] = true by decide +kernel) rfl H (fun c7 H => ?_) (fun c7 H => ?_)
  · refine jEv.blk [(.aload_n 0, 1, [])] (by decide +kernel) (pc' := 61) (ls' := [(2, Int.ofNat o0), (0, v1), (3, 0)]) (st' := [(2, Int.ofNat o0)]) rfl ?_
    refine jEv.gfI (show jfI 223 61 (.getfield 297) 3 [12, 101, 0, 0, 7137] = true by decide +kernel) (isX12_L ho0) (by decide) ?_
    refine jEv.blk [(.aload_n 0, 1, [])] (by decide +kernel) (pc' := 65) (ls' := [(2, Int.ofNat o0), (0, v1), (3, 0)]) (st' := [(2, Int.ofNat o0), (0, (h o0 101))]) rfl ?_
    refine jEv.gfI (show jfI 223 65 (.getfield 303) 3 [12, 103, 0, 0, 7139] = true by decide +kernel) (isX12_L ho0) (by decide) ?_
    refine jEv.ic_le (t := 78) (show jfI 223 68 (.if_icmp .le 10) 3 [] = true by decide +kernel) rfl H (fun c8 H => ?_) (fun c8 H => ?_)
    · refine jEv.blk [(.aload_n 0, 1, [])] (by decide +kernel) (pc' := 72) (ls' := [(2, Int.ofNat o0), (0, v1), (3, 0)]) (st' := [(2, Int.ofNat o0)]) rfl ?_
      refine jbind H (fun b9 Hb9 H => ?_)
      refine jEv.calV (st' := []) (show jfI 223 72 (.invokevirtual 662) 3 [1, 230, 0, 9003] = true by decide +kernel) rfl (Or.inl rfl) rfl (Nat.le_of_ble_eq_true rfl) (by decide +kernel) (by decide) (isX12_L ho0) ((t_M_qDrops (T := T) (xs := xs) ho0 Hb9).mono (jKle 2 hd)) rfl ?_
      refine jEv.goto (t := 53) (show jfI 223 75 (.goto (-22)) 3 [] = true by decide +kernel) rfl ?_
      exact (by cases H; exact HY)
    · refine jmapr H HY (fun out H (HY : ykV T y out) => ?_)
      refine jEv.blk [(.aload_n 0, 1, []), (.iload_n 1, 1, [])] (by decide +kernel) (pc' := 80) (ls' := [(2, Int.ofNat o0), (0, v1), (3, 0)]) (st' := [(0, v1), (2, Int.ofNat o0)]) rfl ?_
      refine jEv.pfI (show jfI 223 80 (.putfield 303) 3 [12, 103, 0, 0, 7139] = true by decide +kernel) (isX12_L ho0) (by decide) ?_
      exact jEv.retV (show jfI 223 83 (.return_) 1 [] = true by decide +kernel) (by decide +kernel) (by cases H; exact HY)
  · refine jmapr H HY (fun out H (HY : ykV T y out) => ?_)
    refine jEv.blk [(.aload_n 0, 1, []), (.iload_n 1, 1, [])] (by decide +kernel) (pc' := 80) (ls' := [(2, Int.ofNat o0), (0, v1), (3, 0)]) (st' := [(0, v1), (2, Int.ofNat o0)]) rfl ?_
    refine jEv.pfI (show jfI 223 80 (.putfield 303) 3 [12, 103, 0, 0, 7139] = true by decide +kernel) (isX12_L ho0) (by decide) ?_
    exact jEv.retV (show jfI 223 83 (.return_) 1 [] = true by decide +kernel) (by decide +kernel) (by cases H; exact HY)
theorem t_M_qSums_L53 {T : jT} {xs : List Int} {d : Nat} {y : jV × jS} (hd : 6 ≤ d) {h : jH}  {o0 : Nat} {v1 : Int} {out : jH} (ho0 : isX12 T o0) (H : M_qSums_L53 h o0 v1 = some out) (HY : ykV T y out) : jEv xs d (223, 53, [(2, Int.ofNat o0), (0, v1), (3, 0)], []) (T, h) y :=
  jloop_sound (G := fun s : jH => jEv xs d (223, 53, [(2, Int.ofNat o0), (0, v1), (3, 0)], []) (T, s) y) (K := yk_M_qSums_L53 T xs d y o0 v1) (fun s out H HY => t_M_qSums_B53 hd ho0 H HY) (fun s' hg => hg) (s := (h)) H HY
set_option maxRecDepth 20000 in
noncomputable def M_qSums_p48  (h : jH) (o0 : Nat) (v1 : Int) : Option ((Int × jH) ⊕ jH) := some (.inl (0, h))
set_option maxRecDepth 20000 in
theorem t_M_qSums_p48 {T : jT} {xs : List Int} {d : Nat} {y : jV × jS} (hd : 6 ≤ d) {h : jH}  {o0 : Nat} {v1 : Int} {out : ((Int × jH) ⊕ jH)} (ho0 : isX12 T o0) (H : M_qSums_p48 h o0 v1 = some out) (HY : yk_M_qSums_L15 T xs d y o0 v1 out) : jEv xs d (223, 48, [(2, Int.ofNat o0), (0, v1), (3, 0)], []) (T, h) y := by
  unfold M_qSums_p48 at H
  refine jEv.blk [(.iconst 0, 1, [])] (by decide +kernel) (pc' := 49) (ls' := [(2, Int.ofNat o0), (0, v1), (3, 0)]) (st' := [(0, 0)]) rfl ?_
  refine jEv.blk [(.istore_n 2, 1, [])] (by decide +kernel) (pc' := 50) (ls' := [(2, Int.ofNat o0), (0, v1), (0, 0)]) (st' := []) rfl ?_
  refine jEv.goto (t := 15) (show jfI 223 50 (.goto (-35)) 3 [] = true by decide +kernel) rfl ?_
  exact (by cases H; exact HY)
set_option maxRecDepth 20000 in
noncomputable def M_qSums_B15  (h : jH) (o0 : Nat) (v1 : Int) (v2 : Int) : Option ((Int × jH) ⊕ jH) := (if v2 = 0 then Option.map Sum.inr (M_qSums_L53 h o0 v1) else (if (h o0 5) = 0 then Option.bind (M_qPartTold h o0) (fun b3 => (if (b3 o0 5) = 0 then Option.bind (M_qGoesOn b3 o0) (fun b5 => (if b5.1 = 0 then M_qSums_p48 b5.2 o0 v1 else some (.inl (1, b5.2)))) else M_qSums_p48 b3 o0 v1)) else Option.map Sum.inr (M_qSums_L53 h o0 v1)))
noncomputable def M_qSums_L15  (h : jH) (o0 : Nat) (v1 : Int) (v2 : Int) : Option jH := jloop (fun s : (Int × jH) => M_qSums_B15 s.2 o0 v1 s.1) (v2, h)
set_option maxRecDepth 20000 in
theorem t_M_qSums_B15 {T : jT} {xs : List Int} {d : Nat} {y : jV × jS} (hd : 6 ≤ d) {h : jH}  {o0 : Nat} {v1 : Int} {v2 : Int} {out : ((Int × jH) ⊕ jH)} (ho0 : isX12 T o0) (H : M_qSums_B15 h o0 v1 v2 = some out) (HY : yk_M_qSums_L15 T xs d y o0 v1 out) : jEv xs d (223, 15, [(2, Int.ofNat o0), (0, v1), (0, v2)], []) (T, h) y := by
  unfold M_qSums_B15 at H
  refine jEv.blk [(.iload_n 2, 1, [])] (by decide +kernel) (pc' := 16) (ls' := [(2, Int.ofNat o0), (0, v1), (0, v2)]) (st' := [(0, v2)]) rfl ?_
  refine jEv.if_eq (t := 53) (show jfI 223 16 (.ifCond .eq 37) 3 [] = true by decide +kernel) rfl H (fun c1 H => ?_) (fun c1 H => ?_)
  · refine jmapr H HY (fun out H (HY : ykV T y out) => ?_)
    exact jEv.weak (a := [(2, Int.ofNat o0), (0, v1), (3, 0)]) (jles.c1 (jles.c1 (jles.c0 jles.nl))) (t_M_qSums_L53 (T := T) (xs := xs) (y := y) hd ho0 H HY)
  · refine jEv.blk [(.aload_n 0, 1, [])] (by decide +kernel) (pc' := 20) (ls' := [(2, Int.ofNat o0), (0, v1), (0, v2)]) (st' := [(2, Int.ofNat o0)]) rfl ?_
    refine jEv.gfI (show jfI 223 20 (.getfield 232) 3 [12, 5, 0, 0, 7041] = true by decide +kernel) (isX12_L ho0) (by decide) ?_
    refine jEv.if_ne (t := 53) (show jfI 223 23 (.ifCond .ne 30) 3 [] = true by decide +kernel) rfl H (fun c2 H => ?_) (fun c2 H => ?_)
    · refine jEv.blk [(.aload_n 0, 1, [])] (by decide +kernel) (pc' := 27) (ls' := [(2, Int.ofNat o0), (0, v1), (0, v2)]) (st' := [(2, Int.ofNat o0)]) rfl ?_
      refine jbind H (fun b3 Hb3 H => ?_)
      refine jEv.calV (st' := []) (show jfI 223 27 (.invokevirtual 692) 3 [1, 224, 0, 8219] = true by decide +kernel) rfl (Or.inl rfl) rfl (Nat.le_of_ble_eq_true rfl) (by decide +kernel) (by decide) (isX12_L ho0) ((t_M_qPartTold (T := T) (xs := xs) ho0 Hb3).mono (jKle 6 hd)) rfl ?_
      refine jEv.blk [(.aload_n 0, 1, [])] (by decide +kernel) (pc' := 31) (ls' := [(2, Int.ofNat o0), (0, v1), (0, v2)]) (st' := [(2, Int.ofNat o0)]) rfl ?_
      refine jEv.gfI (show jfI 223 31 (.getfield 232) 3 [12, 5, 0, 0, 7041] = true by decide +kernel) (isX12_L ho0) (by decide) ?_
      refine jEv.if_ne (t := 48) (show jfI 223 34 (.ifCond .ne 14) 3 [] = true by decide +kernel) rfl H (fun c4 H => ?_) (fun c4 H => ?_)
      · refine jEv.blk [(.aload_n 0, 1, [])] (by decide +kernel) (pc' := 38) (ls' := [(2, Int.ofNat o0), (0, v1), (0, v2)]) (st' := [(2, Int.ofNat o0)]) rfl ?_
        refine jbind H (fun b5 Hb5 H => ?_)
        refine jEv.calV (st' := [(0, b5.1)]) (show jfI 223 38 (.invokevirtual 695) 3 [1, 231, 0, 9007] = true by decide +kernel) rfl (Or.inl rfl) rfl (Nat.le_of_ble_eq_true rfl) (by decide +kernel) (by decide) (isX12_L ho0) ((t_M_qGoesOn (T := T) (xs := xs) ho0 Hb5).mono (jKle 4 hd)) rfl ?_
        refine jEv.if_eq (t := 48) (show jfI 223 41 (.ifCond .eq 7) 3 [] = true by decide +kernel) rfl H (fun c6 H => ?_) (fun c6 H => ?_)
        · exact jEv.weak (a := [(2, Int.ofNat o0), (0, v1), (3, 0)]) (jles.c1 (jles.c1 (jles.c0 jles.nl))) (t_M_qSums_p48 (T := T) (xs := xs) (y := y) hd ho0 H HY)
        · refine jEv.blk [(.iconst 1, 1, [])] (by decide +kernel) (pc' := 45) (ls' := [(2, Int.ofNat o0), (0, v1), (0, v2)]) (st' := [(0, 1)]) rfl ?_
          refine jEv.goto (t := 49) (show jfI 223 45 (.goto 4) 3 [] = true by decide +kernel) rfl ?_
          refine jEv.blk [(.istore_n 2, 1, [])] (by decide +kernel) (pc' := 50) (ls' := [(2, Int.ofNat o0), (0, v1), (0, 1)]) (st' := []) rfl ?_
          refine jEv.goto (t := 15) (show jfI 223 50 (.goto (-35)) 3 [] = true by decide +kernel) rfl ?_
          exact (by cases H; exact HY)
      · exact jEv.weak (a := [(2, Int.ofNat o0), (0, v1), (3, 0)]) (jles.c1 (jles.c1 (jles.c0 jles.nl))) (t_M_qSums_p48 (T := T) (xs := xs) (y := y) hd ho0 H HY)
    · refine jmapr H HY (fun out H (HY : ykV T y out) => ?_)
      exact jEv.weak (a := [(2, Int.ofNat o0), (0, v1), (3, 0)]) (jles.c1 (jles.c1 (jles.c0 jles.nl))) (t_M_qSums_L53 (T := T) (xs := xs) (y := y) hd ho0 H HY)
theorem t_M_qSums_L15 {T : jT} {xs : List Int} {d : Nat} {y : jV × jS} (hd : 6 ≤ d) {h : jH}  {o0 : Nat} {v1 : Int} {v2 : Int} {out : jH} (ho0 : isX12 T o0) (H : M_qSums_L15 h o0 v1 v2 = some out) (HY : ykV T y out) : jEv xs d (223, 15, [(2, Int.ofNat o0), (0, v1), (0, v2)], []) (T, h) y :=
  jloop_sound (G := fun s : (Int × jH) => jEv xs d (223, 15, [(2, Int.ofNat o0), (0, v1), (0, s.1)], []) (T, s.2) y) (K := yk_M_qSums_L15 T xs d y o0 v1) (fun s out H HY => t_M_qSums_B15 hd ho0 H HY) (fun s' hg => hg) (s := (v2, h)) H HY
set_option maxRecDepth 20000 in
noncomputable def M_qSums  (h : jH) (o0 : Nat) : Option jH := M_qSums_L15 (jup h o0 103 (h o0 101)) o0 (h o0 103) 1
set_option maxRecDepth 20000 in
theorem t_M_qSums {T : jT} {xs : List Int} {h : jH}  {o0 : Nat} {out : jH} (ho0 : isX12 T o0) (H : M_qSums h o0 = some out) : jEm xs 7 223 [(2, Int.ofNat o0)] (T, h) ((3, 0), (T, out)) := by
  have hd : 6 ≤ 6 := Nat.le_refl _
  obtain ⟨y, ey⟩ : ∃ y : jV × jS, y = ((3, 0), (T, out)) := ⟨_, rfl⟩
  rw [← ey]
  have HY : ykV T y out := ey
  refine jEm.ent (n := 3) (by decide +kernel) (Nat.le_of_ble_eq_true rfl) ?_
  show jEv xs 6 (223, 0, [(2, Int.ofNat o0), (3, 0), (3, 0)], []) (T, h) y
  unfold M_qSums at H
  refine jEv.blk [(.aload_n 0, 1, [])] (by decide +kernel) (pc' := 1) (ls' := [(2, Int.ofNat o0), (3, 0), (3, 0)]) (st' := [(2, Int.ofNat o0)]) rfl ?_
  refine jEv.gfI (show jfI 223 1 (.getfield 303) 3 [12, 103, 0, 0, 7139] = true by decide +kernel) (isX12_L ho0) (by decide) ?_
  refine jEv.blk [(.istore_n 1, 1, []), (.aload_n 0, 1, []), (.aload_n 0, 1, [])] (by decide +kernel) (pc' := 7) (ls' := [(2, Int.ofNat o0), (0, (h o0 103)), (3, 0)]) (st' := [(2, Int.ofNat o0), (2, Int.ofNat o0)]) rfl ?_
  refine jEv.gfI (show jfI 223 7 (.getfield 297) 3 [12, 101, 0, 0, 7137] = true by decide +kernel) (isX12_L ho0) (by decide) ?_
  refine jEv.pfI (show jfI 223 10 (.putfield 303) 3 [12, 103, 0, 0, 7139] = true by decide +kernel) (isX12_L ho0) (by decide) ?_
  refine jEv.blk [(.iconst 1, 1, []), (.istore_n 2, 1, [])] (by decide +kernel) (pc' := 15) (ls' := [(2, Int.ofNat o0), (0, (h o0 103)), (0, 1)]) (st' := []) rfl ?_
  exact t_M_qSums_L15 (T := T) (xs := xs) (y := y) hd ho0 H HY
set_option maxRecDepth 20000 in
noncomputable def M_qFact_p102  (h : jH) (os0 : Nat) (vs1 : Int) : Option jH := Option.bind (M_qCode h os0 vs1) (fun b14 => some b14)
set_option maxRecDepth 20000 in
theorem t_M_qFact_p102 {T : jT} {xs : List Int} {d : Nat} {y : jV × jS} (hd : 7 ≤ d) {h : jH}  {os0 : Nat} {vs1 : Int} {out : jH} (hos0 : isX12 T os0) (H : M_qFact_p102 h os0 vs1 = some out) (HY : ykV T y out) : jEv xs d (221, 102, [(3, 0), (3, 0)], [(0, vs1), (2, Int.ofNat os0)]) (T, h) y := by
  unfold M_qFact_p102 at H
  refine jbind H (fun b14 Hb14 H => ?_)
  refine jEv.calV (st' := []) (show jfI 221 102 (.invokevirtual 656) 3 [1, 222, 1, 8211] = true by decide +kernel) rfl (Or.inl rfl) rfl (Nat.le_of_ble_eq_true rfl) (by decide +kernel) (by decide) (isX12_L hos0) ((t_M_qCode (T := T) (xs := xs) hos0 Hb14).mono (jKle 1 hd)) rfl ?_
  exact jEv.retV (show jfI 221 105 (.return_) 1 [] = true by decide +kernel) (by decide +kernel) (by cases H; exact HY)
set_option maxRecDepth 20000 in
noncomputable def M_qFact_p63  (h : jH) (o0 : Nat) (v1 : Int) : Option jH := Option.bind (M_qSums (jup h o0 2 (wr ((h o0 2) + 1))) o0) (fun b11 => (if v1 = 60 then M_qFact_p102 b11 o0 7 else (if v1 = 62 then M_qFact_p102 b11 o0 8 else M_qFact_p102 b11 o0 9)))
set_option maxRecDepth 20000 in
theorem t_M_qFact_p63 {T : jT} {xs : List Int} {d : Nat} {y : jV × jS} (hd : 7 ≤ d) {h : jH}  {o0 : Nat} {v1 : Int} {out : jH} (ho0 : isX12 T o0) (H : M_qFact_p63 h o0 v1 = some out) (HY : ykV T y out) : jEv xs d (221, 63, [(2, Int.ofNat o0), (0, v1)], []) (T, h) y := by
  unfold M_qFact_p63 at H
  refine jEv.blk [(.aload_n 0, 1, []), (.dup, 1, [])] (by decide +kernel) (pc' := 65) (ls' := [(2, Int.ofNat o0), (0, v1)]) (st' := [(2, Int.ofNat o0), (2, Int.ofNat o0)]) rfl ?_
  refine jEv.gfI (show jfI 221 65 (.getfield 238) 3 [12, 2, 0, 0, 7038] = true by decide +kernel) (isX12_L ho0) (by decide) ?_
  refine jEv.blk [(.iconst 1, 1, []), (.iadd, 1, [])] (by decide +kernel) (pc' := 70) (ls' := [(2, Int.ofNat o0), (0, v1)]) (st' := [(0, (wr ((h o0 2) + 1))), (2, Int.ofNat o0)]) rfl ?_
  refine jEv.pfI (show jfI 221 70 (.putfield 238) 3 [12, 2, 0, 0, 7038] = true by decide +kernel) (isX12_L ho0) (by decide) ?_
  refine jEv.blk [(.aload_n 0, 1, [])] (by decide +kernel) (pc' := 74) (ls' := [(2, Int.ofNat o0), (0, v1)]) (st' := [(2, Int.ofNat o0)]) rfl ?_
  refine jbind H (fun b11 Hb11 H => ?_)
  refine jEv.calV (st' := []) (show jfI 221 74 (.invokevirtual 309) 3 [1, 223, 0, 8215] = true by decide +kernel) rfl (Or.inl rfl) rfl (Nat.le_of_ble_eq_true rfl) (by decide +kernel) (by decide) (isX12_L ho0) ((t_M_qSums (T := T) (xs := xs) ho0 Hb11).mono (jKle 7 hd)) rfl ?_
  refine jEv.blk [(.aload_n 0, 1, []), (.iload_n 1, 1, []), (.bipush 60, 2, [])] (by decide +kernel) (pc' := 81) (ls' := [(2, Int.ofNat o0), (0, v1)]) (st' := [(0, 60), (0, v1), (2, Int.ofNat o0)]) rfl ?_
  refine jEv.ic_ne (t := 89) (show jfI 221 81 (.if_icmp .ne 8) 3 [] = true by decide +kernel) rfl H (fun c12 H => ?_) (fun c12 H => ?_)
  · refine jEv.blk [(.bipush 7, 2, [])] (by decide +kernel) (pc' := 86) (ls' := [(2, Int.ofNat o0), (0, v1)]) (st' := [(0, 7), (2, Int.ofNat o0)]) rfl ?_
    refine jEv.goto (t := 102) (show jfI 221 86 (.goto 16) 3 [] = true by decide +kernel) rfl ?_
    exact jEv.weak (a := [(3, 0), (3, 0)]) (jles.c0 (jles.c0 jles.nl)) (t_M_qFact_p102 (T := T) (xs := xs) (y := y) hd ho0 H HY)
  · refine jEv.blk [(.iload_n 1, 1, []), (.bipush 62, 2, [])] (by decide +kernel) (pc' := 92) (ls' := [(2, Int.ofNat o0), (0, v1)]) (st' := [(0, 62), (0, v1), (2, Int.ofNat o0)]) rfl ?_
    refine jEv.ic_ne (t := 100) (show jfI 221 92 (.if_icmp .ne 8) 3 [] = true by decide +kernel) rfl H (fun c13 H => ?_) (fun c13 H => ?_)
    · refine jEv.blk [(.bipush 8, 2, [])] (by decide +kernel) (pc' := 97) (ls' := [(2, Int.ofNat o0), (0, v1)]) (st' := [(0, 8), (2, Int.ofNat o0)]) rfl ?_
      refine jEv.goto (t := 102) (show jfI 221 97 (.goto 5) 3 [] = true by decide +kernel) rfl ?_
      exact jEv.weak (a := [(3, 0), (3, 0)]) (jles.c0 (jles.c0 jles.nl)) (t_M_qFact_p102 (T := T) (xs := xs) (y := y) hd ho0 H HY)
    · refine jEv.blk [(.bipush 9, 2, [])] (by decide +kernel) (pc' := 102) (ls' := [(2, Int.ofNat o0), (0, v1)]) (st' := [(0, 9), (2, Int.ofNat o0)]) rfl ?_
      exact jEv.weak (a := [(3, 0), (3, 0)]) (jles.c0 (jles.c0 jles.nl)) (t_M_qFact_p102 (T := T) (xs := xs) (y := y) hd ho0 H HY)
set_option maxRecDepth 20000 in
noncomputable def M_qFact  (h : jH) (o0 : Nat) : Option jH := Option.bind (M_takes h o0 (o0 + 52) 3) (fun b1 => (if b1.1 = 0 then Option.bind (M_qSums b1.2 o0) (fun b3 => (if (b3 o0 5) = 0 then Option.bind (M_look b3 o0) (fun b5 => (if b5.1 = 60 then M_qFact_p63 b5.2 o0 b5.1 else (if b5.1 = 62 then M_qFact_p63 b5.2 o0 b5.1 else (if b5.1 = 61 then M_qFact_p63 b5.2 o0 b5.1 else Option.bind (M_fail b5.2 o0 1 (b5.2 o0 2)) (fun b9 => some b9))))) else some b3)) else Option.bind (M_qCode b1.2 o0 13) (fun b10 => some b10)))
set_option maxRecDepth 20000 in
theorem t_M_qFact {T : jT} {xs : List Int} {h : jH}  {o0 : Nat} {out : jH} (ho0 : isX12 T o0) (H : M_qFact h o0 = some out) : jEm xs 8 221 [(2, Int.ofNat o0)] (T, h) ((3, 0), (T, out)) := by
  have hd : 7 ≤ 7 := Nat.le_refl _
  obtain ⟨y, ey⟩ : ∃ y : jV × jS, y = ((3, 0), (T, out)) := ⟨_, rfl⟩
  rw [← ey]
  have HY : ykV T y out := ey
  refine jEm.ent (n := 2) (by decide +kernel) (Nat.le_of_ble_eq_true rfl) ?_
  show jEv xs 7 (221, 0, [(2, Int.ofNat o0), (3, 0)], []) (T, h) y
  unfold M_qFact at H
  refine jEv.blk [(.aload_n 0, 1, []), (.aload_n 0, 1, [])] (by decide +kernel) (pc' := 2) (ls' := [(2, Int.ofNat o0), (3, 0)]) (st' := [(2, Int.ofNat o0), (2, Int.ofNat o0)]) rfl ?_
  refine jEv.gfR (o' := (o0 + 52)) (show jfI 221 2 (.getfield 177) 3 [12, 85, 5, 0, 7121] = true by decide +kernel) (isX12_L ho0) (by decide) (isX12_r85 ho0) ?_
  refine jbind H (fun b1 Hb1 H => ?_)
  refine jEv.calV (st' := [(0, b1.1)]) (show jfI 221 5 (.invokevirtual 259) 3 [1, 206, 1, 8150] = true by decide +kernel) rfl (Or.inl rfl) rfl (Nat.le_of_ble_eq_true rfl) (by decide +kernel) (by decide) (isX12_L ho0) ((t_M_takes (T := T) (xs := xs) ho0 (isX12_a85 ho0) Hb1).mono (jKle 3 hd)) rfl ?_
  refine jEv.if_eq (t := 18) (show jfI 221 8 (.ifCond .eq 10) 3 [] = true by decide +kernel) rfl H (fun c2 H => ?_) (fun c2 H => ?_)
  · refine jEv.blk [(.aload_n 0, 1, [])] (by decide +kernel) (pc' := 19) (ls' := [(2, Int.ofNat o0), (3, 0)]) (st' := [(2, Int.ofNat o0)]) rfl ?_
    refine jbind H (fun b3 Hb3 H => ?_)
    refine jEv.calV (st' := []) (show jfI 221 19 (.invokevirtual 309) 3 [1, 223, 0, 8215] = true by decide +kernel) rfl (Or.inl rfl) rfl (Nat.le_of_ble_eq_true rfl) (by decide +kernel) (by decide) (isX12_L ho0) ((t_M_qSums (T := T) (xs := xs) ho0 Hb3).mono (jKle 7 hd)) rfl ?_
    refine jEv.blk [(.aload_n 0, 1, [])] (by decide +kernel) (pc' := 23) (ls' := [(2, Int.ofNat o0), (3, 0)]) (st' := [(2, Int.ofNat o0)]) rfl ?_
    refine jEv.gfI (show jfI 221 23 (.getfield 232) 3 [12, 5, 0, 0, 7041] = true by decide +kernel) (isX12_L ho0) (by decide) ?_
    refine jEv.if_eq (t := 30) (show jfI 221 26 (.ifCond .eq 4) 3 [] = true by decide +kernel) rfl H (fun c4 H => ?_) (fun c4 H => ?_)
    · refine jEv.blk [(.aload_n 0, 1, [])] (by decide +kernel) (pc' := 31) (ls' := [(2, Int.ofNat o0), (3, 0)]) (st' := [(2, Int.ofNat o0)]) rfl ?_
      refine jbind H (fun b5 Hb5 H => ?_)
      refine jEv.calV (st' := [(0, b5.1)]) (show jfI 221 31 (.invokevirtual 244) 3 [1, 208, 0, 8158] = true by decide +kernel) rfl (Or.inl rfl) rfl (Nat.le_of_ble_eq_true rfl) (by decide +kernel) (by decide) (isX12_L ho0) ((t_M_look (T := T) (xs := xs) ho0 Hb5).mono (jKle 1 hd)) rfl ?_
      refine jEv.blk [(.istore_n 1, 1, []), (.iload_n 1, 1, []), (.bipush 60, 2, [])] (by decide +kernel) (pc' := 38) (ls' := [(2, Int.ofNat o0), (0, b5.1)]) (st' := [(0, 60), (0, b5.1)]) rfl ?_
      refine jEv.ic_eq (t := 63) (show jfI 221 38 (.if_icmp .eq 25) 3 [] = true by decide +kernel) rfl H (fun c6 H => ?_) (fun c6 H => ?_)
      · exact t_M_qFact_p63 (T := T) (xs := xs) (y := y) hd ho0 H HY
      · refine jEv.blk [(.iload_n 1, 1, []), (.bipush 62, 2, [])] (by decide +kernel) (pc' := 44) (ls' := [(2, Int.ofNat o0), (0, b5.1)]) (st' := [(0, 62), (0, b5.1)]) rfl ?_
        refine jEv.ic_eq (t := 63) (show jfI 221 44 (.if_icmp .eq 19) 3 [] = true by decide +kernel) rfl H (fun c7 H => ?_) (fun c7 H => ?_)
        · exact t_M_qFact_p63 (T := T) (xs := xs) (y := y) hd ho0 H HY
        · refine jEv.blk [(.iload_n 1, 1, []), (.bipush 61, 2, [])] (by decide +kernel) (pc' := 50) (ls' := [(2, Int.ofNat o0), (0, b5.1)]) (st' := [(0, 61), (0, b5.1)]) rfl ?_
          refine jEv.ic_eq (t := 63) (show jfI 221 50 (.if_icmp .eq 13) 3 [] = true by decide +kernel) rfl H (fun c8 H => ?_) (fun c8 H => ?_)
          · exact t_M_qFact_p63 (T := T) (xs := xs) (y := y) hd ho0 H HY
          · refine jEv.blk [(.aload_n 0, 1, []), (.iconst 1, 1, []), (.aload_n 0, 1, [])] (by decide +kernel) (pc' := 56) (ls' := [(2, Int.ofNat o0), (0, b5.1)]) (st' := [(2, Int.ofNat o0), (0, 1), (2, Int.ofNat o0)]) rfl ?_
            refine jEv.gfI (show jfI 221 56 (.getfield 238) 3 [12, 2, 0, 0, 7038] = true by decide +kernel) (isX12_L ho0) (by decide) ?_
            refine jbind H (fun b9 Hb9 H => ?_)
            refine jEv.calV (st' := []) (show jfI 221 59 (.invokevirtual 262) 3 [1, 210, 2, 8165] = true by decide +kernel) rfl (Or.inl rfl) rfl (Nat.le_of_ble_eq_true rfl) (by decide +kernel) (by decide) (isX12_L ho0) ((t_M_fail (T := T) (xs := xs) ho0 Hb9).mono (jKle 1 hd)) rfl ?_
            exact jEv.retV (show jfI 221 62 (.return_) 1 [] = true by decide +kernel) (by decide +kernel) (by cases H; exact HY)
    · exact jEv.retV (show jfI 221 29 (.return_) 1 [] = true by decide +kernel) (by decide +kernel) (by cases H; exact HY)
  · refine jEv.blk [(.aload_n 0, 1, []), (.bipush 13, 2, [])] (by decide +kernel) (pc' := 14) (ls' := [(2, Int.ofNat o0), (3, 0)]) (st' := [(0, 13), (2, Int.ofNat o0)]) rfl ?_
    refine jbind H (fun b10 Hb10 H => ?_)
    refine jEv.calV (st' := []) (show jfI 221 14 (.invokevirtual 656) 3 [1, 222, 1, 8211] = true by decide +kernel) rfl (Or.inl rfl) rfl (Nat.le_of_ble_eq_true rfl) (by decide +kernel) (by decide) (isX12_L ho0) ((t_M_qCode (T := T) (xs := xs) ho0 Hb10).mono (jKle 1 hd)) rfl ?_
    exact jEv.retV (show jfI 221 17 (.return_) 1 [] = true by decide +kernel) (by decide +kernel) (by cases H; exact HY)
def yk_M_qDropsNots_L0 (T : jT) (xs : List Int) (d : Nat) (y : jV × jS)  (o0 : Nat) : (jH ⊕ jH) → Prop
  | .inl h => jEv xs d (236, 0, [(2, Int.ofNat o0)], []) (T, h) y
  | .inr o => ykV T y o
set_option maxRecDepth 20000 in
noncomputable def M_qDropsNots_B0  (h : jH) (o0 : Nat) : Option (jH ⊕ jH) := (if (h o0 5) = 0 then Option.bind (M_qIsOn h o0 12) (fun b2 => (if b2 = 0 then Option.map Sum.inr (some h) else Option.bind (M_qDrops (jup h o0 102 (wr ((h o0 102) - 1))) o0) (fun b4 => some (.inl (b4))))) else Option.map Sum.inr (some h))
noncomputable def M_qDropsNots_L0  (h : jH) (o0 : Nat) : Option jH := jloop (fun s : jH => M_qDropsNots_B0 s o0) (h)
set_option maxRecDepth 20000 in
theorem t_M_qDropsNots_B0 {T : jT} {xs : List Int} {d : Nat} {y : jV × jS} (hd : 2 ≤ d) {h : jH}  {o0 : Nat} {out : (jH ⊕ jH)} (ho0 : isX12 T o0) (H : M_qDropsNots_B0 h o0 = some out) (HY : yk_M_qDropsNots_L0 T xs d y o0 out) : jEv xs d (236, 0, [(2, Int.ofNat o0)], []) (T, h) y := by
  unfold M_qDropsNots_B0 at H
  refine jEv.blk [(.aload_n 0, 1, [])] (by decide +kernel) (pc' := 1) (ls' := [(2, Int.ofNat o0)]) (st' := [(2, Int.ofNat o0)]) rfl ?_
  refine jEv.gfI (show jfI 236 1 (.getfield 232) 3 [12, 5, 0, 0, 7041] = true by decide +kernel) (isX12_L ho0) (by decide) ?_
  refine jEv.if_ne (t := 33) (show jfI 236 4 (.ifCond .ne 29) 3 [] = true by decide +kernel) rfl H (fun c1 H => ?_) (fun c1 H => ?_)
  · refine jEv.blk [(.aload_n 0, 1, []), (.bipush 12, 2, [])] (by decide +kernel) (pc' := 10) (ls' := [(2, Int.ofNat o0)]) (st' := [(0, 12), (2, Int.ofNat o0)]) rfl ?_
    refine jbind H (fun b2 Hb2 H => ?_)
    refine jEv.calV (st' := [(0, b2)]) (show jfI 236 10 (.invokevirtual 689) 3 [1, 235, 1, 9022] = true by decide +kernel) rfl (Or.inl rfl) rfl (Nat.le_of_ble_eq_true rfl) (by decide +kernel) (by decide) (isX12_L ho0) ((t_M_qIsOn (T := T) (xs := xs) ho0 Hb2).mono (jKle 1 hd)) rfl ?_
    refine jEv.if_eq (t := 33) (show jfI 236 13 (.ifCond .eq 20) 3 [] = true by decide +kernel) rfl H (fun c3 H => ?_) (fun c3 H => ?_)
    · refine jmapr H HY (fun out H (HY : ykV T y out) => ?_)
      exact jEv.retV (show jfI 236 33 (.return_) 1 [] = true by decide +kernel) (by decide +kernel) (by cases H; exact HY)
    · refine jEv.blk [(.aload_n 0, 1, []), (.dup, 1, [])] (by decide +kernel) (pc' := 18) (ls' := [(2, Int.ofNat o0)]) (st' := [(2, Int.ofNat o0), (2, Int.ofNat o0)]) rfl ?_
      refine jEv.gfI (show jfI 236 18 (.getfield 300) 3 [12, 102, 0, 0, 7138] = true by decide +kernel) (isX12_L ho0) (by decide) ?_
      refine jEv.blk [(.iconst 1, 1, []), (.isub, 1, [])] (by decide +kernel) (pc' := 23) (ls' := [(2, Int.ofNat o0)]) (st' := [(0, (wr ((h o0 102) - 1))), (2, Int.ofNat o0)]) rfl ?_
      refine jEv.pfI (show jfI 236 23 (.putfield 300) 3 [12, 102, 0, 0, 7138] = true by decide +kernel) (isX12_L ho0) (by decide) ?_
      refine jEv.blk [(.aload_n 0, 1, [])] (by decide +kernel) (pc' := 27) (ls' := [(2, Int.ofNat o0)]) (st' := [(2, Int.ofNat o0)]) rfl ?_
      refine jbind H (fun b4 Hb4 H => ?_)
      refine jEv.calV (st' := []) (show jfI 236 27 (.invokevirtual 662) 3 [1, 230, 0, 9003] = true by decide +kernel) rfl (Or.inl rfl) rfl (Nat.le_of_ble_eq_true rfl) (by decide +kernel) (by decide) (isX12_L ho0) ((t_M_qDrops (T := T) (xs := xs) ho0 Hb4).mono (jKle 2 hd)) rfl ?_
      refine jEv.goto (t := 0) (show jfI 236 30 (.goto (-30)) 3 [] = true by decide +kernel) rfl ?_
      exact (by cases H; exact HY)
  · refine jmapr H HY (fun out H (HY : ykV T y out) => ?_)
    exact jEv.retV (show jfI 236 33 (.return_) 1 [] = true by decide +kernel) (by decide +kernel) (by cases H; exact HY)
theorem t_M_qDropsNots_L0 {T : jT} {xs : List Int} {d : Nat} {y : jV × jS} (hd : 2 ≤ d) {h : jH}  {o0 : Nat} {out : jH} (ho0 : isX12 T o0) (H : M_qDropsNots_L0 h o0 = some out) (HY : ykV T y out) : jEv xs d (236, 0, [(2, Int.ofNat o0)], []) (T, h) y :=
  jloop_sound (G := fun s : jH => jEv xs d (236, 0, [(2, Int.ofNat o0)], []) (T, s) y) (K := yk_M_qDropsNots_L0 T xs d y o0) (fun s out H HY => t_M_qDropsNots_B0 hd ho0 H HY) (fun s' hg => hg) (s := (h)) H HY
set_option maxRecDepth 20000 in
noncomputable def M_qDropsNots  (h : jH) (o0 : Nat) : Option jH := M_qDropsNots_L0 h o0
set_option maxRecDepth 20000 in
theorem t_M_qDropsNots {T : jT} {xs : List Int} {h : jH}  {o0 : Nat} {out : jH} (ho0 : isX12 T o0) (H : M_qDropsNots h o0 = some out) : jEm xs 3 236 [(2, Int.ofNat o0)] (T, h) ((3, 0), (T, out)) := by
  have hd : 2 ≤ 2 := Nat.le_refl _
  obtain ⟨y, ey⟩ : ∃ y : jV × jS, y = ((3, 0), (T, out)) := ⟨_, rfl⟩
  rw [← ey]
  have HY : ykV T y out := ey
  refine jEm.ent (n := 1) (by decide +kernel) (Nat.le_of_ble_eq_true rfl) ?_
  show jEv xs 2 (236, 0, [(2, Int.ofNat o0)], []) (T, h) y
  unfold M_qDropsNots at H
  exact t_M_qDropsNots_L0 (T := T) (xs := xs) (y := y) hd ho0 H HY
def yk_M_qHasSquare_L2 (T : jT) (xs : List Int) (d : Nat) (y : jV × jS) (h : jH)  (o0 : Nat) : (Int ⊕ Int) → Prop
  | .inl v1 => jEv xs d (238, 2, [(2, Int.ofNat o0), (0, v1)], []) (T, h) y
  | .inr o => ykIp T h y o
set_option maxRecDepth 20000 in
noncomputable def M_qHasSquare_B2  (h : jH) (o0 : Nat) (v1 : Int) : Option (Int ⊕ Int) := (if v1 < (h o0 101) then (if (0 : Int) ≤ v1 ∧ (v1 : Int).toNat < 1700 then (if (h (o0 + 66) (v1 : Int).toNat) = 25 then Option.map Sum.inr (some 1) else some (.inl ((wr (v1 + 1))))) else none) else Option.map Sum.inr (some 0))
noncomputable def M_qHasSquare_L2  (h : jH) (o0 : Nat) (v1 : Int) : Option Int := jloop (fun s : Int => M_qHasSquare_B2 h o0 s) (v1)
set_option maxRecDepth 20000 in
theorem t_M_qHasSquare_B2 {T : jT} {xs : List Int} {d : Nat} {y : jV × jS} (hd : 0 ≤ d) {h : jH}  {o0 : Nat} {v1 : Int} {out : (Int ⊕ Int)} (ho0 : isX12 T o0) (H : M_qHasSquare_B2 h o0 v1 = some out) (HY : yk_M_qHasSquare_L2 T xs d y h o0 out) : jEv xs d (238, 2, [(2, Int.ofNat o0), (0, v1)], []) (T, h) y := by
  unfold M_qHasSquare_B2 at H
  refine jEv.blk [(.iload_n 1, 1, []), (.aload_n 0, 1, [])] (by decide +kernel) (pc' := 4) (ls' := [(2, Int.ofNat o0), (0, v1)]) (st' := [(2, Int.ofNat o0), (0, v1)]) rfl ?_
  refine jEv.gfI (show jfI 238 4 (.getfield 297) 3 [12, 101, 0, 0, 7137] = true by decide +kernel) (isX12_L ho0) (by decide) ?_
  refine jEv.ic_ge (t := 29) (show jfI 238 7 (.if_icmp .ge 22) 3 [] = true by decide +kernel) rfl H (fun c1 H => ?_) (fun c1 H => ?_)
  · refine jEv.blk [(.aload_n 0, 1, [])] (by decide +kernel) (pc' := 11) (ls' := [(2, Int.ofNat o0), (0, v1)]) (st' := [(2, Int.ofNat o0)]) rfl ?_
    refine jEv.gfR (o' := (o0 + 66)) (show jfI 238 11 (.getfield 219) 3 [12, 100, 5, 0, 7136] = true by decide +kernel) (isX12_L ho0) (by decide) (isX12_r100 ho0) ?_
    refine jEv.blk [(.iload_n 1, 1, [])] (by decide +kernel) (pc' := 15) (ls' := [(2, Int.ofNat o0), (0, v1)]) (st' := [(0, v1), (2, Int.ofNat (o0 + 66))]) rfl ?_
    refine jEv.ald (Or.inl ⟨rfl, rfl, rfl⟩) (show jfI 238 15 (.iaload) 1 [] = true by decide +kernel) (isX12_a100 ho0) H (fun c2 H => ?_)
    refine jEv.blk [(.bipush 25, 2, [])] (by decide +kernel) (pc' := 18) (ls' := [(2, Int.ofNat o0), (0, v1)]) (st' := [(0, 25), (0, (h (o0 + 66) (v1 : Int).toNat))]) rfl ?_
    refine jEv.ic_ne (t := 23) (show jfI 238 18 (.if_icmp .ne 5) 3 [] = true by decide +kernel) rfl H (fun c3 H => ?_) (fun c3 H => ?_)
    · refine jmapr H HY (fun out H (HY : ykIp T h y out) => ?_)
      refine jEv.blk [(.iconst 1, 1, [])] (by decide +kernel) (pc' := 22) (ls' := [(2, Int.ofNat o0), (0, v1)]) (st' := [(0, 1)]) rfl ?_
      exact jEv.retZ (show jfI 238 22 (.ireturn) 1 [] = true by decide +kernel) (by decide +kernel) (by decide) (by cases H; exact HY)
    · refine jEv.blk [(.iinc 1 1, 3, [])] (by decide +kernel) (pc' := 26) (ls' := [(2, Int.ofNat o0), (0, (wr (v1 + 1)))]) (st' := []) rfl ?_
      refine jEv.goto (t := 2) (show jfI 238 26 (.goto (-24)) 3 [] = true by decide +kernel) rfl ?_
      exact (by cases H; exact HY)
  · refine jmapr H HY (fun out H (HY : ykIp T h y out) => ?_)
    refine jEv.blk [(.iconst 0, 1, [])] (by decide +kernel) (pc' := 30) (ls' := [(2, Int.ofNat o0), (0, v1)]) (st' := [(0, 0)]) rfl ?_
    exact jEv.retZ (show jfI 238 30 (.ireturn) 1 [] = true by decide +kernel) (by decide +kernel) (by decide) (by cases H; exact HY)
theorem t_M_qHasSquare_L2 {T : jT} {xs : List Int} {d : Nat} {y : jV × jS} (hd : 0 ≤ d) {h : jH}  {o0 : Nat} {v1 : Int} {out : Int} (ho0 : isX12 T o0) (H : M_qHasSquare_L2 h o0 v1 = some out) (HY : ykIp T h y out) : jEv xs d (238, 2, [(2, Int.ofNat o0), (0, v1)], []) (T, h) y :=
  jloop_sound (G := fun s : Int => jEv xs d (238, 2, [(2, Int.ofNat o0), (0, s)], []) (T, h) y) (K := yk_M_qHasSquare_L2 T xs d y h o0) (fun s out H HY => t_M_qHasSquare_B2 hd ho0 H HY) (fun s' hg => hg) (s := (v1)) H HY
set_option maxRecDepth 20000 in
noncomputable def M_qHasSquare  (h : jH) (o0 : Nat) : Option Int := M_qHasSquare_L2 h o0 0
set_option maxRecDepth 20000 in
theorem t_M_qHasSquare {T : jT} {xs : List Int} {h : jH}  {o0 : Nat} {out : Int} (ho0 : isX12 T o0) (H : M_qHasSquare h o0 = some out) : jEm xs 1 238 [(2, Int.ofNat o0)] (T, h) ((0, out), (T, h)) := by
  have hd : 0 ≤ 0 := Nat.le_refl _
  obtain ⟨y, ey⟩ : ∃ y : jV × jS, y = ((0, out), (T, h)) := ⟨_, rfl⟩
  rw [← ey]
  have HY : ykIp T h y out := ey
  refine jEm.ent (n := 2) (by decide +kernel) (Nat.le_of_ble_eq_true rfl) ?_
  show jEv xs 0 (238, 0, [(2, Int.ofNat o0), (3, 0)], []) (T, h) y
  unfold M_qHasSquare at H
  refine jEv.blk [(.iconst 0, 1, []), (.istore_n 1, 1, [])] (by decide +kernel) (pc' := 2) (ls' := [(2, Int.ofNat o0), (0, 0)]) (st' := []) rfl ?_
  exact t_M_qHasSquare_L2 (T := T) (xs := xs) (y := y) hd ho0 H HY
def yk_M_qGoesOnTest_L137 (T : jT) (xs : List Int) (d : Nat) (y : jV × jS)  (o0 : Nat) : (jH ⊕ (Int × jH)) → Prop
  | .inl h => jEv xs d (237, 137, [(2, Int.ofNat o0)], []) (T, h) y
  | .inr o => ykI T y o
def yk_M_qGoesOnTest_L87 (T : jT) (xs : List Int) (d : Nat) (y : jV × jS)  (o0 : Nat) : (jH ⊕ (Int × jH)) → Prop
  | .inl h => jEv xs d (237, 87, [(2, Int.ofNat o0)], []) (T, h) y
  | .inr o => ykI T y o
def yk_M_qGoesOnTest_L0 (T : jT) (xs : List Int) (d : Nat) (y : jV × jS)  (o0 : Nat) : (jH ⊕ (Int × jH)) → Prop
  | .inl h => jEv xs d (237, 0, [(2, Int.ofNat o0)], []) (T, h) y
  | .inr o => ykI T y o
def yk_M_qGoesOnTest_L33 (T : jT) (xs : List Int) (d : Nat) (y : jV × jS)  (o0 : Nat) : (jH ⊕ (jH ⊕ (Int × jH))) → Prop
  | .inl h => jEv xs d (237, 33, [(2, Int.ofNat o0)], []) (T, h) y
  | .inr o => yk_M_qGoesOnTest_L0 T xs d y o0 o
set_option maxRecDepth 20000 in
noncomputable def M_qGoesOnTest_p155  (h : jH) (o0 : Nat) : Option (jH ⊕ (Int × jH)) := Option.bind (M_qDrops h o0) (fun b19 => some (.inl (b19)))
set_option maxRecDepth 20000 in
theorem t_M_qGoesOnTest_p155 {T : jT} {xs : List Int} {d : Nat} {y : jV × jS} (hd : 3 ≤ d) {h : jH}  {o0 : Nat} {out : (jH ⊕ (Int × jH))} (ho0 : isX12 T o0) (H : M_qGoesOnTest_p155 h o0 = some out) (HY : yk_M_qGoesOnTest_L137 T xs d y o0 out) : jEv xs d (237, 155, [(2, Int.ofNat o0)], []) (T, h) y := by
  unfold M_qGoesOnTest_p155 at H
  refine jEv.blk [(.aload_n 0, 1, [])] (by decide +kernel) (pc' := 156) (ls' := [(2, Int.ofNat o0)]) (st' := [(2, Int.ofNat o0)]) rfl ?_
  refine jbind H (fun b19 Hb19 H => ?_)
  refine jEv.calV (st' := []) (show jfI 237 156 (.invokevirtual 662) 3 [1, 230, 0, 9003] = true by decide +kernel) rfl (Or.inl rfl) rfl (Nat.le_of_ble_eq_true rfl) (by decide +kernel) (by decide) (isX12_L ho0) ((t_M_qDrops (T := T) (xs := xs) ho0 Hb19).mono (jKle 2 hd)) rfl ?_
  refine jEv.goto (t := 137) (show jfI 237 159 (.goto (-22)) 3 [] = true by decide +kernel) rfl ?_
  exact (by cases H; exact HY)
set_option maxRecDepth 20000 in
noncomputable def M_qGoesOnTest_B137  (h : jH) (o0 : Nat) : Option (jH ⊕ (Int × jH)) := Option.bind (M_qIsOn h o0 10) (fun b14 => (if b14 = 0 then Option.bind (M_qIsOn h o0 11) (fun b16 => (if b16 = 0 then Option.map Sum.inr ((if (0 : Int) ≤ (h o0 101) ∧ ((h o0 101) : Int).toNat < 1700 then some (1, (jup (jup h (o0 + 66) ((h o0 101) : Int).toNat 11) o0 101 (wr (((jup h (o0 + 66) ((h o0 101) : Int).toNat 11) o0 101) + 1)))) else none)) else M_qGoesOnTest_p155 h o0)) else M_qGoesOnTest_p155 h o0))
noncomputable def M_qGoesOnTest_L137  (h : jH) (o0 : Nat) : Option (Int × jH) := jloop (fun s : jH => M_qGoesOnTest_B137 s o0) (h)
set_option maxRecDepth 20000 in
theorem t_M_qGoesOnTest_B137 {T : jT} {xs : List Int} {d : Nat} {y : jV × jS} (hd : 3 ≤ d) {h : jH}  {o0 : Nat} {out : (jH ⊕ (Int × jH))} (ho0 : isX12 T o0) (H : M_qGoesOnTest_B137 h o0 = some out) (HY : yk_M_qGoesOnTest_L137 T xs d y o0 out) : jEv xs d (237, 137, [(2, Int.ofNat o0)], []) (T, h) y := by
  unfold M_qGoesOnTest_B137 at H
  refine jEv.blk [(.aload_n 0, 1, []), (.bipush 10, 2, [])] (by decide +kernel) (pc' := 140) (ls' := [(2, Int.ofNat o0)]) (st' := [(0, 10), (2, Int.ofNat o0)]) rfl ?_
  refine jbind H (fun b14 Hb14 H => ?_)
  refine jEv.calV (st' := [(0, b14)]) (show jfI 237 140 (.invokevirtual 689) 3 [1, 235, 1, 9022] = true by decide +kernel) rfl (Or.inl rfl) rfl (Nat.le_of_ble_eq_true rfl) (by decide +kernel) (by decide) (isX12_L ho0) ((t_M_qIsOn (T := T) (xs := xs) ho0 Hb14).mono (jKle 1 hd)) rfl ?_
  refine jEv.if_ne (t := 155) (show jfI 237 143 (.ifCond .ne 12) 3 [] = true by decide +kernel) rfl H (fun c15 H => ?_) (fun c15 H => ?_)
  · refine jEv.blk [(.aload_n 0, 1, []), (.bipush 11, 2, [])] (by decide +kernel) (pc' := 149) (ls' := [(2, Int.ofNat o0)]) (st' := [(0, 11), (2, Int.ofNat o0)]) rfl ?_
    refine jbind H (fun b16 Hb16 H => ?_)
    refine jEv.calV (st' := [(0, b16)]) (show jfI 237 149 (.invokevirtual 689) 3 [1, 235, 1, 9022] = true by decide +kernel) rfl (Or.inl rfl) rfl (Nat.le_of_ble_eq_true rfl) (by decide +kernel) (by decide) (isX12_L ho0) ((t_M_qIsOn (T := T) (xs := xs) ho0 Hb16).mono (jKle 1 hd)) rfl ?_
    refine jEv.if_eq (t := 162) (show jfI 237 152 (.ifCond .eq 10) 3 [] = true by decide +kernel) rfl H (fun c17 H => ?_) (fun c17 H => ?_)
    · refine jmapr H HY (fun out H (HY : ykI T y out) => ?_)
      refine jEv.blk [(.aload_n 0, 1, [])] (by decide +kernel) (pc' := 163) (ls' := [(2, Int.ofNat o0)]) (st' := [(2, Int.ofNat o0)]) rfl ?_
      refine jEv.gfR (o' := (o0 + 66)) (show jfI 237 163 (.getfield 219) 3 [12, 100, 5, 0, 7136] = true by decide +kernel) (isX12_L ho0) (by decide) (isX12_r100 ho0) ?_
      refine jEv.blk [(.aload_n 0, 1, [])] (by decide +kernel) (pc' := 167) (ls' := [(2, Int.ofNat o0)]) (st' := [(2, Int.ofNat o0), (2, Int.ofNat (o0 + 66))]) rfl ?_
      refine jEv.gfI (show jfI 237 167 (.getfield 297) 3 [12, 101, 0, 0, 7137] = true by decide +kernel) (isX12_L ho0) (by decide) ?_
      refine jEv.blk [(.bipush 11, 2, [])] (by decide +kernel) (pc' := 172) (ls' := [(2, Int.ofNat o0)]) (st' := [(0, 11), (0, (h o0 101)), (2, Int.ofNat (o0 + 66))]) rfl ?_
      refine jEv.ast (Or.inl ⟨rfl, rfl, rfl⟩) (show jfI 237 172 (.iastore) 1 [] = true by decide +kernel) (isX12_a100 ho0) rfl H (fun c18 H => ?_)
      refine jEv.blk [(.aload_n 0, 1, []), (.dup, 1, [])] (by decide +kernel) (pc' := 175) (ls' := [(2, Int.ofNat o0)]) (st' := [(2, Int.ofNat o0), (2, Int.ofNat o0)]) rfl ?_
      refine jEv.gfI (show jfI 237 175 (.getfield 297) 3 [12, 101, 0, 0, 7137] = true by decide +kernel) (isX12_L ho0) (by decide) ?_
      refine jEv.blk [(.iconst 1, 1, []), (.iadd, 1, [])] (by decide +kernel) (pc' := 180) (ls' := [(2, Int.ofNat o0)]) (st' := [(0, (wr (((jup h (o0 + 66) ((h o0 101) : Int).toNat 11) o0 101) + 1))), (2, Int.ofNat o0)]) rfl ?_
      refine jEv.pfI (show jfI 237 180 (.putfield 297) 3 [12, 101, 0, 0, 7137] = true by decide +kernel) (isX12_L ho0) (by decide) ?_
      refine jEv.blk [(.iconst 1, 1, [])] (by decide +kernel) (pc' := 184) (ls' := [(2, Int.ofNat o0)]) (st' := [(0, 1)]) rfl ?_
      exact jEv.retZ (show jfI 237 184 (.ireturn) 1 [] = true by decide +kernel) (by decide +kernel) (by decide) (by cases H; exact HY)
    · exact t_M_qGoesOnTest_p155 (T := T) (xs := xs) (y := y) hd ho0 H HY
  · exact t_M_qGoesOnTest_p155 (T := T) (xs := xs) (y := y) hd ho0 H HY
theorem t_M_qGoesOnTest_L137 {T : jT} {xs : List Int} {d : Nat} {y : jV × jS} (hd : 3 ≤ d) {h : jH}  {o0 : Nat} {out : (Int × jH)} (ho0 : isX12 T o0) (H : M_qGoesOnTest_L137 h o0 = some out) (HY : ykI T y out) : jEv xs d (237, 137, [(2, Int.ofNat o0)], []) (T, h) y :=
  jloop_sound (G := fun s : jH => jEv xs d (237, 137, [(2, Int.ofNat o0)], []) (T, s) y) (K := yk_M_qGoesOnTest_L137 T xs d y o0) (fun s out H HY => t_M_qGoesOnTest_B137 hd ho0 H HY) (fun s' hg => hg) (s := (h)) H HY
set_option maxRecDepth 20000 in
noncomputable def M_qGoesOnTest_B87  (h : jH) (o0 : Nat) : Option (jH ⊕ (Int × jH)) := Option.bind (M_qIsOn h o0 10) (fun b20 => (if b20 = 0 then Option.map Sum.inr ((if (0 : Int) ≤ (h o0 101) ∧ ((h o0 101) : Int).toNat < 1700 then some (1, (jup (jup h (o0 + 66) ((h o0 101) : Int).toNat 10) o0 101 (wr (((jup h (o0 + 66) ((h o0 101) : Int).toNat 10) o0 101) + 1)))) else none)) else Option.bind (M_qDrops h o0) (fun b23 => some (.inl (b23)))))
noncomputable def M_qGoesOnTest_L87  (h : jH) (o0 : Nat) : Option (Int × jH) := jloop (fun s : jH => M_qGoesOnTest_B87 s o0) (h)
set_option maxRecDepth 20000 in
theorem t_M_qGoesOnTest_B87 {T : jT} {xs : List Int} {d : Nat} {y : jV × jS} (hd : 3 ≤ d) {h : jH}  {o0 : Nat} {out : (jH ⊕ (Int × jH))} (ho0 : isX12 T o0) (H : M_qGoesOnTest_B87 h o0 = some out) (HY : yk_M_qGoesOnTest_L87 T xs d y o0 out) : jEv xs d (237, 87, [(2, Int.ofNat o0)], []) (T, h) y := by
  unfold M_qGoesOnTest_B87 at H
  refine jEv.blk [(.aload_n 0, 1, []), (.bipush 10, 2, [])] (by decide +kernel) (pc' := 90) (ls' := [(2, Int.ofNat o0)]) (st' := [(0, 10), (2, Int.ofNat o0)]) rfl ?_
  refine jbind H (fun b20 Hb20 H => ?_)
  refine jEv.calV (st' := [(0, b20)]) (show jfI 237 90 (.invokevirtual 689) 3 [1, 235, 1, 9022] = true by decide +kernel) rfl (Or.inl rfl) rfl (Nat.le_of_ble_eq_true rfl) (by decide +kernel) (by decide) (isX12_L ho0) ((t_M_qIsOn (T := T) (xs := xs) ho0 Hb20).mono (jKle 1 hd)) rfl ?_
  refine jEv.if_eq (t := 103) (show jfI 237 93 (.ifCond .eq 10) 3 [] = true by decide +kernel) rfl H (fun c21 H => ?_) (fun c21 H => ?_)
  · refine jmapr H HY (fun out H (HY : ykI T y out) => ?_)
    refine jEv.blk [(.aload_n 0, 1, [])] (by decide +kernel) (pc' := 104) (ls' := [(2, Int.ofNat o0)]) (st' := [(2, Int.ofNat o0)]) rfl ?_
    refine jEv.gfR (o' := (o0 + 66)) (show jfI 237 104 (.getfield 219) 3 [12, 100, 5, 0, 7136] = true by decide +kernel) (isX12_L ho0) (by decide) (isX12_r100 ho0) ?_
    refine jEv.blk [(.aload_n 0, 1, [])] (by decide +kernel) (pc' := 108) (ls' := [(2, Int.ofNat o0)]) (st' := [(2, Int.ofNat o0), (2, Int.ofNat (o0 + 66))]) rfl ?_
    refine jEv.gfI (show jfI 237 108 (.getfield 297) 3 [12, 101, 0, 0, 7137] = true by decide +kernel) (isX12_L ho0) (by decide) ?_
    refine jEv.blk [(.bipush 10, 2, [])] (by decide +kernel) (pc' := 113) (ls' := [(2, Int.ofNat o0)]) (st' := [(0, 10), (0, (h o0 101)), (2, Int.ofNat (o0 + 66))]) rfl ?_
    refine jEv.ast (Or.inl ⟨rfl, rfl, rfl⟩) (show jfI 237 113 (.iastore) 1 [] = true by decide +kernel) (isX12_a100 ho0) rfl H (fun c22 H => ?_)
    refine jEv.blk [(.aload_n 0, 1, []), (.dup, 1, [])] (by decide +kernel) (pc' := 116) (ls' := [(2, Int.ofNat o0)]) (st' := [(2, Int.ofNat o0), (2, Int.ofNat o0)]) rfl ?_
    refine jEv.gfI (show jfI 237 116 (.getfield 297) 3 [12, 101, 0, 0, 7137] = true by decide +kernel) (isX12_L ho0) (by decide) ?_
    refine jEv.blk [(.iconst 1, 1, []), (.iadd, 1, [])] (by decide +kernel) (pc' := 121) (ls' := [(2, Int.ofNat o0)]) (st' := [(0, (wr (((jup h (o0 + 66) ((h o0 101) : Int).toNat 10) o0 101) + 1))), (2, Int.ofNat o0)]) rfl ?_
    refine jEv.pfI (show jfI 237 121 (.putfield 297) 3 [12, 101, 0, 0, 7137] = true by decide +kernel) (isX12_L ho0) (by decide) ?_
    refine jEv.blk [(.iconst 1, 1, [])] (by decide +kernel) (pc' := 125) (ls' := [(2, Int.ofNat o0)]) (st' := [(0, 1)]) rfl ?_
    exact jEv.retZ (show jfI 237 125 (.ireturn) 1 [] = true by decide +kernel) (by decide +kernel) (by decide) (by cases H; exact HY)
  · refine jEv.blk [(.aload_n 0, 1, [])] (by decide +kernel) (pc' := 97) (ls' := [(2, Int.ofNat o0)]) (st' := [(2, Int.ofNat o0)]) rfl ?_
    refine jbind H (fun b23 Hb23 H => ?_)
    refine jEv.calV (st' := []) (show jfI 237 97 (.invokevirtual 662) 3 [1, 230, 0, 9003] = true by decide +kernel) rfl (Or.inl rfl) rfl (Nat.le_of_ble_eq_true rfl) (by decide +kernel) (by decide) (isX12_L ho0) ((t_M_qDrops (T := T) (xs := xs) ho0 Hb23).mono (jKle 2 hd)) rfl ?_
    refine jEv.goto (t := 87) (show jfI 237 100 (.goto (-13)) 3 [] = true by decide +kernel) rfl ?_
    exact (by cases H; exact HY)
theorem t_M_qGoesOnTest_L87 {T : jT} {xs : List Int} {d : Nat} {y : jV × jS} (hd : 3 ≤ d) {h : jH}  {o0 : Nat} {out : (Int × jH)} (ho0 : isX12 T o0) (H : M_qGoesOnTest_L87 h o0 = some out) (HY : ykI T y out) : jEv xs d (237, 87, [(2, Int.ofNat o0)], []) (T, h) y :=
  jloop_sound (G := fun s : jH => jEv xs d (237, 87, [(2, Int.ofNat o0)], []) (T, s) y) (K := yk_M_qGoesOnTest_L87 T xs d y o0) (fun s out H HY => t_M_qGoesOnTest_B87 hd ho0 H HY) (fun s' hg => hg) (s := (h)) H HY
set_option maxRecDepth 20000 in
noncomputable def M_qGoesOnTest_p76  (h : jH) (o0 : Nat) : Option (Int × jH) := Option.bind (M_takes h o0 (o0 + 50) 3) (fun b6 => (if b6.1 = 0 then Option.bind (M_takes b6.2 o0 (o0 + 51) 2) (fun b8 => (if b8.1 = 0 then (if (b8.2 o0 5) = 0 then Option.bind (M_qHasSquare b8.2 o0) (fun b11 => (if b11 = 0 then some (0, b8.2) else Option.bind (M_fail b8.2 o0 1 (b8.2 o0 2)) (fun b13 => some (0, b13)))) else some (0, b8.2)) else M_qGoesOnTest_L137 b8.2 o0)) else M_qGoesOnTest_L87 b6.2 o0))
set_option maxRecDepth 20000 in
theorem t_M_qGoesOnTest_p76 {T : jT} {xs : List Int} {d : Nat} {y : jV × jS} (hd : 3 ≤ d) {h : jH}  {o0 : Nat} {out : (Int × jH)} (ho0 : isX12 T o0) (H : M_qGoesOnTest_p76 h o0 = some out) (HY : ykI T y out) : jEv xs d (237, 76, [(2, Int.ofNat o0)], []) (T, h) y := by
  unfold M_qGoesOnTest_p76 at H
  refine jEv.blk [(.aload_n 0, 1, []), (.aload_n 0, 1, [])] (by decide +kernel) (pc' := 78) (ls' := [(2, Int.ofNat o0)]) (st' := [(2, Int.ofNat o0), (2, Int.ofNat o0)]) rfl ?_
  refine jEv.gfR (o' := (o0 + 50)) (show jfI 237 78 (.getfield 171) 3 [12, 83, 5, 0, 7119] = true by decide +kernel) (isX12_L ho0) (by decide) (isX12_r83 ho0) ?_
  refine jbind H (fun b6 Hb6 H => ?_)
  refine jEv.calV (st' := [(0, b6.1)]) (show jfI 237 81 (.invokevirtual 259) 3 [1, 206, 1, 8150] = true by decide +kernel) rfl (Or.inl rfl) rfl (Nat.le_of_ble_eq_true rfl) (by decide +kernel) (by decide) (isX12_L ho0) ((t_M_takes (T := T) (xs := xs) ho0 (isX12_a83 ho0) Hb6).mono (jKle 3 hd)) rfl ?_
  refine jEv.if_eq (t := 126) (show jfI 237 84 (.ifCond .eq 42) 3 [] = true by decide +kernel) rfl H (fun c7 H => ?_) (fun c7 H => ?_)
  · refine jEv.blk [(.aload_n 0, 1, []), (.aload_n 0, 1, [])] (by decide +kernel) (pc' := 128) (ls' := [(2, Int.ofNat o0)]) (st' := [(2, Int.ofNat o0), (2, Int.ofNat o0)]) rfl ?_
    refine jEv.gfR (o' := (o0 + 51)) (show jfI 237 128 (.getfield 174) 3 [12, 84, 5, 0, 7120] = true by decide +kernel) (isX12_L ho0) (by decide) (isX12_r84 ho0) ?_
    refine jbind H (fun b8 Hb8 H => ?_)
    refine jEv.calV (st' := [(0, b8.1)]) (show jfI 237 131 (.invokevirtual 259) 3 [1, 206, 1, 8150] = true by decide +kernel) rfl (Or.inl rfl) rfl (Nat.le_of_ble_eq_true rfl) (by decide +kernel) (by decide) (isX12_L ho0) ((t_M_takes (T := T) (xs := xs) ho0 (isX12_a84 ho0) Hb8).mono (jKle 3 hd)) rfl ?_
    refine jEv.if_eq (t := 185) (show jfI 237 134 (.ifCond .eq 51) 3 [] = true by decide +kernel) rfl H (fun c9 H => ?_) (fun c9 H => ?_)
    · refine jEv.blk [(.aload_n 0, 1, [])] (by decide +kernel) (pc' := 186) (ls' := [(2, Int.ofNat o0)]) (st' := [(2, Int.ofNat o0)]) rfl ?_
      refine jEv.gfI (show jfI 237 186 (.getfield 232) 3 [12, 5, 0, 0, 7041] = true by decide +kernel) (isX12_L ho0) (by decide) ?_
      refine jEv.if_ne (t := 208) (show jfI 237 189 (.ifCond .ne 19) 3 [] = true by decide +kernel) rfl H (fun c10 H => ?_) (fun c10 H => ?_)
      · refine jEv.blk [(.aload_n 0, 1, [])] (by decide +kernel) (pc' := 193) (ls' := [(2, Int.ofNat o0)]) (st' := [(2, Int.ofNat o0)]) rfl ?_
        refine jbind H (fun b11 Hb11 H => ?_)
        refine jEv.calV (st' := [(0, b11)]) (show jfI 237 193 (.invokevirtual 707) 3 [1, 238, 0, 9034] = true by decide +kernel) rfl (Or.inl rfl) rfl (Nat.le_of_ble_eq_true rfl) (by decide +kernel) (by decide) (isX12_L ho0) ((t_M_qHasSquare (T := T) (xs := xs) ho0 Hb11).mono (jKle 1 hd)) rfl ?_
        refine jEv.if_eq (t := 208) (show jfI 237 196 (.ifCond .eq 12) 3 [] = true by decide +kernel) rfl H (fun c12 H => ?_) (fun c12 H => ?_)
        · refine jEv.blk [(.iconst 0, 1, [])] (by decide +kernel) (pc' := 209) (ls' := [(2, Int.ofNat o0)]) (st' := [(0, 0)]) rfl ?_
          exact jEv.retZ (show jfI 237 209 (.ireturn) 1 [] = true by decide +kernel) (by decide +kernel) (by decide) (by cases H; exact HY)
        · refine jEv.blk [(.aload_n 0, 1, []), (.iconst 1, 1, []), (.aload_n 0, 1, [])] (by decide +kernel) (pc' := 202) (ls' := [(2, Int.ofNat o0)]) (st' := [(2, Int.ofNat o0), (0, 1), (2, Int.ofNat o0)]) rfl ?_
          refine jEv.gfI (show jfI 237 202 (.getfield 238) 3 [12, 2, 0, 0, 7038] = true by decide +kernel) (isX12_L ho0) (by decide) ?_
          refine jbind H (fun b13 Hb13 H => ?_)
          refine jEv.calV (st' := []) (show jfI 237 205 (.invokevirtual 262) 3 [1, 210, 2, 8165] = true by decide +kernel) rfl (Or.inl rfl) rfl (Nat.le_of_ble_eq_true rfl) (by decide +kernel) (by decide) (isX12_L ho0) ((t_M_fail (T := T) (xs := xs) ho0 Hb13).mono (jKle 1 hd)) rfl ?_
          refine jEv.blk [(.iconst 0, 1, [])] (by decide +kernel) (pc' := 209) (ls' := [(2, Int.ofNat o0)]) (st' := [(0, 0)]) rfl ?_
          exact jEv.retZ (show jfI 237 209 (.ireturn) 1 [] = true by decide +kernel) (by decide +kernel) (by decide) (by cases H; exact HY)
      · refine jEv.blk [(.iconst 0, 1, [])] (by decide +kernel) (pc' := 209) (ls' := [(2, Int.ofNat o0)]) (st' := [(0, 0)]) rfl ?_
        exact jEv.retZ (show jfI 237 209 (.ireturn) 1 [] = true by decide +kernel) (by decide +kernel) (by decide) (by cases H; exact HY)
    · exact t_M_qGoesOnTest_L137 (T := T) (xs := xs) (y := y) hd ho0 H HY
  · exact t_M_qGoesOnTest_L87 (T := T) (xs := xs) (y := y) hd ho0 H HY
set_option maxRecDepth 20000 in
noncomputable def M_qGoesOnTest_B33  (h : jH) (o0 : Nat) : Option (jH ⊕ (jH ⊕ (Int × jH))) := Option.bind (M_qIsOn h o0 25) (fun b24 => (if b24 = 0 then Option.bind (M_qDrops h o0) (fun b26 => some (.inl (b26))) else Option.map Sum.inr (Option.bind (M_qDropsNots (jup (jup h o0 101 (wr ((h o0 101) - 1))) o0 102 (wr (((jup h o0 101 (wr ((h o0 101) - 1))) o0 102) - 1))) o0) (fun b27 => some (.inl (b27))))))
noncomputable def M_qGoesOnTest_L33  (h : jH) (o0 : Nat) : Option (jH ⊕ (Int × jH)) := jloop (fun s : jH => M_qGoesOnTest_B33 s o0) (h)
set_option maxRecDepth 20000 in
theorem t_M_qGoesOnTest_B33 {T : jT} {xs : List Int} {d : Nat} {y : jV × jS} (hd : 3 ≤ d) {h : jH}  {o0 : Nat} {out : (jH ⊕ (jH ⊕ (Int × jH)))} (ho0 : isX12 T o0) (H : M_qGoesOnTest_B33 h o0 = some out) (HY : yk_M_qGoesOnTest_L33 T xs d y o0 out) : jEv xs d (237, 33, [(2, Int.ofNat o0)], []) (T, h) y := by
  unfold M_qGoesOnTest_B33 at H
  refine jEv.blk [(.aload_n 0, 1, []), (.bipush 25, 2, [])] (by decide +kernel) (pc' := 36) (ls' := [(2, Int.ofNat o0)]) (st' := [(0, 25), (2, Int.ofNat o0)]) rfl ?_
  refine jbind H (fun b24 Hb24 H => ?_)
  refine jEv.calV (st' := [(0, b24)]) (show jfI 237 36 (.invokevirtual 689) 3 [1, 235, 1, 9022] = true by decide +kernel) rfl (Or.inl rfl) rfl (Nat.le_of_ble_eq_true rfl) (by decide +kernel) (by decide) (isX12_L ho0) ((t_M_qIsOn (T := T) (xs := xs) ho0 Hb24).mono (jKle 1 hd)) rfl ?_
  refine jEv.if_ne (t := 49) (show jfI 237 39 (.ifCond .ne 10) 3 [] = true by decide +kernel) rfl H (fun c25 H => ?_) (fun c25 H => ?_)
  · refine jEv.blk [(.aload_n 0, 1, [])] (by decide +kernel) (pc' := 43) (ls' := [(2, Int.ofNat o0)]) (st' := [(2, Int.ofNat o0)]) rfl ?_
    refine jbind H (fun b26 Hb26 H => ?_)
    refine jEv.calV (st' := []) (show jfI 237 43 (.invokevirtual 662) 3 [1, 230, 0, 9003] = true by decide +kernel) rfl (Or.inl rfl) rfl (Nat.le_of_ble_eq_true rfl) (by decide +kernel) (by decide) (isX12_L ho0) ((t_M_qDrops (T := T) (xs := xs) ho0 Hb26).mono (jKle 2 hd)) rfl ?_
    refine jEv.goto (t := 33) (show jfI 237 46 (.goto (-13)) 3 [] = true by decide +kernel) rfl ?_
    exact (by cases H; exact HY)
  · refine jmapr H HY (fun out H (HY : yk_M_qGoesOnTest_L0 T xs d y o0 out) => ?_)
    refine jEv.blk [(.aload_n 0, 1, []), (.dup, 1, [])] (by decide +kernel) (pc' := 51) (ls' := [(2, Int.ofNat o0)]) (st' := [(2, Int.ofNat o0), (2, Int.ofNat o0)]) rfl ?_
    refine jEv.gfI (show jfI 237 51 (.getfield 297) 3 [12, 101, 0, 0, 7137] = true by decide +kernel) (isX12_L ho0) (by decide) ?_
    refine jEv.blk [(.iconst 1, 1, []), (.isub, 1, [])] (by decide +kernel) (pc' := 56) (ls' := [(2, Int.ofNat o0)]) (st' := [(0, (wr ((h o0 101) - 1))), (2, Int.ofNat o0)]) rfl ?_
    refine jEv.pfI (show jfI 237 56 (.putfield 297) 3 [12, 101, 0, 0, 7137] = true by decide +kernel) (isX12_L ho0) (by decide) ?_
    refine jEv.blk [(.aload_n 0, 1, []), (.dup, 1, [])] (by decide +kernel) (pc' := 61) (ls' := [(2, Int.ofNat o0)]) (st' := [(2, Int.ofNat o0), (2, Int.ofNat o0)]) rfl ?_
    refine jEv.gfI (show jfI 237 61 (.getfield 300) 3 [12, 102, 0, 0, 7138] = true by decide +kernel) (isX12_L ho0) (by decide) ?_
    refine jEv.blk [(.iconst 1, 1, []), (.isub, 1, [])] (by decide +kernel) (pc' := 66) (ls' := [(2, Int.ofNat o0)]) (st' := [(0, (wr (((jup h o0 101 (wr ((h o0 101) - 1))) o0 102) - 1))), (2, Int.ofNat o0)]) rfl ?_
    refine jEv.pfI (show jfI 237 66 (.putfield 300) 3 [12, 102, 0, 0, 7138] = true by decide +kernel) (isX12_L ho0) (by decide) ?_
    refine jEv.blk [(.aload_n 0, 1, [])] (by decide +kernel) (pc' := 70) (ls' := [(2, Int.ofNat o0)]) (st' := [(2, Int.ofNat o0)]) rfl ?_
    refine jbind H (fun b27 Hb27 H => ?_)
    refine jEv.calV (st' := []) (show jfI 237 70 (.invokevirtual 701) 3 [1, 236, 0, 9026] = true by decide +kernel) rfl (Or.inl rfl) rfl (Nat.le_of_ble_eq_true rfl) (by decide +kernel) (by decide) (isX12_L ho0) ((t_M_qDropsNots (T := T) (xs := xs) ho0 Hb27).mono (jKle 3 hd)) rfl ?_
    refine jEv.goto (t := 0) (show jfI 237 73 (.goto (-73)) 3 [] = true by decide +kernel) rfl ?_
    exact (by cases H; exact HY)
theorem t_M_qGoesOnTest_L33 {T : jT} {xs : List Int} {d : Nat} {y : jV × jS} (hd : 3 ≤ d) {h : jH}  {o0 : Nat} {out : (jH ⊕ (Int × jH))} (ho0 : isX12 T o0) (H : M_qGoesOnTest_L33 h o0 = some out) (HY : yk_M_qGoesOnTest_L0 T xs d y o0 out) : jEv xs d (237, 33, [(2, Int.ofNat o0)], []) (T, h) y :=
  jloop_sound (G := fun s : jH => jEv xs d (237, 33, [(2, Int.ofNat o0)], []) (T, s) y) (K := yk_M_qGoesOnTest_L33 T xs d y o0) (fun s out H HY => t_M_qGoesOnTest_B33 hd ho0 H HY) (fun s' hg => hg) (s := (h)) H HY
set_option maxRecDepth 20000 in
noncomputable def M_qGoesOnTest_B0  (h : jH) (o0 : Nat) : Option (jH ⊕ (Int × jH)) := (if (h o0 5) = 0 then Option.bind (M_look h o0) (fun b2 => (if b2.1 = 93 then Option.bind (M_qHasSquare b2.2 o0) (fun b4 => (if b4 = 0 then Option.map Sum.inr (M_qGoesOnTest_p76 b2.2 o0) else M_qGoesOnTest_L33 (jup b2.2 o0 2 (wr ((b2.2 o0 2) + 1))) o0)) else Option.map Sum.inr (M_qGoesOnTest_p76 b2.2 o0))) else Option.map Sum.inr (M_qGoesOnTest_p76 h o0))
noncomputable def M_qGoesOnTest_L0  (h : jH) (o0 : Nat) : Option (Int × jH) := jloop (fun s : jH => M_qGoesOnTest_B0 s o0) (h)
set_option maxRecDepth 20000 in
theorem t_M_qGoesOnTest_B0 {T : jT} {xs : List Int} {d : Nat} {y : jV × jS} (hd : 3 ≤ d) {h : jH}  {o0 : Nat} {out : (jH ⊕ (Int × jH))} (ho0 : isX12 T o0) (H : M_qGoesOnTest_B0 h o0 = some out) (HY : yk_M_qGoesOnTest_L0 T xs d y o0 out) : jEv xs d (237, 0, [(2, Int.ofNat o0)], []) (T, h) y := by
  unfold M_qGoesOnTest_B0 at H
  refine jEv.blk [(.aload_n 0, 1, [])] (by decide +kernel) (pc' := 1) (ls' := [(2, Int.ofNat o0)]) (st' := [(2, Int.ofNat o0)]) rfl ?_
  refine jEv.gfI (show jfI 237 1 (.getfield 232) 3 [12, 5, 0, 0, 7041] = true by decide +kernel) (isX12_L ho0) (by decide) ?_
  refine jEv.if_ne (t := 76) (show jfI 237 4 (.ifCond .ne 72) 3 [] = true by decide +kernel) rfl H (fun c1 H => ?_) (fun c1 H => ?_)
  · refine jEv.blk [(.aload_n 0, 1, [])] (by decide +kernel) (pc' := 8) (ls' := [(2, Int.ofNat o0)]) (st' := [(2, Int.ofNat o0)]) rfl ?_
    refine jbind H (fun b2 Hb2 H => ?_)
    refine jEv.calV (st' := [(0, b2.1)]) (show jfI 237 8 (.invokevirtual 244) 3 [1, 208, 0, 8158] = true by decide +kernel) rfl (Or.inl rfl) rfl (Nat.le_of_ble_eq_true rfl) (by decide +kernel) (by decide) (isX12_L ho0) ((t_M_look (T := T) (xs := xs) ho0 Hb2).mono (jKle 1 hd)) rfl ?_
    refine jEv.blk [(.bipush 93, 2, [])] (by decide +kernel) (pc' := 13) (ls' := [(2, Int.ofNat o0)]) (st' := [(0, 93), (0, b2.1)]) rfl ?_
    refine jEv.ic_ne (t := 76) (show jfI 237 13 (.if_icmp .ne 63) 3 [] = true by decide +kernel) rfl H (fun c3 H => ?_) (fun c3 H => ?_)
    · refine jEv.blk [(.aload_n 0, 1, [])] (by decide +kernel) (pc' := 17) (ls' := [(2, Int.ofNat o0)]) (st' := [(2, Int.ofNat o0)]) rfl ?_
      refine jbind H (fun b4 Hb4 H => ?_)
      refine jEv.calV (st' := [(0, b4)]) (show jfI 237 17 (.invokevirtual 707) 3 [1, 238, 0, 9034] = true by decide +kernel) rfl (Or.inl rfl) rfl (Nat.le_of_ble_eq_true rfl) (by decide +kernel) (by decide) (isX12_L ho0) ((t_M_qHasSquare (T := T) (xs := xs) ho0 Hb4).mono (jKle 1 hd)) rfl ?_
      refine jEv.if_eq (t := 76) (show jfI 237 20 (.ifCond .eq 56) 3 [] = true by decide +kernel) rfl H (fun c5 H => ?_) (fun c5 H => ?_)
      · refine jmapr H HY (fun out H (HY : ykI T y out) => ?_)
        exact t_M_qGoesOnTest_p76 (T := T) (xs := xs) (y := y) hd ho0 H HY
      · refine jEv.blk [(.aload_n 0, 1, []), (.dup, 1, [])] (by decide +kernel) (pc' := 25) (ls' := [(2, Int.ofNat o0)]) (st' := [(2, Int.ofNat o0), (2, Int.ofNat o0)]) rfl ?_
        refine jEv.gfI (show jfI 237 25 (.getfield 238) 3 [12, 2, 0, 0, 7038] = true by decide +kernel) (isX12_L ho0) (by decide) ?_
        refine jEv.blk [(.iconst 1, 1, []), (.iadd, 1, [])] (by decide +kernel) (pc' := 30) (ls' := [(2, Int.ofNat o0)]) (st' := [(0, (wr ((b2.2 o0 2) + 1))), (2, Int.ofNat o0)]) rfl ?_
        refine jEv.pfI (show jfI 237 30 (.putfield 238) 3 [12, 2, 0, 0, 7038] = true by decide +kernel) (isX12_L ho0) (by decide) ?_
        exact t_M_qGoesOnTest_L33 (T := T) (xs := xs) (y := y) hd ho0 H HY
    · refine jmapr H HY (fun out H (HY : ykI T y out) => ?_)
      exact t_M_qGoesOnTest_p76 (T := T) (xs := xs) (y := y) hd ho0 H HY
  · refine jmapr H HY (fun out H (HY : ykI T y out) => ?_)
    exact t_M_qGoesOnTest_p76 (T := T) (xs := xs) (y := y) hd ho0 H HY
theorem t_M_qGoesOnTest_L0 {T : jT} {xs : List Int} {d : Nat} {y : jV × jS} (hd : 3 ≤ d) {h : jH}  {o0 : Nat} {out : (Int × jH)} (ho0 : isX12 T o0) (H : M_qGoesOnTest_L0 h o0 = some out) (HY : ykI T y out) : jEv xs d (237, 0, [(2, Int.ofNat o0)], []) (T, h) y :=
  jloop_sound (G := fun s : jH => jEv xs d (237, 0, [(2, Int.ofNat o0)], []) (T, s) y) (K := yk_M_qGoesOnTest_L0 T xs d y o0) (fun s out H HY => t_M_qGoesOnTest_B0 hd ho0 H HY) (fun s' hg => hg) (s := (h)) H HY
set_option maxRecDepth 20000 in
noncomputable def M_qGoesOnTest  (h : jH) (o0 : Nat) : Option (Int × jH) := M_qGoesOnTest_L0 h o0
set_option maxRecDepth 20000 in
theorem t_M_qGoesOnTest {T : jT} {xs : List Int} {h : jH}  {o0 : Nat} {out : (Int × jH)} (ho0 : isX12 T o0) (H : M_qGoesOnTest h o0 = some out) : jEm xs 4 237 [(2, Int.ofNat o0)] (T, h) ((0, out.1), (T, out.2)) := by
  have hd : 3 ≤ 3 := Nat.le_refl _
  obtain ⟨y, ey⟩ : ∃ y : jV × jS, y = ((0, out.1), (T, out.2)) := ⟨_, rfl⟩
  rw [← ey]
  have HY : ykI T y out := ey
  refine jEm.ent (n := 1) (by decide +kernel) (Nat.le_of_ble_eq_true rfl) ?_
  show jEv xs 3 (237, 0, [(2, Int.ofNat o0)], []) (T, h) y
  unfold M_qGoesOnTest at H
  exact t_M_qGoesOnTest_L0 (T := T) (xs := xs) (y := y) hd ho0 H HY
def yk_M_qTest_L110 (T : jT) (xs : List Int) (d : Nat) (y : jV × jS)  (o0 : Nat) : (jH ⊕ jH) → Prop
  | .inl h => jEv xs d (219, 110, [(2, Int.ofNat o0), (3, 0), (3, 0)], []) (T, h) y
  | .inr o => ykV T y o
def yk_M_qTest_L2 (T : jT) (xs : List Int) (d : Nat) (y : jV × jS)  (o0 : Nat) : ((Int × jH) ⊕ jH) → Prop
  | .inl (v1, h) => jEv xs d (219, 2, [(2, Int.ofNat o0), (0, v1), (3, 0)], []) (T, h) y
  | .inr o => ykV T y o
set_option maxRecDepth 20000 in
noncomputable def M_qTest_B110  (h : jH) (o0 : Nat) : Option (jH ⊕ jH) := (if (h o0 5) = 0 then (if 0 < (h o0 101) then Option.bind (M_qDrops h o0) (fun b17 => some (.inl (b17))) else Option.map Sum.inr (some h)) else Option.map Sum.inr (some h))
noncomputable def M_qTest_L110  (h : jH) (o0 : Nat) : Option jH := jloop (fun s : jH => M_qTest_B110 s o0) (h)
set_option maxRecDepth 20000 in
theorem t_M_qTest_B110 {T : jT} {xs : List Int} {d : Nat} {y : jV × jS} (hd : 8 ≤ d) {h : jH}  {o0 : Nat} {out : (jH ⊕ jH)} (ho0 : isX12 T o0) (H : M_qTest_B110 h o0 = some out) (HY : yk_M_qTest_L110 T xs d y o0 out) : jEv xs d (219, 110, [(2, Int.ofNat o0), (3, 0), (3, 0)], []) (T, h) y := by
  unfold M_qTest_B110 at H
  refine jEv.blk [(.aload_n 0, 1, [])] (by decide +kernel) (pc' := 111) (ls' := [(2, Int.ofNat o0), (3, 0), (3, 0)]) (st' := [(2, Int.ofNat o0)]) rfl ?_
  refine jEv.gfI (show jfI 219 111 (.getfield 232) 3 [12, 5, 0, 0, 7041] = true by decide +kernel) (isX12_L ho0) (by decide) ?_
  refine jEv.if_ne (t := 131) (show jfI 219 114 (.ifCond .ne 17) 3 [] = true by decide +kernel) rfl H (fun c15 H => ?_) (fun c15 H => ?_)
  · refine jEv.blk [(.aload_n 0, 1, [])] (by decide +kernel) (pc' := 118) (ls' := [(2, Int.ofNat o0), (3, 0), (3, 0)]) (st' := [(2, Int.ofNat o0)]) rfl ?_
    refine jEv.gfI (show jfI 219 118 (.getfield 297) 3 [12, 101, 0, 0, 7137] = true by decide +kernel) (isX12_L ho0) (by decide) ?_
    refine jEv.if_le (t := 131) (show jfI 219 121 (.ifCond .le 10) 3 [] = true by decide +kernel) rfl H (fun c16 H => ?_) (fun c16 H => ?_)
    · refine jEv.blk [(.aload_n 0, 1, [])] (by decide +kernel) (pc' := 125) (ls' := [(2, Int.ofNat o0), (3, 0), (3, 0)]) (st' := [(2, Int.ofNat o0)]) rfl ?_
      refine jbind H (fun b17 Hb17 H => ?_)
      refine jEv.calV (st' := []) (show jfI 219 125 (.invokevirtual 662) 3 [1, 230, 0, 9003] = true by decide +kernel) rfl (Or.inl rfl) rfl (Nat.le_of_ble_eq_true rfl) (by decide +kernel) (by decide) (isX12_L ho0) ((t_M_qDrops (T := T) (xs := xs) ho0 Hb17).mono (jKle 2 hd)) rfl ?_
      refine jEv.goto (t := 110) (show jfI 219 128 (.goto (-18)) 3 [] = true by decide +kernel) rfl ?_
      exact (by cases H; exact HY)
    · refine jmapr H HY (fun out H (HY : ykV T y out) => ?_)
      exact jEv.retV (show jfI 219 131 (.return_) 1 [] = true by decide +kernel) (by decide +kernel) (by cases H; exact HY)
  · refine jmapr H HY (fun out H (HY : ykV T y out) => ?_)
    exact jEv.retV (show jfI 219 131 (.return_) 1 [] = true by decide +kernel) (by decide +kernel) (by cases H; exact HY)
theorem t_M_qTest_L110 {T : jT} {xs : List Int} {d : Nat} {y : jV × jS} (hd : 8 ≤ d) {h : jH}  {o0 : Nat} {out : jH} (ho0 : isX12 T o0) (H : M_qTest_L110 h o0 = some out) (HY : ykV T y out) : jEv xs d (219, 110, [(2, Int.ofNat o0), (3, 0), (3, 0)], []) (T, h) y :=
  jloop_sound (G := fun s : jH => jEv xs d (219, 110, [(2, Int.ofNat o0), (3, 0), (3, 0)], []) (T, s) y) (K := yk_M_qTest_L110 T xs d y o0) (fun s out H HY => t_M_qTest_B110 hd ho0 H HY) (fun s' hg => hg) (s := (h)) H HY
set_option maxRecDepth 20000 in
noncomputable def M_qTest_p105  (h : jH) (o0 : Nat) : Option ((Int × jH) ⊕ jH) := some (.inl (0, h))
set_option maxRecDepth 20000 in
theorem t_M_qTest_p105 {T : jT} {xs : List Int} {d : Nat} {y : jV × jS} (hd : 8 ≤ d) {h : jH}  {o0 : Nat} {out : ((Int × jH) ⊕ jH)} (ho0 : isX12 T o0) (H : M_qTest_p105 h o0 = some out) (HY : yk_M_qTest_L2 T xs d y o0 out) : jEv xs d (219, 105, [(2, Int.ofNat o0), (3, 0), (3, 0)], []) (T, h) y := by
  unfold M_qTest_p105 at H
  refine jEv.blk [(.iconst 0, 1, [])] (by decide +kernel) (pc' := 106) (ls' := [(2, Int.ofNat o0), (3, 0), (3, 0)]) (st' := [(0, 0)]) rfl ?_
  refine jEv.blk [(.istore_n 1, 1, [])] (by decide +kernel) (pc' := 107) (ls' := [(2, Int.ofNat o0), (0, 0), (3, 0)]) (st' := []) rfl ?_
  refine jEv.goto (t := 2) (show jfI 219 107 (.goto (-105)) 3 [] = true by decide +kernel) rfl ?_
  exact (by cases H; exact HY)
set_option maxRecDepth 20000 in
noncomputable def M_qTest_B2  (h : jH) (o0 : Nat) (v1 : Int) : Option ((Int × jH) ⊕ jH) := (if v1 = 0 then Option.map Sum.inr (M_qTest_L110 h o0) else (if (h o0 5) = 0 then Option.bind (M_look h o0) (fun b3 => (if b3.1 = 91 then Option.bind (M_qOpens b3.2 o0 25 (b3.2 o0 2)) (fun b5 => some (.inl (v1, (jup b5 o0 2 (wr ((b5 o0 2) + 1)))))) else Option.bind (M_isHere b3.2 o0 (o0 + 49) 3) (fun b6 => (if b6.1 = 0 then Option.bind (M_qFact b6.2 o0) (fun b8 => Option.bind (M_qDropsNots b8 o0) (fun b9 => (if (b9 o0 5) = 0 then Option.bind (M_qGoesOnTest b9 o0) (fun b11 => (if b11.1 = 0 then M_qTest_p105 b11.2 o0 else some (.inl (1, b11.2)))) else M_qTest_p105 b9 o0))) else Option.bind (M_qOpens b6.2 o0 12 (b6.2 o0 2)) (fun b13 => Option.bind (M_asks b13 o0 (o0 + 49) 3) (fun b14 => some (.inl (v1, b14)))))))) else Option.map Sum.inr (M_qTest_L110 h o0)))
noncomputable def M_qTest_L2  (h : jH) (o0 : Nat) (v1 : Int) : Option jH := jloop (fun s : (Int × jH) => M_qTest_B2 s.2 o0 s.1) (v1, h)
set_option maxRecDepth 20000 in
theorem t_M_qTest_B2 {T : jT} {xs : List Int} {d : Nat} {y : jV × jS} (hd : 8 ≤ d) {h : jH}  {o0 : Nat} {v1 : Int} {out : ((Int × jH) ⊕ jH)} (ho0 : isX12 T o0) (H : M_qTest_B2 h o0 v1 = some out) (HY : yk_M_qTest_L2 T xs d y o0 out) : jEv xs d (219, 2, [(2, Int.ofNat o0), (0, v1), (3, 0)], []) (T, h) y := by
  unfold M_qTest_B2 at H
  refine jEv.blk [(.iload_n 1, 1, [])] (by decide +kernel) (pc' := 3) (ls' := [(2, Int.ofNat o0), (0, v1), (3, 0)]) (st' := [(0, v1)]) rfl ?_
  refine jEv.if_eq (t := 110) (show jfI 219 3 (.ifCond .eq 107) 3 [] = true by decide +kernel) rfl H (fun c1 H => ?_) (fun c1 H => ?_)
  · refine jmapr H HY (fun out H (HY : ykV T y out) => ?_)
    exact jEv.weak (a := [(2, Int.ofNat o0), (3, 0), (3, 0)]) (jles.c1 (jles.c0 (jles.c0 jles.nl))) (t_M_qTest_L110 (T := T) (xs := xs) (y := y) hd ho0 H HY)
  · refine jEv.blk [(.aload_n 0, 1, [])] (by decide +kernel) (pc' := 7) (ls' := [(2, Int.ofNat o0), (0, v1), (3, 0)]) (st' := [(2, Int.ofNat o0)]) rfl ?_
    refine jEv.gfI (show jfI 219 7 (.getfield 232) 3 [12, 5, 0, 0, 7041] = true by decide +kernel) (isX12_L ho0) (by decide) ?_
    refine jEv.if_ne (t := 110) (show jfI 219 10 (.ifCond .ne 100) 3 [] = true by decide +kernel) rfl H (fun c2 H => ?_) (fun c2 H => ?_)
    · refine jEv.blk [(.aload_n 0, 1, [])] (by decide +kernel) (pc' := 14) (ls' := [(2, Int.ofNat o0), (0, v1), (3, 0)]) (st' := [(2, Int.ofNat o0)]) rfl ?_
      refine jbind H (fun b3 Hb3 H => ?_)
      refine jEv.calV (st' := [(0, b3.1)]) (show jfI 219 14 (.invokevirtual 244) 3 [1, 208, 0, 8158] = true by decide +kernel) rfl (Or.inl rfl) rfl (Nat.le_of_ble_eq_true rfl) (by decide +kernel) (by decide) (isX12_L ho0) ((t_M_look (T := T) (xs := xs) ho0 Hb3).mono (jKle 1 hd)) rfl ?_
      refine jEv.blk [(.istore_n 2, 1, []), (.iload_n 2, 1, []), (.bipush 91, 2, [])] (by decide +kernel) (pc' := 21) (ls' := [(2, Int.ofNat o0), (0, v1), (0, b3.1)]) (st' := [(0, 91), (0, b3.1)]) rfl ?_
      refine jEv.ic_ne (t := 47) (show jfI 219 21 (.if_icmp .ne 26) 3 [] = true by decide +kernel) rfl H (fun c4 H => ?_) (fun c4 H => ?_)
      · refine jEv.blk [(.aload_n 0, 1, []), (.bipush 25, 2, []), (.aload_n 0, 1, [])] (by decide +kernel) (pc' := 28) (ls' := [(2, Int.ofNat o0), (0, v1), (0, b3.1)]) (st' := [(2, Int.ofNat o0), (0, 25), (2, Int.ofNat o0)]) rfl ?_
        refine jEv.gfI (show jfI 219 28 (.getfield 238) 3 [12, 2, 0, 0, 7038] = true by decide +kernel) (isX12_L ho0) (by decide) ?_
        refine jbind H (fun b5 Hb5 H => ?_)
        refine jEv.calV (st' := []) (show jfI 219 31 (.invokevirtual 674) 3 [1, 220, 2, 8203] = true by decide +kernel) rfl (Or.inl rfl) rfl (Nat.le_of_ble_eq_true rfl) (by decide +kernel) (by decide) (isX12_L ho0) ((t_M_qOpens (T := T) (xs := xs) ho0 Hb5).mono (jKle 2 hd)) rfl ?_
        refine jEv.blk [(.aload_n 0, 1, []), (.dup, 1, [])] (by decide +kernel) (pc' := 36) (ls' := [(2, Int.ofNat o0), (0, v1), (0, b3.1)]) (st' := [(2, Int.ofNat o0), (2, Int.ofNat o0)]) rfl ?_
        refine jEv.gfI (show jfI 219 36 (.getfield 238) 3 [12, 2, 0, 0, 7038] = true by decide +kernel) (isX12_L ho0) (by decide) ?_
        refine jEv.blk [(.iconst 1, 1, []), (.iadd, 1, [])] (by decide +kernel) (pc' := 41) (ls' := [(2, Int.ofNat o0), (0, v1), (0, b3.1)]) (st' := [(0, (wr ((b5 o0 2) + 1))), (2, Int.ofNat o0)]) rfl ?_
        refine jEv.pfI (show jfI 219 41 (.putfield 238) 3 [12, 2, 0, 0, 7038] = true by decide +kernel) (isX12_L ho0) (by decide) ?_
        refine jEv.goto (t := 2) (show jfI 219 44 (.goto (-42)) 3 [] = true by decide +kernel) rfl ?_
        exact jEv.weak (a := [(2, Int.ofNat o0), (0, v1), (3, 0)]) (jles.c1 (jles.c1 (jles.c0 jles.nl))) ((by cases H; exact HY))
      · refine jEv.blk [(.aload_n 0, 1, []), (.aload_n 0, 1, [])] (by decide +kernel) (pc' := 49) (ls' := [(2, Int.ofNat o0), (0, v1), (0, b3.1)]) (st' := [(2, Int.ofNat o0), (2, Int.ofNat o0)]) rfl ?_
        refine jEv.gfR (o' := (o0 + 49)) (show jfI 219 49 (.getfield 168) 3 [12, 82, 5, 0, 7118] = true by decide +kernel) (isX12_L ho0) (by decide) (isX12_r82 ho0) ?_
        refine jbind H (fun b6 Hb6 H => ?_)
        refine jEv.calV (st' := [(0, b6.1)]) (show jfI 219 52 (.invokevirtual 255) 3 [1, 207, 1, 8154] = true by decide +kernel) rfl (Or.inl rfl) rfl (Nat.le_of_ble_eq_true rfl) (by decide +kernel) (by decide) (isX12_L ho0) ((t_M_isHere (T := T) (xs := xs) ho0 (isX12_a82 ho0) Hb6).mono (jKle 2 hd)) rfl ?_
        refine jEv.if_eq (t := 79) (show jfI 219 55 (.ifCond .eq 24) 3 [] = true by decide +kernel) rfl H (fun c7 H => ?_) (fun c7 H => ?_)
        · refine jEv.blk [(.aload_n 0, 1, [])] (by decide +kernel) (pc' := 80) (ls' := [(2, Int.ofNat o0), (0, v1), (0, b3.1)]) (st' := [(2, Int.ofNat o0)]) rfl ?_
          refine jbind H (fun b8 Hb8 H => ?_)
          refine jEv.calV (st' := []) (show jfI 219 80 (.invokevirtual 698) 3 [1, 221, 0, 8207] = true by decide +kernel) rfl (Or.inl rfl) rfl (Nat.le_of_ble_eq_true rfl) (by decide +kernel) (by decide) (isX12_L ho0) ((t_M_qFact (T := T) (xs := xs) ho0 Hb8).mono (jKle 8 hd)) rfl ?_
          refine jEv.blk [(.aload_n 0, 1, [])] (by decide +kernel) (pc' := 84) (ls' := [(2, Int.ofNat o0), (0, v1), (0, b3.1)]) (st' := [(2, Int.ofNat o0)]) rfl ?_
          refine jbind H (fun b9 Hb9 H => ?_)
          refine jEv.calV (st' := []) (show jfI 219 84 (.invokevirtual 701) 3 [1, 236, 0, 9026] = true by decide +kernel) rfl (Or.inl rfl) rfl (Nat.le_of_ble_eq_true rfl) (by decide +kernel) (by decide) (isX12_L ho0) ((t_M_qDropsNots (T := T) (xs := xs) ho0 Hb9).mono (jKle 3 hd)) rfl ?_
          refine jEv.blk [(.aload_n 0, 1, [])] (by decide +kernel) (pc' := 88) (ls' := [(2, Int.ofNat o0), (0, v1), (0, b3.1)]) (st' := [(2, Int.ofNat o0)]) rfl ?_
          refine jEv.gfI (show jfI 219 88 (.getfield 232) 3 [12, 5, 0, 0, 7041] = true by decide +kernel) (isX12_L ho0) (by decide) ?_
          refine jEv.if_ne (t := 105) (show jfI 219 91 (.ifCond .ne 14) 3 [] = true by decide +kernel) rfl H (fun c10 H => ?_) (fun c10 H => ?_)
          · refine jEv.blk [(.aload_n 0, 1, [])] (by decide +kernel) (pc' := 95) (ls' := [(2, Int.ofNat o0), (0, v1), (0, b3.1)]) (st' := [(2, Int.ofNat o0)]) rfl ?_
            refine jbind H (fun b11 Hb11 H => ?_)
            refine jEv.calV (st' := [(0, b11.1)]) (show jfI 219 95 (.invokevirtual 704) 3 [1, 237, 0, 9030] = true by decide +kernel) rfl (Or.inl rfl) rfl (Nat.le_of_ble_eq_true rfl) (by decide +kernel) (by decide) (isX12_L ho0) ((t_M_qGoesOnTest (T := T) (xs := xs) ho0 Hb11).mono (jKle 4 hd)) rfl ?_
            refine jEv.if_eq (t := 105) (show jfI 219 98 (.ifCond .eq 7) 3 [] = true by decide +kernel) rfl H (fun c12 H => ?_) (fun c12 H => ?_)
            · exact jEv.weak (a := [(2, Int.ofNat o0), (3, 0), (3, 0)]) (jles.c1 (jles.c0 (jles.c0 jles.nl))) (t_M_qTest_p105 (T := T) (xs := xs) (y := y) hd ho0 H HY)
            · refine jEv.blk [(.iconst 1, 1, [])] (by decide +kernel) (pc' := 102) (ls' := [(2, Int.ofNat o0), (0, v1), (0, b3.1)]) (st' := [(0, 1)]) rfl ?_
              refine jEv.goto (t := 106) (show jfI 219 102 (.goto 4) 3 [] = true by decide +kernel) rfl ?_
              refine jEv.blk [(.istore_n 1, 1, [])] (by decide +kernel) (pc' := 107) (ls' := [(2, Int.ofNat o0), (0, 1), (0, b3.1)]) (st' := []) rfl ?_
              refine jEv.goto (t := 2) (show jfI 219 107 (.goto (-105)) 3 [] = true by decide +kernel) rfl ?_
              exact jEv.weak (a := [(2, Int.ofNat o0), (0, 1), (3, 0)]) (jles.c1 (jles.c1 (jles.c0 jles.nl))) ((by cases H; exact HY))
          · exact jEv.weak (a := [(2, Int.ofNat o0), (3, 0), (3, 0)]) (jles.c1 (jles.c0 (jles.c0 jles.nl))) (t_M_qTest_p105 (T := T) (xs := xs) (y := y) hd ho0 H HY)
        · refine jEv.blk [(.aload_n 0, 1, []), (.bipush 12, 2, []), (.aload_n 0, 1, [])] (by decide +kernel) (pc' := 62) (ls' := [(2, Int.ofNat o0), (0, v1), (0, b3.1)]) (st' := [(2, Int.ofNat o0), (0, 12), (2, Int.ofNat o0)]) rfl ?_
          refine jEv.gfI (show jfI 219 62 (.getfield 238) 3 [12, 2, 0, 0, 7038] = true by decide +kernel) (isX12_L ho0) (by decide) ?_
          refine jbind H (fun b13 Hb13 H => ?_)
          refine jEv.calV (st' := []) (show jfI 219 65 (.invokevirtual 674) 3 [1, 220, 2, 8203] = true by decide +kernel) rfl (Or.inl rfl) rfl (Nat.le_of_ble_eq_true rfl) (by decide +kernel) (by decide) (isX12_L ho0) ((t_M_qOpens (T := T) (xs := xs) ho0 Hb13).mono (jKle 2 hd)) rfl ?_
          refine jEv.blk [(.aload_n 0, 1, []), (.aload_n 0, 1, [])] (by decide +kernel) (pc' := 70) (ls' := [(2, Int.ofNat o0), (0, v1), (0, b3.1)]) (st' := [(2, Int.ofNat o0), (2, Int.ofNat o0)]) rfl ?_
          refine jEv.gfR (o' := (o0 + 49)) (show jfI 219 70 (.getfield 168) 3 [12, 82, 5, 0, 7118] = true by decide +kernel) (isX12_L ho0) (by decide) (isX12_r82 ho0) ?_
          refine jbind H (fun b14 Hb14 H => ?_)
          refine jEv.calV (st' := []) (show jfI 219 73 (.invokevirtual 282) 3 [1, 205, 1, 8146] = true by decide +kernel) rfl (Or.inl rfl) rfl (Nat.le_of_ble_eq_true rfl) (by decide +kernel) (by decide) (isX12_L ho0) ((t_M_asks (T := T) (xs := xs) ho0 (isX12_a82 ho0) Hb14).mono (jKle 4 hd)) rfl ?_
          refine jEv.goto (t := 2) (show jfI 219 76 (.goto (-74)) 3 [] = true by decide +kernel) rfl ?_
          exact jEv.weak (a := [(2, Int.ofNat o0), (0, v1), (3, 0)]) (jles.c1 (jles.c1 (jles.c0 jles.nl))) ((by cases H; exact HY))
    · refine jmapr H HY (fun out H (HY : ykV T y out) => ?_)
      exact jEv.weak (a := [(2, Int.ofNat o0), (3, 0), (3, 0)]) (jles.c1 (jles.c0 (jles.c0 jles.nl))) (t_M_qTest_L110 (T := T) (xs := xs) (y := y) hd ho0 H HY)
theorem t_M_qTest_L2 {T : jT} {xs : List Int} {d : Nat} {y : jV × jS} (hd : 8 ≤ d) {h : jH}  {o0 : Nat} {v1 : Int} {out : jH} (ho0 : isX12 T o0) (H : M_qTest_L2 h o0 v1 = some out) (HY : ykV T y out) : jEv xs d (219, 2, [(2, Int.ofNat o0), (0, v1), (3, 0)], []) (T, h) y :=
  jloop_sound (G := fun s : (Int × jH) => jEv xs d (219, 2, [(2, Int.ofNat o0), (0, s.1), (3, 0)], []) (T, s.2) y) (K := yk_M_qTest_L2 T xs d y o0) (fun s out H HY => t_M_qTest_B2 hd ho0 H HY) (fun s' hg => hg) (s := (v1, h)) H HY
set_option maxRecDepth 20000 in
noncomputable def M_qTest  (h : jH) (o0 : Nat) : Option jH := M_qTest_L2 h o0 1
set_option maxRecDepth 20000 in
theorem t_M_qTest {T : jT} {xs : List Int} {h : jH}  {o0 : Nat} {out : jH} (ho0 : isX12 T o0) (H : M_qTest h o0 = some out) : jEm xs 9 219 [(2, Int.ofNat o0)] (T, h) ((3, 0), (T, out)) := by
  have hd : 8 ≤ 8 := Nat.le_refl _
  obtain ⟨y, ey⟩ : ∃ y : jV × jS, y = ((3, 0), (T, out)) := ⟨_, rfl⟩
  rw [← ey]
  have HY : ykV T y out := ey
  refine jEm.ent (n := 3) (by decide +kernel) (Nat.le_of_ble_eq_true rfl) ?_
  show jEv xs 8 (219, 0, [(2, Int.ofNat o0), (3, 0), (3, 0)], []) (T, h) y
  unfold M_qTest at H
  refine jEv.blk [(.iconst 1, 1, []), (.istore_n 1, 1, [])] (by decide +kernel) (pc' := 2) (ls' := [(2, Int.ofNat o0), (0, 1), (3, 0)]) (st' := []) rfl ?_
  exact t_M_qTest_L2 (T := T) (xs := xs) (y := y) hd ho0 H HY
def yk_M_codesTold_L91 (T : jT) (xs : List Int) (d : Nat) (y : jV × jS)  (o0 : Nat) (v1 : Int) : ((Int × jH) ⊕ jH) → Prop
  | .inl (v3, h) => jEv xs d (218, 91, [(2, Int.ofNat o0), (0, v1), (3, 0), (0, v3)], []) (T, h) y
  | .inr o => ykV T y o
set_option maxRecDepth 20000 in
noncomputable def M_codesTold_B91  (h : jH) (o0 : Nat) (v1 : Int) (v3 : Int) : Option ((Int × jH) ⊕ jH) := (if v3 < (h o0 99) then (if (0 : Int) ≤ v3 ∧ (v3 : Int).toNat < 1700 then (if (0 : Int) ≤ (h o0 41) ∧ ((h o0 41) : Int).toNat < 3200 then some (.inl ((wr (v3 + 1)), (jup (jup h (o0 + 32) ((h o0 41) : Int).toNat (h (o0 + 65) (v3 : Int).toNat)) o0 41 (wr (((jup h (o0 + 32) ((h o0 41) : Int).toNat (h (o0 + 65) (v3 : Int).toNat)) o0 41) + 1))))) else none) else none) else Option.map Sum.inr ((if (0 : Int) ≤ v1 ∧ (v1 : Int).toNat < 4 then some (jup h (o0 + 31) (v1 : Int).toNat (h o0 41)) else none)))
noncomputable def M_codesTold_L91  (h : jH) (o0 : Nat) (v1 : Int) (v3 : Int) : Option jH := jloop (fun s : (Int × jH) => M_codesTold_B91 s.2 o0 v1 s.1) (v3, h)
set_option maxRecDepth 20000 in
theorem t_M_codesTold_B91 {T : jT} {xs : List Int} {d : Nat} {y : jV × jS} (hd : 9 ≤ d) {h : jH}  {o0 : Nat} {v1 : Int} {v3 : Int} {out : ((Int × jH) ⊕ jH)} (ho0 : isX12 T o0) (H : M_codesTold_B91 h o0 v1 v3 = some out) (HY : yk_M_codesTold_L91 T xs d y o0 v1 out) : jEv xs d (218, 91, [(2, Int.ofNat o0), (0, v1), (3, 0), (0, v3)], []) (T, h) y := by
  unfold M_codesTold_B91 at H
  refine jEv.blk [(.iload_n 3, 1, []), (.aload_n 0, 1, [])] (by decide +kernel) (pc' := 93) (ls' := [(2, Int.ofNat o0), (0, v1), (3, 0), (0, v3)]) (st' := [(2, Int.ofNat o0), (0, v3)]) rfl ?_
  refine jEv.gfI (show jfI 218 93 (.getfield 294) 3 [12, 99, 0, 0, 7135] = true by decide +kernel) (isX12_L ho0) (by decide) ?_
  refine jEv.ic_ge (t := 130) (show jfI 218 96 (.if_icmp .ge 34) 3 [] = true by decide +kernel) rfl H (fun c11 H => ?_) (fun c11 H => ?_)
  · refine jEv.blk [(.aload_n 0, 1, [])] (by decide +kernel) (pc' := 100) (ls' := [(2, Int.ofNat o0), (0, v1), (3, 0), (0, v3)]) (st' := [(2, Int.ofNat o0)]) rfl ?_
    refine jEv.gfR (o' := (o0 + 32)) (show jfI 218 100 (.getfield 108) 3 [12, 40, 5, 0, 7076] = true by decide +kernel) (isX12_L ho0) (by decide) (isX12_r40 ho0) ?_
    refine jEv.blk [(.aload_n 0, 1, [])] (by decide +kernel) (pc' := 104) (ls' := [(2, Int.ofNat o0), (0, v1), (3, 0), (0, v3)]) (st' := [(2, Int.ofNat o0), (2, Int.ofNat (o0 + 32))]) rfl ?_
    refine jEv.gfI (show jfI 218 104 (.getfield 312) 3 [12, 41, 0, 0, 7077] = true by decide +kernel) (isX12_L ho0) (by decide) ?_
    refine jEv.blk [(.aload_n 0, 1, [])] (by decide +kernel) (pc' := 108) (ls' := [(2, Int.ofNat o0), (0, v1), (3, 0), (0, v3)]) (st' := [(2, Int.ofNat o0), (0, (h o0 41)), (2, Int.ofNat (o0 + 32))]) rfl ?_
    refine jEv.gfR (o' := (o0 + 65)) (show jfI 218 108 (.getfield 216) 3 [12, 98, 5, 0, 7134] = true by decide +kernel) (isX12_L ho0) (by decide) (isX12_r98 ho0) ?_
    refine jEv.blk [(.iload_n 3, 1, [])] (by decide +kernel) (pc' := 112) (ls' := [(2, Int.ofNat o0), (0, v1), (3, 0), (0, v3)]) (st' := [(0, v3), (2, Int.ofNat (o0 + 65)), (0, (h o0 41)), (2, Int.ofNat (o0 + 32))]) rfl ?_
    refine jEv.ald (Or.inl ⟨rfl, rfl, rfl⟩) (show jfI 218 112 (.iaload) 1 [] = true by decide +kernel) (isX12_a98 ho0) H (fun c12 H => ?_)
    refine jEv.ast (Or.inl ⟨rfl, rfl, rfl⟩) (show jfI 218 113 (.iastore) 1 [] = true by decide +kernel) (isX12_a40 ho0) rfl H (fun c13 H => ?_)
    refine jEv.blk [(.aload_n 0, 1, []), (.dup, 1, [])] (by decide +kernel) (pc' := 116) (ls' := [(2, Int.ofNat o0), (0, v1), (3, 0), (0, v3)]) (st' := [(2, Int.ofNat o0), (2, Int.ofNat o0)]) rfl ?_
    refine jEv.gfI (show jfI 218 116 (.getfield 312) 3 [12, 41, 0, 0, 7077] = true by decide +kernel) (isX12_L ho0) (by decide) ?_
    refine jEv.blk [(.iconst 1, 1, []), (.iadd, 1, [])] (by decide +kernel) (pc' := 121) (ls' := [(2, Int.ofNat o0), (0, v1), (3, 0), (0, v3)]) (st' := [(0, (wr (((jup h (o0 + 32) ((h o0 41) : Int).toNat (h (o0 + 65) (v3 : Int).toNat)) o0 41) + 1))), (2, Int.ofNat o0)]) rfl ?_
    refine jEv.pfI (show jfI 218 121 (.putfield 312) 3 [12, 41, 0, 0, 7077] = true by decide +kernel) (isX12_L ho0) (by decide) ?_
    refine jEv.blk [(.iinc 3 1, 3, [])] (by decide +kernel) (pc' := 127) (ls' := [(2, Int.ofNat o0), (0, v1), (3, 0), (0, (wr (v3 + 1)))]) (st' := []) rfl ?_
    refine jEv.goto (t := 91) (show jfI 218 127 (.goto (-36)) 3 [] = true by decide +kernel) rfl ?_
    exact (by cases H; exact HY)
  · refine jmapr H HY (fun out H (HY : ykV T y out) => ?_)
    refine jEv.blk [(.aload_n 0, 1, [])] (by decide +kernel) (pc' := 131) (ls' := [(2, Int.ofNat o0), (0, v1), (3, 0), (0, v3)]) (st' := [(2, Int.ofNat o0)]) rfl ?_
    refine jEv.gfR (o' := (o0 + 31)) (show jfI 218 131 (.getfield 105) 3 [12, 39, 5, 0, 7075] = true by decide +kernel) (isX12_L ho0) (by decide) (isX12_r39 ho0) ?_
    refine jEv.blk [(.iload_n 1, 1, []), (.aload_n 0, 1, [])] (by decide +kernel) (pc' := 136) (ls' := [(2, Int.ofNat o0), (0, v1), (3, 0), (0, v3)]) (st' := [(2, Int.ofNat o0), (0, v1), (2, Int.ofNat (o0 + 31))]) rfl ?_
    refine jEv.gfI (show jfI 218 136 (.getfield 312) 3 [12, 41, 0, 0, 7077] = true by decide +kernel) (isX12_L ho0) (by decide) ?_
    refine jEv.ast (Or.inl ⟨rfl, rfl, rfl⟩) (show jfI 218 139 (.iastore) 1 [] = true by decide +kernel) (isX12_a39 ho0) rfl H (fun c14 H => ?_)
    exact jEv.retV (show jfI 218 140 (.return_) 1 [] = true by decide +kernel) (by decide +kernel) (by cases H; exact HY)
theorem t_M_codesTold_L91 {T : jT} {xs : List Int} {d : Nat} {y : jV × jS} (hd : 9 ≤ d) {h : jH}  {o0 : Nat} {v1 : Int} {v3 : Int} {out : jH} (ho0 : isX12 T o0) (H : M_codesTold_L91 h o0 v1 v3 = some out) (HY : ykV T y out) : jEv xs d (218, 91, [(2, Int.ofNat o0), (0, v1), (3, 0), (0, v3)], []) (T, h) y :=
  jloop_sound (G := fun s : (Int × jH) => jEv xs d (218, 91, [(2, Int.ofNat o0), (0, v1), (3, 0), (0, s.1)], []) (T, s.2) y) (K := yk_M_codesTold_L91 T xs d y o0 v1) (fun s out H HY => t_M_codesTold_B91 hd ho0 H HY) (fun s' hg => hg) (s := (v3, h)) H HY
set_option maxRecDepth 20000 in
noncomputable def M_codesTold_p71  (h : jH) (o0 : Nat) (v1 : Int) : Option jH := (if (h o0 5) = 0 then (if (0 : Int) ≤ v1 ∧ (v1 : Int).toNat < 4 then M_codesTold_L91 (jup h (o0 + 30) (v1 : Int).toNat (h o0 41)) o0 v1 0 else none) else some h)
set_option maxRecDepth 20000 in
theorem t_M_codesTold_p71 {T : jT} {xs : List Int} {d : Nat} {y : jV × jS} (hd : 9 ≤ d) {h : jH}  {o0 : Nat} {v1 : Int} {out : jH} (ho0 : isX12 T o0) (H : M_codesTold_p71 h o0 v1 = some out) (HY : ykV T y out) : jEv xs d (218, 71, [(2, Int.ofNat o0), (0, v1), (3, 0), (3, 0)], []) (T, h) y := by
  unfold M_codesTold_p71 at H
  refine jEv.blk [(.aload_n 0, 1, [])] (by decide +kernel) (pc' := 72) (ls' := [(2, Int.ofNat o0), (0, v1), (3, 0), (3, 0)]) (st' := [(2, Int.ofNat o0)]) rfl ?_
  refine jEv.gfI (show jfI 218 72 (.getfield 232) 3 [12, 5, 0, 0, 7041] = true by decide +kernel) (isX12_L ho0) (by decide) ?_
  refine jEv.if_eq (t := 79) (show jfI 218 75 (.ifCond .eq 4) 3 [] = true by decide +kernel) rfl H (fun c9 H => ?_) (fun c9 H => ?_)
  · refine jEv.blk [(.aload_n 0, 1, [])] (by decide +kernel) (pc' := 80) (ls' := [(2, Int.ofNat o0), (0, v1), (3, 0), (3, 0)]) (st' := [(2, Int.ofNat o0)]) rfl ?_
    refine jEv.gfR (o' := (o0 + 30)) (show jfI 218 80 (.getfield 102) 3 [12, 38, 5, 0, 7074] = true by decide +kernel) (isX12_L ho0) (by decide) (isX12_r38 ho0) ?_
    refine jEv.blk [(.iload_n 1, 1, []), (.aload_n 0, 1, [])] (by decide +kernel) (pc' := 85) (ls' := [(2, Int.ofNat o0), (0, v1), (3, 0), (3, 0)]) (st' := [(2, Int.ofNat o0), (0, v1), (2, Int.ofNat (o0 + 30))]) rfl ?_
    refine jEv.gfI (show jfI 218 85 (.getfield 312) 3 [12, 41, 0, 0, 7077] = true by decide +kernel) (isX12_L ho0) (by decide) ?_
    refine jEv.ast (Or.inl ⟨rfl, rfl, rfl⟩) (show jfI 218 88 (.iastore) 1 [] = true by decide +kernel) (isX12_a38 ho0) rfl H (fun c10 H => ?_)
    refine jEv.blk [(.iconst 0, 1, []), (.istore_n 3, 1, [])] (by decide +kernel) (pc' := 91) (ls' := [(2, Int.ofNat o0), (0, v1), (3, 0), (0, 0)]) (st' := []) rfl ?_
    exact t_M_codesTold_L91 (T := T) (xs := xs) (y := y) hd ho0 H HY
  · exact jEv.retV (show jfI 218 78 (.return_) 1 [] = true by decide +kernel) (by decide +kernel) (by cases H; exact HY)
set_option maxRecDepth 20000 in
noncomputable def M_codesTold_p23  (h : jH) (o0 : Nat) (v1 : Int) : Option jH := (if (h o0 5) = 0 then (if v1 = 0 then Option.bind (M_qTest (jup (jup (jup (jup (jup h o0 44 v1) o0 99 0) o0 101 0) o0 102 0) o0 103 0) o0) (fun b7 => M_codesTold_p71 b7 o0 v1) else Option.bind (M_qSums (jup (jup (jup (jup (jup h o0 44 v1) o0 99 0) o0 101 0) o0 102 0) o0 103 0) o0) (fun b8 => M_codesTold_p71 b8 o0 v1)) else some h)
set_option maxRecDepth 20000 in
theorem t_M_codesTold_p23 {T : jT} {xs : List Int} {d : Nat} {y : jV × jS} (hd : 9 ≤ d) {h : jH}  {o0 : Nat} {v1 : Int} {out : jH} (ho0 : isX12 T o0) (H : M_codesTold_p23 h o0 v1 = some out) (HY : ykV T y out) : jEv xs d (218, 23, [(2, Int.ofNat o0), (0, v1), (3, 0), (3, 0)], []) (T, h) y := by
  unfold M_codesTold_p23 at H
  refine jEv.blk [(.aload_n 0, 1, [])] (by decide +kernel) (pc' := 24) (ls' := [(2, Int.ofNat o0), (0, v1), (3, 0), (3, 0)]) (st' := [(2, Int.ofNat o0)]) rfl ?_
  refine jEv.gfI (show jfI 218 24 (.getfield 232) 3 [12, 5, 0, 0, 7041] = true by decide +kernel) (isX12_L ho0) (by decide) ?_
  refine jEv.if_eq (t := 31) (show jfI 218 27 (.ifCond .eq 4) 3 [] = true by decide +kernel) rfl H (fun c5 H => ?_) (fun c5 H => ?_)
  · refine jEv.blk [(.aload_n 0, 1, []), (.iload_n 1, 1, [])] (by decide +kernel) (pc' := 33) (ls' := [(2, Int.ofNat o0), (0, v1), (3, 0), (3, 0)]) (st' := [(0, v1), (2, Int.ofNat o0)]) rfl ?_
    refine jEv.pfI (show jfI 218 33 (.putfield 279) 3 [12, 44, 0, 0, 7080] = true by decide +kernel) (isX12_L ho0) (by decide) ?_
    refine jEv.blk [(.aload_n 0, 1, []), (.iconst 0, 1, [])] (by decide +kernel) (pc' := 38) (ls' := [(2, Int.ofNat o0), (0, v1), (3, 0), (3, 0)]) (st' := [(0, 0), (2, Int.ofNat o0)]) rfl ?_
    refine jEv.pfI (show jfI 218 38 (.putfield 294) 3 [12, 99, 0, 0, 7135] = true by decide +kernel) (isX12_L ho0) (by decide) ?_
    refine jEv.blk [(.aload_n 0, 1, []), (.iconst 0, 1, [])] (by decide +kernel) (pc' := 43) (ls' := [(2, Int.ofNat o0), (0, v1), (3, 0), (3, 0)]) (st' := [(0, 0), (2, Int.ofNat o0)]) rfl ?_
    refine jEv.pfI (show jfI 218 43 (.putfield 297) 3 [12, 101, 0, 0, 7137] = true by decide +kernel) (isX12_L ho0) (by decide) ?_
    refine jEv.blk [(.aload_n 0, 1, []), (.iconst 0, 1, [])] (by decide +kernel) (pc' := 48) (ls' := [(2, Int.ofNat o0), (0, v1), (3, 0), (3, 0)]) (st' := [(0, 0), (2, Int.ofNat o0)]) rfl ?_
    refine jEv.pfI (show jfI 218 48 (.putfield 300) 3 [12, 102, 0, 0, 7138] = true by decide +kernel) (isX12_L ho0) (by decide) ?_
    refine jEv.blk [(.aload_n 0, 1, []), (.iconst 0, 1, [])] (by decide +kernel) (pc' := 53) (ls' := [(2, Int.ofNat o0), (0, v1), (3, 0), (3, 0)]) (st' := [(0, 0), (2, Int.ofNat o0)]) rfl ?_
    refine jEv.pfI (show jfI 218 53 (.putfield 303) 3 [12, 103, 0, 0, 7139] = true by decide +kernel) (isX12_L ho0) (by decide) ?_
    refine jEv.blk [(.iload_n 1, 1, [])] (by decide +kernel) (pc' := 57) (ls' := [(2, Int.ofNat o0), (0, v1), (3, 0), (3, 0)]) (st' := [(0, v1)]) rfl ?_
    refine jEv.if_ne (t := 67) (show jfI 218 57 (.ifCond .ne 10) 3 [] = true by decide +kernel) rfl H (fun c6 H => ?_) (fun c6 H => ?_)
    · refine jEv.blk [(.aload_n 0, 1, [])] (by decide +kernel) (pc' := 61) (ls' := [(2, Int.ofNat o0), (0, v1), (3, 0), (3, 0)]) (st' := [(2, Int.ofNat o0)]) rfl ?_
      refine jbind H (fun b7 Hb7 H => ?_)
      refine jEv.calV (st' := []) (show jfI 218 61 (.invokevirtual 306) 3 [1, 219, 0, 8199] = true by decide +kernel) rfl (Or.inl rfl) rfl (Nat.le_of_ble_eq_true rfl) (by decide +kernel) (by decide) (isX12_L ho0) ((t_M_qTest (T := T) (xs := xs) ho0 Hb7).mono (jKle 9 hd)) rfl ?_
      refine jEv.goto (t := 71) (show jfI 218 64 (.goto 7) 3 [] = true by decide +kernel) rfl ?_
      exact t_M_codesTold_p71 (T := T) (xs := xs) (y := y) hd ho0 H HY
    · refine jEv.blk [(.aload_n 0, 1, [])] (by decide +kernel) (pc' := 68) (ls' := [(2, Int.ofNat o0), (0, v1), (3, 0), (3, 0)]) (st' := [(2, Int.ofNat o0)]) rfl ?_
      refine jbind H (fun b8 Hb8 H => ?_)
      refine jEv.calV (st' := []) (show jfI 218 68 (.invokevirtual 309) 3 [1, 223, 0, 8215] = true by decide +kernel) rfl (Or.inl rfl) rfl (Nat.le_of_ble_eq_true rfl) (by decide +kernel) (by decide) (isX12_L ho0) ((t_M_qSums (T := T) (xs := xs) ho0 Hb8).mono (jKle 7 hd)) rfl ?_
      exact t_M_codesTold_p71 (T := T) (xs := xs) (y := y) hd ho0 H HY
  · exact jEv.retV (show jfI 218 30 (.return_) 1 [] = true by decide +kernel) (by decide +kernel) (by cases H; exact HY)
set_option maxRecDepth 20000 in
noncomputable def M_codesTold  (h : jH) (o0 : Nat) (v1 : Int) (v2 : Int) : Option jH := (if (h o0 5) = 0 then (if (0 : Int) ≤ v1 ∧ (v1 : Int).toNat < 4 then (if (h (o0 + 30) (v1 : Int).toNat) = (-1) then M_codesTold_p23 h o0 v1 else Option.bind (M_fail h o0 5 v2) (fun b4 => M_codesTold_p23 b4 o0 v1)) else none) else M_codesTold_p23 h o0 v1)
set_option maxRecDepth 20000 in
theorem t_M_codesTold {T : jT} {xs : List Int} {h : jH}  {o0 : Nat} {v1 : Int} {v2 : Int} {out : jH} (ho0 : isX12 T o0) (H : M_codesTold h o0 v1 v2 = some out) : jEm xs 10 218 [(2, Int.ofNat o0), (0, v1), (0, v2)] (T, h) ((3, 0), (T, out)) := by
  have hd : 9 ≤ 9 := Nat.le_refl _
  obtain ⟨y, ey⟩ : ∃ y : jV × jS, y = ((3, 0), (T, out)) := ⟨_, rfl⟩
  rw [← ey]
  have HY : ykV T y out := ey
  refine jEm.ent (n := 4) (by decide +kernel) (Nat.le_of_ble_eq_true rfl) ?_
  show jEv xs 9 (218, 0, [(2, Int.ofNat o0), (0, v1), (0, v2), (3, 0)], []) (T, h) y
  unfold M_codesTold at H
  refine jEv.blk [(.aload_n 0, 1, [])] (by decide +kernel) (pc' := 1) (ls' := [(2, Int.ofNat o0), (0, v1), (0, v2), (3, 0)]) (st' := [(2, Int.ofNat o0)]) rfl ?_
  refine jEv.gfI (show jfI 218 1 (.getfield 232) 3 [12, 5, 0, 0, 7041] = true by decide +kernel) (isX12_L ho0) (by decide) ?_
  refine jEv.if_ne (t := 23) (show jfI 218 4 (.ifCond .ne 19) 3 [] = true by decide +kernel) rfl H (fun c1 H => ?_) (fun c1 H => ?_)
  · refine jEv.blk [(.aload_n 0, 1, [])] (by decide +kernel) (pc' := 8) (ls' := [(2, Int.ofNat o0), (0, v1), (0, v2), (3, 0)]) (st' := [(2, Int.ofNat o0)]) rfl ?_
    refine jEv.gfR (o' := (o0 + 30)) (show jfI 218 8 (.getfield 102) 3 [12, 38, 5, 0, 7074] = true by decide +kernel) (isX12_L ho0) (by decide) (isX12_r38 ho0) ?_
    refine jEv.blk [(.iload_n 1, 1, [])] (by decide +kernel) (pc' := 12) (ls' := [(2, Int.ofNat o0), (0, v1), (0, v2), (3, 0)]) (st' := [(0, v1), (2, Int.ofNat (o0 + 30))]) rfl ?_
    refine jEv.ald (Or.inl ⟨rfl, rfl, rfl⟩) (show jfI 218 12 (.iaload) 1 [] = true by decide +kernel) (isX12_a38 ho0) H (fun c2 H => ?_)
    refine jEv.blk [(.iconst (-1), 1, [])] (by decide +kernel) (pc' := 14) (ls' := [(2, Int.ofNat o0), (0, v1), (0, v2), (3, 0)]) (st' := [(0, (-1)), (0, (h (o0 + 30) (v1 : Int).toNat))]) rfl ?_
    refine jEv.ic_eq (t := 23) (show jfI 218 14 (.if_icmp .eq 9) 3 [] = true by decide +kernel) rfl H (fun c3 H => ?_) (fun c3 H => ?_)
    · exact jEv.weak (a := [(2, Int.ofNat o0), (0, v1), (3, 0), (3, 0)]) (jles.c1 (jles.c1 (jles.c0 (jles.c0 jles.nl)))) (t_M_codesTold_p23 (T := T) (xs := xs) (y := y) hd ho0 H HY)
    · refine jEv.blk [(.aload_n 0, 1, []), (.iconst 5, 1, []), (.iload_n 2, 1, [])] (by decide +kernel) (pc' := 20) (ls' := [(2, Int.ofNat o0), (0, v1), (0, v2), (3, 0)]) (st' := [(0, v2), (0, 5), (2, Int.ofNat o0)]) rfl ?_
      refine jbind H (fun b4 Hb4 H => ?_)
      refine jEv.calV (st' := []) (show jfI 218 20 (.invokevirtual 262) 3 [1, 210, 2, 8165] = true by decide +kernel) rfl (Or.inl rfl) rfl (Nat.le_of_ble_eq_true rfl) (by decide +kernel) (by decide) (isX12_L ho0) ((t_M_fail (T := T) (xs := xs) ho0 Hb4).mono (jKle 1 hd)) rfl ?_
      exact jEv.weak (a := [(2, Int.ofNat o0), (0, v1), (3, 0), (3, 0)]) (jles.c1 (jles.c1 (jles.c0 (jles.c0 jles.nl)))) (t_M_codesTold_p23 (T := T) (xs := xs) (y := y) hd ho0 H HY)
  · exact jEv.weak (a := [(2, Int.ofNat o0), (0, v1), (3, 0), (3, 0)]) (jles.c1 (jles.c1 (jles.c0 (jles.c0 jles.nl)))) (t_M_codesTold_p23 (T := T) (xs := xs) (y := y) hd ho0 H HY)
set_option maxRecDepth 20000 in
noncomputable def M_statementTold_p100  (h : jH) (o0 : Nat) : Option jH := Option.bind (M_asksSign h o0 59) (fun b15 => some (jup b15 o0 42 (wr ((b15 o0 42) + 1))))
set_option maxRecDepth 20000 in
theorem t_M_statementTold_p100 {T : jT} {xs : List Int} {d : Nat} {y : jV × jS} (hd : 10 ≤ d) {h : jH}  {o0 : Nat} {out : jH} (ho0 : isX12 T o0) (H : M_statementTold_p100 h o0 = some out) (HY : ykV T y out) : jEv xs d (216, 100, [(2, Int.ofNat o0), (3, 0)], []) (T, h) y := by
  unfold M_statementTold_p100 at H
  refine jEv.blk [(.aload_n 0, 1, []), (.bipush 59, 2, [])] (by decide +kernel) (pc' := 103) (ls' := [(2, Int.ofNat o0), (3, 0)]) (st' := [(0, 59), (2, Int.ofNat o0)]) rfl ?_
  refine jbind H (fun b15 Hb15 H => ?_)
  refine jEv.calV (st' := []) (show jfI 216 103 (.invokevirtual 290) 3 [1, 214, 1, 8179] = true by decide +kernel) rfl (Or.inl rfl) rfl (Nat.le_of_ble_eq_true rfl) (by decide +kernel) (by decide) (isX12_L ho0) ((t_M_asksSign (T := T) (xs := xs) ho0 Hb15).mono (jKle 3 hd)) rfl ?_
  refine jEv.blk [(.aload_n 0, 1, []), (.dup, 1, [])] (by decide +kernel) (pc' := 108) (ls' := [(2, Int.ofNat o0), (3, 0)]) (st' := [(2, Int.ofNat o0), (2, Int.ofNat o0)]) rfl ?_
  refine jEv.gfI (show jfI 216 108 (.getfield 315) 3 [12, 42, 0, 0, 7078] = true by decide +kernel) (isX12_L ho0) (by decide) ?_
  refine jEv.blk [(.iconst 1, 1, []), (.iadd, 1, [])] (by decide +kernel) (pc' := 113) (ls' := [(2, Int.ofNat o0), (3, 0)]) (st' := [(0, (wr ((b15 o0 42) + 1))), (2, Int.ofNat o0)]) rfl ?_
  refine jEv.pfI (show jfI 216 113 (.putfield 315) 3 [12, 42, 0, 0, 7078] = true by decide +kernel) (isX12_L ho0) (by decide) ?_
  exact jEv.retV (show jfI 216 116 (.return_) 1 [] = true by decide +kernel) (by decide +kernel) (by cases H; exact HY)
set_option maxRecDepth 20000 in
noncomputable def M_statementTold  (h : jH) (o0 : Nat) : Option jH := (if (h o0 42) = 40 then Option.bind (M_fail h o0 5 (h o0 2)) (fun b2 => some b2) else Option.bind (M_takes h o0 (o0 + 6) 3) (fun b3 => (if b3.1 = 0 then Option.bind (M_takes b3.2 o0 (o0 + 8) 6) (fun b5 => (if b5.1 = 0 then Option.bind (M_takes b5.2 o0 (o0 + 9) 5) (fun b7 => (if b7.1 = 0 then Option.bind (M_asks b7.2 o0 (o0 + 10) 5) (fun b9 => Option.bind (M_number b9 o0 0 100) (fun b10 => (if (0 : Int) ≤ 4 ∧ (4 : Int).toNat < 10 then M_statementTold_p100 (jup b10.2 (o0 + 28) (4 : Int).toNat b10.1) o0 else none))) else Option.bind (M_codesTold b7.2 o0 1 (h o0 2)) (fun b12 => M_statementTold_p100 b12 o0))) else Option.bind (M_codesTold b5.2 o0 0 (h o0 2)) (fun b13 => M_statementTold_p100 b13 o0))) else Option.bind (M_putTold b3.2 o0) (fun b14 => M_statementTold_p100 b14 o0))))
set_option maxRecDepth 20000 in
theorem t_M_statementTold {T : jT} {xs : List Int} {h : jH}  {o0 : Nat} {out : jH} (ho0 : isX12 T o0) (H : M_statementTold h o0 = some out) : jEm xs 11 216 [(2, Int.ofNat o0)] (T, h) ((3, 0), (T, out)) := by
  have hd : 10 ≤ 10 := Nat.le_refl _
  obtain ⟨y, ey⟩ : ∃ y : jV × jS, y = ((3, 0), (T, out)) := ⟨_, rfl⟩
  rw [← ey]
  have HY : ykV T y out := ey
  refine jEm.ent (n := 2) (by decide +kernel) (Nat.le_of_ble_eq_true rfl) ?_
  show jEv xs 10 (216, 0, [(2, Int.ofNat o0), (3, 0)], []) (T, h) y
  unfold M_statementTold at H
  refine jEv.blk [(.aload_n 0, 1, [])] (by decide +kernel) (pc' := 1) (ls' := [(2, Int.ofNat o0), (3, 0)]) (st' := [(2, Int.ofNat o0)]) rfl ?_
  refine jEv.gfI (show jfI 216 1 (.getfield 238) 3 [12, 2, 0, 0, 7038] = true by decide +kernel) (isX12_L ho0) (by decide) ?_
  refine jEv.blk [(.istore_n 1, 1, []), (.aload_n 0, 1, [])] (by decide +kernel) (pc' := 6) (ls' := [(2, Int.ofNat o0), (0, (h o0 2))]) (st' := [(2, Int.ofNat o0)]) rfl ?_
  refine jEv.gfI (show jfI 216 6 (.getfield 315) 3 [12, 42, 0, 0, 7078] = true by decide +kernel) (isX12_L ho0) (by decide) ?_
  refine jEv.blk [(.bipush 40, 2, [])] (by decide +kernel) (pc' := 11) (ls' := [(2, Int.ofNat o0), (0, (h o0 2))]) (st' := [(0, 40), (0, (h o0 42))]) rfl ?_
  refine jEv.ic_ne (t := 21) (show jfI 216 11 (.if_icmp .ne 10) 3 [] = true by decide +kernel) rfl H (fun c1 H => ?_) (fun c1 H => ?_)
  · refine jEv.blk [(.aload_n 0, 1, []), (.iconst 5, 1, []), (.iload_n 1, 1, [])] (by decide +kernel) (pc' := 17) (ls' := [(2, Int.ofNat o0), (0, (h o0 2))]) (st' := [(0, (h o0 2)), (0, 5), (2, Int.ofNat o0)]) rfl ?_
    refine jbind H (fun b2 Hb2 H => ?_)
    refine jEv.calV (st' := []) (show jfI 216 17 (.invokevirtual 262) 3 [1, 210, 2, 8165] = true by decide +kernel) rfl (Or.inl rfl) rfl (Nat.le_of_ble_eq_true rfl) (by decide +kernel) (by decide) (isX12_L ho0) ((t_M_fail (T := T) (xs := xs) ho0 Hb2).mono (jKle 1 hd)) rfl ?_
    exact jEv.retV (show jfI 216 20 (.return_) 1 [] = true by decide +kernel) (by decide +kernel) (by cases H; exact HY)
  · refine jEv.blk [(.aload_n 0, 1, []), (.aload_n 0, 1, [])] (by decide +kernel) (pc' := 23) (ls' := [(2, Int.ofNat o0), (0, (h o0 2))]) (st' := [(2, Int.ofNat o0), (2, Int.ofNat o0)]) rfl ?_
    refine jEv.gfR (o' := (o0 + 6)) (show jfI 216 23 (.getfield 30) 3 [12, 14, 5, 0, 7050] = true by decide +kernel) (isX12_L ho0) (by decide) (isX12_r14 ho0) ?_
    refine jbind H (fun b3 Hb3 H => ?_)
    refine jEv.calV (st' := [(0, b3.1)]) (show jfI 216 26 (.invokevirtual 259) 3 [1, 206, 1, 8150] = true by decide +kernel) rfl (Or.inl rfl) rfl (Nat.le_of_ble_eq_true rfl) (by decide +kernel) (by decide) (isX12_L ho0) ((t_M_takes (T := T) (xs := xs) ho0 (isX12_a14 ho0) Hb3).mono (jKle 3 hd)) rfl ?_
    refine jEv.if_eq (t := 39) (show jfI 216 29 (.ifCond .eq 10) 3 [] = true by decide +kernel) rfl H (fun c4 H => ?_) (fun c4 H => ?_)
    · refine jEv.blk [(.aload_n 0, 1, []), (.aload_n 0, 1, [])] (by decide +kernel) (pc' := 41) (ls' := [(2, Int.ofNat o0), (0, (h o0 2))]) (st' := [(2, Int.ofNat o0), (2, Int.ofNat o0)]) rfl ?_
      refine jEv.gfR (o' := (o0 + 8)) (show jfI 216 41 (.getfield 36) 3 [12, 16, 5, 0, 7052] = true by decide +kernel) (isX12_L ho0) (by decide) (isX12_r16 ho0) ?_
      refine jbind H (fun b5 Hb5 H => ?_)
      refine jEv.calV (st' := [(0, b5.1)]) (show jfI 216 44 (.invokevirtual 259) 3 [1, 206, 1, 8150] = true by decide +kernel) rfl (Or.inl rfl) rfl (Nat.le_of_ble_eq_true rfl) (by decide +kernel) (by decide) (isX12_L ho0) ((t_M_takes (T := T) (xs := xs) ho0 (isX12_a16 ho0) Hb5).mono (jKle 3 hd)) rfl ?_
      refine jEv.if_eq (t := 59) (show jfI 216 47 (.ifCond .eq 12) 3 [] = true by decide +kernel) rfl H (fun c6 H => ?_) (fun c6 H => ?_)
      · refine jEv.blk [(.aload_n 0, 1, []), (.aload_n 0, 1, [])] (by decide +kernel) (pc' := 61) (ls' := [(2, Int.ofNat o0), (0, (h o0 2))]) (st' := [(2, Int.ofNat o0), (2, Int.ofNat o0)]) rfl ?_
        refine jEv.gfR (o' := (o0 + 9)) (show jfI 216 61 (.getfield 39) 3 [12, 17, 5, 0, 7053] = true by decide +kernel) (isX12_L ho0) (by decide) (isX12_r17 ho0) ?_
        refine jbind H (fun b7 Hb7 H => ?_)
        refine jEv.calV (st' := [(0, b7.1)]) (show jfI 216 64 (.invokevirtual 259) 3 [1, 206, 1, 8150] = true by decide +kernel) rfl (Or.inl rfl) rfl (Nat.le_of_ble_eq_true rfl) (by decide +kernel) (by decide) (isX12_L ho0) ((t_M_takes (T := T) (xs := xs) ho0 (isX12_a17 ho0) Hb7).mono (jKle 3 hd)) rfl ?_
        refine jEv.if_eq (t := 79) (show jfI 216 67 (.ifCond .eq 12) 3 [] = true by decide +kernel) rfl H (fun c8 H => ?_) (fun c8 H => ?_)
        · refine jEv.blk [(.aload_n 0, 1, []), (.aload_n 0, 1, [])] (by decide +kernel) (pc' := 81) (ls' := [(2, Int.ofNat o0), (0, (h o0 2))]) (st' := [(2, Int.ofNat o0), (2, Int.ofNat o0)]) rfl ?_
          refine jEv.gfR (o' := (o0 + 10)) (show jfI 216 81 (.getfield 42) 3 [12, 18, 5, 0, 7054] = true by decide +kernel) (isX12_L ho0) (by decide) (isX12_r18 ho0) ?_
          refine jbind H (fun b9 Hb9 H => ?_)
          refine jEv.calV (st' := []) (show jfI 216 84 (.invokevirtual 282) 3 [1, 205, 1, 8146] = true by decide +kernel) rfl (Or.inl rfl) rfl (Nat.le_of_ble_eq_true rfl) (by decide +kernel) (by decide) (isX12_L ho0) ((t_M_asks (T := T) (xs := xs) ho0 (isX12_a18 ho0) Hb9).mono (jKle 4 hd)) rfl ?_
          refine jEv.blk [(.aload_n 0, 1, [])] (by decide +kernel) (pc' := 88) (ls' := [(2, Int.ofNat o0), (0, (h o0 2))]) (st' := [(2, Int.ofNat o0)]) rfl ?_
          refine jEv.gfR (o' := (o0 + 28)) (show jfI 216 88 (.getfield 96) 3 [12, 36, 5, 0, 7072] = true by decide +kernel) (isX12_L ho0) (by decide) (isX12_r36 ho0) ?_
          refine jEv.blk [(.iconst 4, 1, []), (.aload_n 0, 1, []), (.iconst 0, 1, []), (.bipush 100, 2, [])] (by decide +kernel) (pc' := 96) (ls' := [(2, Int.ofNat o0), (0, (h o0 2))]) (st' := [(0, 100), (0, 0), (2, Int.ofNat o0), (0, 4), (2, Int.ofNat (o0 + 28))]) rfl ?_
          refine jbind H (fun b10 Hb10 H => ?_)
          refine jEv.calV (st' := [(0, b10.1), (0, 4), (2, Int.ofNat (o0 + 28))]) (show jfI 216 96 (.invokevirtual 286) 3 [1, 211, 2, 8169] = true by decide +kernel) rfl (Or.inl rfl) rfl (Nat.le_of_ble_eq_true rfl) (by decide +kernel) (by decide) (isX12_L ho0) ((t_M_number (T := T) (xs := xs) ho0 Hb10).mono (jKle 2 hd)) rfl ?_
          refine jEv.ast (Or.inl ⟨rfl, rfl, rfl⟩) (show jfI 216 99 (.iastore) 1 [] = true by decide +kernel) (isX12_a36 ho0) rfl H (fun c11 H => ?_)
          exact jEv.weak (a := [(2, Int.ofNat o0), (3, 0)]) (jles.c1 (jles.c0 jles.nl)) (t_M_statementTold_p100 (T := T) (xs := xs) (y := y) hd ho0 H HY)
        · refine jEv.blk [(.aload_n 0, 1, []), (.iconst 1, 1, []), (.iload_n 1, 1, [])] (by decide +kernel) (pc' := 73) (ls' := [(2, Int.ofNat o0), (0, (h o0 2))]) (st' := [(0, (h o0 2)), (0, 1), (2, Int.ofNat o0)]) rfl ?_
          refine jbind H (fun b12 Hb12 H => ?_)
          refine jEv.calV (st' := []) (show jfI 216 73 (.invokevirtual 321) 3 [1, 218, 2, 8195] = true by decide +kernel) rfl (Or.inl rfl) rfl (Nat.le_of_ble_eq_true rfl) (by decide +kernel) (by decide) (isX12_L ho0) ((t_M_codesTold (T := T) (xs := xs) ho0 Hb12).mono (jKle 10 hd)) rfl ?_
          refine jEv.goto (t := 100) (show jfI 216 76 (.goto 24) 3 [] = true by decide +kernel) rfl ?_
          exact jEv.weak (a := [(2, Int.ofNat o0), (3, 0)]) (jles.c1 (jles.c0 jles.nl)) (t_M_statementTold_p100 (T := T) (xs := xs) (y := y) hd ho0 H HY)
      · refine jEv.blk [(.aload_n 0, 1, []), (.iconst 0, 1, []), (.iload_n 1, 1, [])] (by decide +kernel) (pc' := 53) (ls' := [(2, Int.ofNat o0), (0, (h o0 2))]) (st' := [(0, (h o0 2)), (0, 0), (2, Int.ofNat o0)]) rfl ?_
        refine jbind H (fun b13 Hb13 H => ?_)
        refine jEv.calV (st' := []) (show jfI 216 53 (.invokevirtual 321) 3 [1, 218, 2, 8195] = true by decide +kernel) rfl (Or.inl rfl) rfl (Nat.le_of_ble_eq_true rfl) (by decide +kernel) (by decide) (isX12_L ho0) ((t_M_codesTold (T := T) (xs := xs) ho0 Hb13).mono (jKle 10 hd)) rfl ?_
        refine jEv.goto (t := 100) (show jfI 216 56 (.goto 44) 3 [] = true by decide +kernel) rfl ?_
        exact jEv.weak (a := [(2, Int.ofNat o0), (3, 0)]) (jles.c1 (jles.c0 jles.nl)) (t_M_statementTold_p100 (T := T) (xs := xs) (y := y) hd ho0 H HY)
    · refine jEv.blk [(.aload_n 0, 1, [])] (by decide +kernel) (pc' := 33) (ls' := [(2, Int.ofNat o0), (0, (h o0 2))]) (st' := [(2, Int.ofNat o0)]) rfl ?_
      refine jbind H (fun b14 Hb14 H => ?_)
      refine jEv.calV (st' := []) (show jfI 216 33 (.invokevirtual 318) 3 [1, 217, 0, 8191] = true by decide +kernel) rfl (Or.inl rfl) rfl (Nat.le_of_ble_eq_true rfl) (by decide +kernel) (by decide) (isX12_L ho0) ((t_M_putTold (T := T) (xs := xs) ho0 Hb14).mono (jKle 5 hd)) rfl ?_
      refine jEv.goto (t := 100) (show jfI 216 36 (.goto 64) 3 [] = true by decide +kernel) rfl ?_
      exact jEv.weak (a := [(2, Int.ofNat o0), (3, 0)]) (jles.c1 (jles.c0 jles.nl)) (t_M_statementTold_p100 (T := T) (xs := xs) (y := y) hd ho0 H HY)
set_option maxRecDepth 20000 in
noncomputable def M_refuses  (h : jH) (o0 : Nat) (v1 : Int) : Option (Int × jH) := (if (0 : Int) ≤ v1 ∧ (v1 : Int).toNat < 7 then (if (0 : Int) ≤ v1 ∧ (v1 : Int).toNat < 7 then some ((-1), (jup h (o0 + 2) (v1 : Int).toNat (wr ((h (o0 + 2) (v1 : Int).toNat) + 1)))) else none) else none)
set_option maxRecDepth 20000 in
theorem t_M_refuses {T : jT} {xs : List Int} {h : jH}  {o0 : Nat} {v1 : Int} {out : (Int × jH)} (ho0 : isX12 T o0) (H : M_refuses h o0 v1 = some out) : jEm xs 1 239 [(2, Int.ofNat o0), (0, v1)] (T, h) ((0, out.1), (T, out.2)) := by
  have hd : 0 ≤ 0 := Nat.le_refl _
  obtain ⟨y, ey⟩ : ∃ y : jV × jS, y = ((0, out.1), (T, out.2)) := ⟨_, rfl⟩
  rw [← ey]
  have HY : ykI T y out := ey
  refine jEm.ent (n := 2) (by decide +kernel) (Nat.le_of_ble_eq_true rfl) ?_
  show jEv xs 0 (239, 0, [(2, Int.ofNat o0), (0, v1)], []) (T, h) y
  unfold M_refuses at H
  refine jEv.blk [(.aload_n 0, 1, [])] (by decide +kernel) (pc' := 1) (ls' := [(2, Int.ofNat o0), (0, v1)]) (st' := [(2, Int.ofNat o0)]) rfl ?_
  refine jEv.gfR (o' := (o0 + 2)) (show jfI 239 1 (.getfield 17) 3 [12, 9, 5, 0, 7045] = true by decide +kernel) (isX12_L ho0) (by decide) (isX12_r9 ho0) ?_
  refine jEv.blk [(.iload_n 1, 1, []), (.dup2, 1, [])] (by decide +kernel) (pc' := 6) (ls' := [(2, Int.ofNat o0), (0, v1)]) (st' := [(0, v1), (2, Int.ofNat (o0 + 2)), (0, v1), (2, Int.ofNat (o0 + 2))]) rfl ?_
  refine jEv.ald (Or.inl ⟨rfl, rfl, rfl⟩) (show jfI 239 6 (.iaload) 1 [] = true by decide +kernel) (isX12_a9 ho0) H (fun c1 H => ?_)
  refine jEv.blk [(.iconst 1, 1, []), (.iadd, 1, [])] (by decide +kernel) (pc' := 9) (ls' := [(2, Int.ofNat o0), (0, v1)]) (st' := [(0, (wr ((h (o0 + 2) (v1 : Int).toNat) + 1))), (0, v1), (2, Int.ofNat (o0 + 2))]) rfl ?_
  refine jEv.ast (Or.inl ⟨rfl, rfl, rfl⟩) (show jfI 239 9 (.iastore) 1 [] = true by decide +kernel) (isX12_a9 ho0) rfl H (fun c2 H => ?_)
  refine jEv.blk [(.iconst (-1), 1, [])] (by decide +kernel) (pc' := 11) (ls' := [(2, Int.ofNat o0), (0, v1)]) (st' := [(0, (-1))]) rfl ?_
  exact jEv.retI (show jfI 239 11 (.ireturn) 1 [] = true by decide +kernel) (by decide +kernel) (by cases H; exact HY)
set_option maxRecDepth 20000 in
noncomputable def M_opens  (h : jH) (o0 : Nat) (v1 : Int) : Option jH := (if (0 : Int) ≤ 8 ∧ (8 : Int).toNat < 2365 then (if (0 : Int) ≤ 8 ∧ (8 : Int).toNat < 2365 then (if (0 : Int) ≤ 5 ∧ (5 : Int).toNat < 2365 then (if (0 : Int) ≤ 6 ∧ (6 : Int).toNat < 2365 then (if (0 : Int) ≤ 8 ∧ (8 : Int).toNat < 2365 then (if (0 : Int) ≤ 7 ∧ (7 : Int).toNat < 2365 then (if (0 : Int) ≤ (wr (192 + v1)) ∧ ((wr (192 + v1)) : Int).toNat < 2365 then some (jup (jup (jup (jup (jup h (o0 + 33) (8 : Int).toNat (wr ((h (o0 + 33) (8 : Int).toNat) + 1))) (o0 + 33) (5 : Int).toNat v1) (o0 + 33) (6 : Int).toNat 0) (o0 + 33) (7 : Int).toNat ((jup (jup (jup h (o0 + 33) (8 : Int).toNat (wr ((h (o0 + 33) (8 : Int).toNat) + 1))) (o0 + 33) (5 : Int).toNat v1) (o0 + 33) (6 : Int).toNat 0) (o0 + 33) (8 : Int).toNat)) (o0 + 33) ((wr (192 + v1)) : Int).toNat (-1)) else none) else none) else none) else none) else none) else none) else none)
set_option maxRecDepth 20000 in
theorem t_M_opens {T : jT} {xs : List Int} {h : jH}  {o0 : Nat} {v1 : Int} {out : jH} (ho0 : isX12 T o0) (H : M_opens h o0 v1 = some out) : jEm xs 1 242 [(2, Int.ofNat o0), (0, v1)] (T, h) ((3, 0), (T, out)) := by
  have hd : 0 ≤ 0 := Nat.le_refl _
  obtain ⟨y, ey⟩ : ∃ y : jV × jS, y = ((3, 0), (T, out)) := ⟨_, rfl⟩
  rw [← ey]
  have HY : ykV T y out := ey
  refine jEm.ent (n := 2) (by decide +kernel) (Nat.le_of_ble_eq_true rfl) ?_
  show jEv xs 0 (242, 0, [(2, Int.ofNat o0), (0, v1)], []) (T, h) y
  unfold M_opens at H
  refine jEv.blk [(.aload_n 0, 1, [])] (by decide +kernel) (pc' := 1) (ls' := [(2, Int.ofNat o0), (0, v1)]) (st' := [(2, Int.ofNat o0)]) rfl ?_
  refine jEv.gfR (o' := (o0 + 33)) (show jfI 242 1 (.getfield 111) 3 [12, 45, 5, 0, 7081] = true by decide +kernel) (isX12_L ho0) (by decide) (isX12_r45 ho0) ?_
  refine jEv.blk [(.bipush 8, 2, []), (.dup2, 1, [])] (by decide +kernel) (pc' := 7) (ls' := [(2, Int.ofNat o0), (0, v1)]) (st' := [(0, 8), (2, Int.ofNat (o0 + 33)), (0, 8), (2, Int.ofNat (o0 + 33))]) rfl ?_
  refine jEv.ald (Or.inl ⟨rfl, rfl, rfl⟩) (show jfI 242 7 (.iaload) 1 [] = true by decide +kernel) (isX12_a45 ho0) H (fun c1 H => ?_)
  refine jEv.blk [(.iconst 1, 1, []), (.iadd, 1, [])] (by decide +kernel) (pc' := 10) (ls' := [(2, Int.ofNat o0), (0, v1)]) (st' := [(0, (wr ((h (o0 + 33) (8 : Int).toNat) + 1))), (0, 8), (2, Int.ofNat (o0 + 33))]) rfl ?_
  refine jEv.ast (Or.inl ⟨rfl, rfl, rfl⟩) (show jfI 242 10 (.iastore) 1 [] = true by decide +kernel) (isX12_a45 ho0) rfl H (fun c2 H => ?_)
  refine jEv.blk [(.aload_n 0, 1, [])] (by decide +kernel) (pc' := 12) (ls' := [(2, Int.ofNat o0), (0, v1)]) (st' := [(2, Int.ofNat o0)]) rfl ?_
  refine jEv.gfR (o' := (o0 + 33)) (show jfI 242 12 (.getfield 111) 3 [12, 45, 5, 0, 7081] = true by decide +kernel) (isX12_L ho0) (by decide) (isX12_r45 ho0) ?_
  refine jEv.blk [(.iconst 5, 1, []), (.iload_n 1, 1, [])] (by decide +kernel) (pc' := 17) (ls' := [(2, Int.ofNat o0), (0, v1)]) (st' := [(0, v1), (0, 5), (2, Int.ofNat (o0 + 33))]) rfl ?_
  refine jEv.ast (Or.inl ⟨rfl, rfl, rfl⟩) (show jfI 242 17 (.iastore) 1 [] = true by decide +kernel) (isX12_a45 ho0) rfl H (fun c3 H => ?_)
  refine jEv.blk [(.aload_n 0, 1, [])] (by decide +kernel) (pc' := 19) (ls' := [(2, Int.ofNat o0), (0, v1)]) (st' := [(2, Int.ofNat o0)]) rfl ?_
  refine jEv.gfR (o' := (o0 + 33)) (show jfI 242 19 (.getfield 111) 3 [12, 45, 5, 0, 7081] = true by decide +kernel) (isX12_L ho0) (by decide) (isX12_r45 ho0) ?_
  refine jEv.blk [(.bipush 6, 2, []), (.iconst 0, 1, [])] (by decide +kernel) (pc' := 25) (ls' := [(2, Int.ofNat o0), (0, v1)]) (st' := [(0, 0), (0, 6), (2, Int.ofNat (o0 + 33))]) rfl ?_
  refine jEv.ast (Or.inl ⟨rfl, rfl, rfl⟩) (show jfI 242 25 (.iastore) 1 [] = true by decide +kernel) (isX12_a45 ho0) rfl H (fun c4 H => ?_)
  refine jEv.blk [(.aload_n 0, 1, [])] (by decide +kernel) (pc' := 27) (ls' := [(2, Int.ofNat o0), (0, v1)]) (st' := [(2, Int.ofNat o0)]) rfl ?_
  refine jEv.gfR (o' := (o0 + 33)) (show jfI 242 27 (.getfield 111) 3 [12, 45, 5, 0, 7081] = true by decide +kernel) (isX12_L ho0) (by decide) (isX12_r45 ho0) ?_
  refine jEv.blk [(.bipush 7, 2, []), (.aload_n 0, 1, [])] (by decide +kernel) (pc' := 33) (ls' := [(2, Int.ofNat o0), (0, v1)]) (st' := [(2, Int.ofNat o0), (0, 7), (2, Int.ofNat (o0 + 33))]) rfl ?_
  refine jEv.gfR (o' := (o0 + 33)) (show jfI 242 33 (.getfield 111) 3 [12, 45, 5, 0, 7081] = true by decide +kernel) (isX12_L ho0) (by decide) (isX12_r45 ho0) ?_
  refine jEv.blk [(.bipush 8, 2, [])] (by decide +kernel) (pc' := 38) (ls' := [(2, Int.ofNat o0), (0, v1)]) (st' := [(0, 8), (2, Int.ofNat (o0 + 33)), (0, 7), (2, Int.ofNat (o0 + 33))]) rfl ?_
  refine jEv.ald (Or.inl ⟨rfl, rfl, rfl⟩) (show jfI 242 38 (.iaload) 1 [] = true by decide +kernel) (isX12_a45 ho0) H (fun c5 H => ?_)
  refine jEv.ast (Or.inl ⟨rfl, rfl, rfl⟩) (show jfI 242 39 (.iastore) 1 [] = true by decide +kernel) (isX12_a45 ho0) rfl H (fun c6 H => ?_)
  refine jEv.blk [(.aload_n 0, 1, [])] (by decide +kernel) (pc' := 41) (ls' := [(2, Int.ofNat o0), (0, v1)]) (st' := [(2, Int.ofNat o0)]) rfl ?_
  refine jEv.gfR (o' := (o0 + 33)) (show jfI 242 41 (.getfield 111) 3 [12, 45, 5, 0, 7081] = true by decide +kernel) (isX12_L ho0) (by decide) (isX12_r45 ho0) ?_
  refine jEv.blk [(.sipush 192, 3, []), (.iload_n 1, 1, []), (.iadd, 1, []), (.iconst (-1), 1, [])] (by decide +kernel) (pc' := 50) (ls' := [(2, Int.ofNat o0), (0, v1)]) (st' := [(0, (-1)), (0, (wr (192 + v1))), (2, Int.ofNat (o0 + 33))]) rfl ?_
  refine jEv.ast (Or.inl ⟨rfl, rfl, rfl⟩) (show jfI 242 50 (.iastore) 1 [] = true by decide +kernel) (isX12_a45 ho0) rfl H (fun c7 H => ?_)
  exact jEv.retV (show jfI 242 51 (.return_) 1 [] = true by decide +kernel) (by decide +kernel) (by cases H; exact HY)
set_option maxRecDepth 20000 in
noncomputable def M_headByteAt  (v0 : Int) (v1 : Int) (v2 : Int) : Option Int := (if v2 = 0 then some (jand (jshr v0 8) 255) else (if v2 = 1 then some (jand v0 255) else (if v2 = 2 then some (jand (jshr v1 8) 255) else some (jand v1 255))))
set_option maxRecDepth 20000 in
theorem t_M_headByteAt {T : jT} {xs : List Int} {h : jH}  {v0 : Int} {v1 : Int} {v2 : Int} {out : Int}  (H : M_headByteAt v0 v1 v2 = some out) : jEm xs 1 244 [(0, v0), (0, v1), (0, v2)] (T, h) ((0, out), (T, h)) := by
  have hd : 0 ≤ 0 := Nat.le_refl _
  obtain ⟨y, ey⟩ : ∃ y : jV × jS, y = ((0, out), (T, h)) := ⟨_, rfl⟩
  rw [← ey]
  have HY : ykIp T h y out := ey
  refine jEm.ent (n := 3) (by decide +kernel) (Nat.le_of_ble_eq_true rfl) ?_
  show jEv xs 0 (244, 0, [(0, v0), (0, v1), (0, v2)], []) (T, h) y
  unfold M_headByteAt at H
  refine jEv.blk [(.iload_n 2, 1, [])] (by decide +kernel) (pc' := 1) (ls' := [(0, v0), (0, v1), (0, v2)]) (st' := [(0, v2)]) rfl ?_
  refine jEv.if_ne (t := 15) (show jfI 244 1 (.ifCond .ne 14) 3 [] = true by decide +kernel) rfl H (fun c1 H => ?_) (fun c1 H => ?_)
  · refine jEv.blk [(.iload_n 0, 1, []), (.bipush 8, 2, []), (.ishr, 1, []), (.sipush 255, 3, []), (.iand, 1, [])] (by decide +kernel) (pc' := 12) (ls' := [(0, v0), (0, v1), (0, v2)]) (st' := [(0, (jand (jshr v0 8) 255))]) rfl ?_
    refine jEv.goto (t := 49) (show jfI 244 12 (.goto 37) 3 [] = true by decide +kernel) rfl ?_
    exact jEv.retI (show jfI 244 49 (.ireturn) 1 [] = true by decide +kernel) (by decide +kernel) (by cases H; exact HY)
  · refine jEv.blk [(.iload_n 2, 1, []), (.iconst 1, 1, [])] (by decide +kernel) (pc' := 17) (ls' := [(0, v0), (0, v1), (0, v2)]) (st' := [(0, 1), (0, v2)]) rfl ?_
    refine jEv.ic_ne (t := 28) (show jfI 244 17 (.if_icmp .ne 11) 3 [] = true by decide +kernel) rfl H (fun c2 H => ?_) (fun c2 H => ?_)
    · refine jEv.blk [(.iload_n 0, 1, []), (.sipush 255, 3, []), (.iand, 1, [])] (by decide +kernel) (pc' := 25) (ls' := [(0, v0), (0, v1), (0, v2)]) (st' := [(0, (jand v0 255))]) rfl ?_
      refine jEv.goto (t := 49) (show jfI 244 25 (.goto 24) 3 [] = true by decide +kernel) rfl ?_
      exact jEv.retI (show jfI 244 49 (.ireturn) 1 [] = true by decide +kernel) (by decide +kernel) (by cases H; exact HY)
    · refine jEv.blk [(.iload_n 2, 1, []), (.iconst 2, 1, [])] (by decide +kernel) (pc' := 30) (ls' := [(0, v0), (0, v1), (0, v2)]) (st' := [(0, 2), (0, v2)]) rfl ?_
      refine jEv.ic_ne (t := 44) (show jfI 244 30 (.if_icmp .ne 14) 3 [] = true by decide +kernel) rfl H (fun c3 H => ?_) (fun c3 H => ?_)
      · refine jEv.blk [(.iload_n 1, 1, []), (.bipush 8, 2, []), (.ishr, 1, []), (.sipush 255, 3, []), (.iand, 1, [])] (by decide +kernel) (pc' := 41) (ls' := [(0, v0), (0, v1), (0, v2)]) (st' := [(0, (jand (jshr v1 8) 255))]) rfl ?_
        refine jEv.goto (t := 49) (show jfI 244 41 (.goto 8) 3 [] = true by decide +kernel) rfl ?_
        exact jEv.retI (show jfI 244 49 (.ireturn) 1 [] = true by decide +kernel) (by decide +kernel) (by cases H; exact HY)
      · refine jEv.blk [(.iload_n 1, 1, []), (.sipush 255, 3, []), (.iand, 1, [])] (by decide +kernel) (pc' := 49) (ls' := [(0, v0), (0, v1), (0, v2)]) (st' := [(0, (jand v1 255))]) rfl ?_
        exact jEv.retI (show jfI 244 49 (.ireturn) 1 [] = true by decide +kernel) (by decide +kernel) (by cases H; exact HY)
