/-! methods as functions -/
def yk_M_triesAnew_L2 (T : jT) (xs : List Int) (d : Nat) (y : jV × jS)  (o0 : Nat) : ((Int × jH) ⊕ jH) → Prop
  | .inl (v1, h) => jEv xs d (307, 2, [(2, Int.ofNat o0), (0, v1)], []) (T, h) y
  | .inr o => ykV T y o
set_option maxRecDepth 20000 in
noncomputable def M_triesAnew_B2  (h : jH) (o0 : Nat) (v1 : Int) : Option ((Int × jH) ⊕ jH) := (if v1 < 2244 then (if (0 : Int) ≤ v1 ∧ (v1 : Int).toNat < 2244 then (if (0 : Int) ≤ v1 ∧ (v1 : Int).toNat < 2365 then some (.inl ((wr (v1 + 1)), (jup h (o0 + 33) (v1 : Int).toNat (h (o0 + 36) (v1 : Int).toNat)))) else none) else none) else Option.map Sum.inr (some h))
noncomputable def M_triesAnew_L2  (h : jH) (o0 : Nat) (v1 : Int) : Option jH := jloop (fun s : (Int × jH) => M_triesAnew_B2 s.2 o0 s.1) (v1, h)
set_option maxRecDepth 20000 in
theorem t_M_triesAnew_B2 {T : jT} {xs : List Int} {d : Nat} {y : jV × jS} (hd : 0 ≤ d) {h : jH}  {o0 : Nat} {v1 : Int} {out : ((Int × jH) ⊕ jH)} (ho0 : isX12 T o0) (H : M_triesAnew_B2 h o0 v1 = some out) (HY : yk_M_triesAnew_L2 T xs d y o0 out) : jEv xs d (307, 2, [(2, Int.ofNat o0), (0, v1)], []) (T, h) y := by
  unfold M_triesAnew_B2 at H
  refine jEv.blk [(.iload_n 1, 1, []), (.sipush 2244, 3, [])] (by decide +kernel) (pc' := 6) (ls' := [(2, Int.ofNat o0), (0, v1)]) (st' := [(0, 2244), (0, v1)]) rfl ?_
  refine jEv.ic_ge (t := 27) (show jfI 307 6 (.if_icmp .ge 21) 3 [] = true by decide +kernel) rfl H (fun c1 H => ?_) (fun c1 H => ?_)
  · refine jEv.blk [(.aload_n 0, 1, [])] (by decide +kernel) (pc' := 10) (ls' := [(2, Int.ofNat o0), (0, v1)]) (st' := [(2, Int.ofNat o0)]) rfl ?_
    refine jEv.gfR (o' := (o0 + 33)) (show jfI 307 10 (.getfield 111) 3 [12, 45, 5, 0, 7081] = true by decide +kernel) (isX12_L ho0) (by decide) (isX12_r45 ho0) ?_
    refine jEv.blk [(.iload_n 1, 1, []), (.aload_n 0, 1, [])] (by decide +kernel) (pc' := 15) (ls' := [(2, Int.ofNat o0), (0, v1)]) (st' := [(2, Int.ofNat o0), (0, v1), (2, Int.ofNat (o0 + 33))]) rfl ?_
    refine jEv.gfR (o' := (o0 + 36)) (show jfI 307 15 (.getfield 123) 3 [12, 57, 5, 0, 7093] = true by decide +kernel) (isX12_L ho0) (by decide) (isX12_r57 ho0) ?_
    refine jEv.blk [(.iload_n 1, 1, [])] (by decide +kernel) (pc' := 19) (ls' := [(2, Int.ofNat o0), (0, v1)]) (st' := [(0, v1), (2, Int.ofNat (o0 + 36)), (0, v1), (2, Int.ofNat (o0 + 33))]) rfl ?_
    refine jEv.ald (Or.inl ⟨rfl, rfl, rfl⟩) (show jfI 307 19 (.iaload) 1 [] = true by decide +kernel) (isX12_a57 ho0) H (fun c2 H => ?_)
    refine jEv.ast (Or.inl ⟨rfl, rfl, rfl⟩) (show jfI 307 20 (.iastore) 1 [] = true by decide +kernel) (isX12_a45 ho0) rfl H (fun c3 H => ?_)
    refine jEv.blk [(.iinc 1 1, 3, [])] (by decide +kernel) (pc' := 24) (ls' := [(2, Int.ofNat o0), (0, (wr (v1 + 1)))]) (st' := []) rfl ?_
    refine jEv.goto (t := 2) (show jfI 307 24 (.goto (-22)) 3 [] = true by decide +kernel) rfl ?_
    exact (by cases H; exact HY)
  · refine jmapr H HY (fun out H (HY : ykV T y out) => ?_)
    exact jEv.retV (show jfI 307 27 (.return_) 1 [] = true by decide +kernel) (by decide +kernel) (by cases H; exact HY)
theorem t_M_triesAnew_L2 {T : jT} {xs : List Int} {d : Nat} {y : jV × jS} (hd : 0 ≤ d) {h : jH}  {o0 : Nat} {v1 : Int} {out : jH} (ho0 : isX12 T o0) (H : M_triesAnew_L2 h o0 v1 = some out) (HY : ykV T y out) : jEv xs d (307, 2, [(2, Int.ofNat o0), (0, v1)], []) (T, h) y :=
  jloop_sound (G := fun s : (Int × jH) => jEv xs d (307, 2, [(2, Int.ofNat o0), (0, s.1)], []) (T, s.2) y) (K := yk_M_triesAnew_L2 T xs d y o0) (fun s out H HY => t_M_triesAnew_B2 hd ho0 H HY) (fun s' hg => hg) (s := (v1, h)) H HY
set_option maxRecDepth 20000 in
noncomputable def M_triesAnew  (h : jH) (o0 : Nat) : Option jH := M_triesAnew_L2 h o0 0
set_option maxRecDepth 20000 in
theorem t_M_triesAnew {T : jT} {xs : List Int} {h : jH}  {o0 : Nat} {out : jH} (ho0 : isX12 T o0) (H : M_triesAnew h o0 = some out) : jEm xs 1 307 [(2, Int.ofNat o0)] (T, h) ((3, 0), (T, out)) := by
  have hd : 0 ≤ 0 := Nat.le_refl _
  obtain ⟨y, ey⟩ : ∃ y : jV × jS, y = ((3, 0), (T, out)) := ⟨_, rfl⟩
  rw [← ey]
  have HY : ykV T y out := ey
  refine jEm.ent (n := 2) (by decide +kernel) (Nat.le_of_ble_eq_true rfl) ?_
  show jEv xs 0 (307, 0, [(2, Int.ofNat o0), (3, 0)], []) (T, h) y
  unfold M_triesAnew at H
  refine jEv.blk [(.iconst 0, 1, []), (.istore_n 1, 1, [])] (by decide +kernel) (pc' := 2) (ls' := [(2, Int.ofNat o0), (0, 0)]) (st' := []) rfl ?_
  exact t_M_triesAnew_L2 (T := T) (xs := xs) (y := y) hd ho0 H HY
set_option maxRecDepth 20000 in
noncomputable def M_takesBack  (h : jH) (o0 : Nat) : Option jH := Option.bind (M_triesAnew h o0) (fun b1 => some (jup b1 o0 56 0))
set_option maxRecDepth 20000 in
theorem t_M_takesBack {T : jT} {xs : List Int} {h : jH}  {o0 : Nat} {out : jH} (ho0 : isX12 T o0) (H : M_takesBack h o0 = some out) : jEm xs 2 306 [(2, Int.ofNat o0)] (T, h) ((3, 0), (T, out)) := by
  have hd : 1 ≤ 1 := Nat.le_refl _
  obtain ⟨y, ey⟩ : ∃ y : jV × jS, y = ((3, 0), (T, out)) := ⟨_, rfl⟩
  rw [← ey]
  have HY : ykV T y out := ey
  refine jEm.ent (n := 1) (by decide +kernel) (Nat.le_of_ble_eq_true rfl) ?_
  show jEv xs 1 (306, 0, [(2, Int.ofNat o0)], []) (T, h) y
  unfold M_takesBack at H
  refine jEv.blk [(.aload_n 0, 1, [])] (by decide +kernel) (pc' := 1) (ls' := [(2, Int.ofNat o0)]) (st' := [(2, Int.ofNat o0)]) rfl ?_
  refine jbind H (fun b1 Hb1 H => ?_)
  refine jEv.calV (st' := []) (show jfI 306 1 (.invokevirtual 491) 3 [1, 307, 0, 10075] = true by decide +kernel) rfl (Or.inl rfl) rfl (Nat.le_of_ble_eq_true rfl) (by decide +kernel) (by decide) (isX12_L ho0) ((t_M_triesAnew (T := T) (xs := xs) ho0 Hb1).mono (jKle 1 hd)) rfl ?_
  refine jEv.blk [(.aload_n 0, 1, []), (.iconst 0, 1, [])] (by decide +kernel) (pc' := 6) (ls' := [(2, Int.ofNat o0)]) (st' := [(0, 0), (2, Int.ofNat o0)]) rfl ?_
  refine jEv.pfZ (show jfI 306 6 (.putfield 467) 3 [12, 56, 0, 1, 7092] = true by decide +kernel) (isX12_L ho0) (by decide) (by decide) ?_
  exact jEv.retV (show jfI 306 9 (.return_) 1 [] = true by decide +kernel) (by decide +kernel) (by cases H; exact HY)
set_option maxRecDepth 20000 in
noncomputable def M_later_p68  (h : jH) (o0 : Nat) (vs0 : Int) : Option (Int × jH) := Option.bind (M_takesBack h o0) (fun b12 => some (vs0, b12))
set_option maxRecDepth 20000 in
theorem t_M_later_p68 {T : jT} {xs : List Int} {d : Nat} {y : jV × jS} (hd : 11 ≤ d) {h : jH}  {o0 : Nat} {vs0 : Int} {out : (Int × jH)} (ho0 : isX12 T o0) (H : M_later_p68 h o0 vs0 = some out) (HY : ykI T y out) : jEv xs d (279, 68, [(2, Int.ofNat o0), (3, 0), (3, 0), (3, 0)], [(0, vs0)]) (T, h) y := by
  unfold M_later_p68 at H
  refine jEv.blk [(.istore_n 3, 1, []), (.aload_n 0, 1, [])] (by decide +kernel) (pc' := 70) (ls' := [(2, Int.ofNat o0), (3, 0), (3, 0), (0, vs0)]) (st' := [(2, Int.ofNat o0)]) rfl ?_
  refine jbind H (fun b12 Hb12 H => ?_)
  refine jEv.calV (st' := []) (show jfI 279 70 (.invokevirtual 597) 3 [1, 306, 0, 10071] = true by decide +kernel) rfl (Or.inl rfl) rfl (Nat.le_of_ble_eq_true rfl) (by decide +kernel) (by decide) (isX12_L ho0) ((t_M_takesBack (T := T) (xs := xs) ho0 Hb12).mono (jKle 2 hd)) rfl ?_
  refine jEv.blk [(.iload_n 3, 1, [])] (by decide +kernel) (pc' := 74) (ls' := [(2, Int.ofNat o0), (3, 0), (3, 0), (0, vs0)]) (st' := [(0, vs0)]) rfl ?_
  exact jEv.retI (show jfI 279 74 (.ireturn) 1 [] = true by decide +kernel) (by decide +kernel) (by cases H; exact HY)
set_option maxRecDepth 20000 in
noncomputable def M_later  (h : jH) (o0 : Nat) (v1 : Int) (v2 : Int) : Option (Int × jH) := Option.bind (M_isAhead h o0 v1 0 100) (fun b1 => (if b1 = 0 then some ((-1), h) else Option.bind (M_isIn v2 0 2) (fun b3 => (if b3 = 0 then some ((-1), h) else Option.bind (M_putsAside h o0) (fun b5 => Option.bind (M_ticksGo b5 o0 v1) (fun b6 => (if v2 = 0 then (if (0 : Int) ≤ 2 ∧ (2 : Int).toNat < 2365 then M_later_p68 b6 o0 (b6 (o0 + 33) (2 : Int).toNat) else none) else (if v2 = 1 then (if (0 : Int) ≤ 11 ∧ (11 : Int).toNat < 2365 then M_later_p68 b6 o0 (b6 (o0 + 33) (11 : Int).toNat) else none) else (if (0 : Int) ≤ 4 ∧ (4 : Int).toNat < 2365 then M_later_p68 b6 o0 (b6 (o0 + 33) (4 : Int).toNat) else none)))))))))
set_option maxRecDepth 20000 in
theorem t_M_later {T : jT} {xs : List Int} {h : jH}  {o0 : Nat} {v1 : Int} {v2 : Int} {out : (Int × jH)} (ho0 : isX12 T o0) (H : M_later h o0 v1 v2 = some out) : jEm xs 12 279 [(2, Int.ofNat o0), (0, v1), (0, v2)] (T, h) ((0, out.1), (T, out.2)) := by
  have hd : 11 ≤ 11 := Nat.le_refl _
  obtain ⟨y, ey⟩ : ∃ y : jV × jS, y = ((0, out.1), (T, out.2)) := ⟨_, rfl⟩
  rw [← ey]
  have HY : ykI T y out := ey
  refine jEm.ent (n := 4) (by decide +kernel) (Nat.le_of_ble_eq_true rfl) ?_
  show jEv xs 11 (279, 0, [(2, Int.ofNat o0), (0, v1), (0, v2), (3, 0)], []) (T, h) y
  unfold M_later at H
  refine jEv.blk [(.aload_n 0, 1, []), (.iload_n 1, 1, []), (.iconst 0, 1, []), (.bipush 100, 2, [])] (by decide +kernel) (pc' := 5) (ls' := [(2, Int.ofNat o0), (0, v1), (0, v2), (3, 0)]) (st' := [(0, 100), (0, 0), (0, v1), (2, Int.ofNat o0)]) rfl ?_
  refine jbind H (fun b1 Hb1 H => ?_)
  refine jEv.calV (st' := [(0, b1)]) (show jfI 279 5 (.invokevirtual 587) 3 [1, 280, 3, 9206] = true by decide +kernel) rfl (Or.inl rfl) rfl (Nat.le_of_ble_eq_true rfl) (by decide +kernel) (by decide) (isX12_L ho0) ((t_M_isAhead (T := T) (xs := xs) ho0 Hb1).mono (jKle 2 hd)) rfl ?_
  refine jEv.if_eq (t := 23) (show jfI 279 8 (.ifCond .eq 15) 3 [] = true by decide +kernel) rfl H (fun c2 H => ?_) (fun c2 H => ?_)
  · refine jEv.blk [(.iconst (-1), 1, [])] (by decide +kernel) (pc' := 24) (ls' := [(2, Int.ofNat o0), (0, v1), (0, v2), (3, 0)]) (st' := [(0, (-1))]) rfl ?_
    exact jEv.retI (show jfI 279 24 (.ireturn) 1 [] = true by decide +kernel) (by decide +kernel) (by cases H; exact HY)
  · refine jEv.blk [(.iload_n 2, 1, []), (.i2l, 1, []), (.lconst 0, 1, []), (.ldc2_w 576, 3, [1, 0, 2, 9165])] (by decide +kernel) (pc' := 17) (ls' := [(2, Int.ofNat o0), (0, v1), (0, v2), (3, 0)]) (st' := [(1, 2), (1, 0), (1, v2)]) rfl ?_
    refine jbind H (fun b3 Hb3 H => ?_)
    refine jEv.calS (st' := [(0, b3)]) (show jfI 279 17 (.invokestatic 275) 3 [3, 213, 3, 8176] = true by decide +kernel) rfl (Or.inl rfl) rfl (Nat.le_of_ble_eq_true rfl) ((t_M_isIn (T := T) (xs := xs)  Hb3).mono (jKle 1 hd)) rfl ?_
    refine jEv.if_ne (t := 25) (show jfI 279 20 (.ifCond .ne 5) 3 [] = true by decide +kernel) rfl H (fun c4 H => ?_) (fun c4 H => ?_)
    · refine jEv.blk [(.iconst (-1), 1, [])] (by decide +kernel) (pc' := 24) (ls' := [(2, Int.ofNat o0), (0, v1), (0, v2), (3, 0)]) (st' := [(0, (-1))]) rfl ?_
      exact jEv.retI (show jfI 279 24 (.ireturn) 1 [] = true by decide +kernel) (by decide +kernel) (by cases H; exact HY)
    · refine jEv.blk [(.aload_n 0, 1, [])] (by decide +kernel) (pc' := 26) (ls' := [(2, Int.ofNat o0), (0, v1), (0, v2), (3, 0)]) (st' := [(2, Int.ofNat o0)]) rfl ?_
      refine jbind H (fun b5 Hb5 H => ?_)
      refine jEv.calV (st' := []) (show jfI 279 26 (.invokevirtual 591) 3 [1, 281, 0, 9210] = true by decide +kernel) rfl (Or.inl rfl) rfl (Nat.le_of_ble_eq_true rfl) (by decide +kernel) (by decide) (isX12_L ho0) ((t_M_putsAside (T := T) (xs := xs) ho0 Hb5).mono (jKle 1 hd)) rfl ?_
      refine jEv.blk [(.aload_n 0, 1, []), (.iload_n 1, 1, [])] (by decide +kernel) (pc' := 31) (ls' := [(2, Int.ofNat o0), (0, v1), (0, v2), (3, 0)]) (st' := [(0, v1), (2, Int.ofNat o0)]) rfl ?_
      refine jbind H (fun b6 Hb6 H => ?_)
      refine jEv.calV (st' := []) (show jfI 279 31 (.invokevirtual 594) 3 [1, 282, 1, 9214] = true by decide +kernel) rfl (Or.inl rfl) rfl (Nat.le_of_ble_eq_true rfl) (by decide +kernel) (by decide) (isX12_L ho0) ((t_M_ticksGo (T := T) (xs := xs) ho0 Hb6).mono (jKle 11 hd)) rfl ?_
      refine jEv.blk [(.iload_n 2, 1, [])] (by decide +kernel) (pc' := 35) (ls' := [(2, Int.ofNat o0), (0, v1), (0, v2), (3, 0)]) (st' := [(0, v2)]) rfl ?_
      refine jEv.if_ne (t := 47) (show jfI 279 35 (.ifCond .ne 12) 3 [] = true by decide +kernel) rfl H (fun c7 H => ?_) (fun c7 H => ?_)
      · refine jEv.blk [(.aload_n 0, 1, [])] (by decide +kernel) (pc' := 39) (ls' := [(2, Int.ofNat o0), (0, v1), (0, v2), (3, 0)]) (st' := [(2, Int.ofNat o0)]) rfl ?_
        refine jEv.gfR (o' := (o0 + 33)) (show jfI 279 39 (.getfield 111) 3 [12, 45, 5, 0, 7081] = true by decide +kernel) (isX12_L ho0) (by decide) (isX12_r45 ho0) ?_
        refine jEv.blk [(.iconst 2, 1, [])] (by decide +kernel) (pc' := 43) (ls' := [(2, Int.ofNat o0), (0, v1), (0, v2), (3, 0)]) (st' := [(0, 2), (2, Int.ofNat (o0 + 33))]) rfl ?_
        refine jEv.ald (Or.inl ⟨rfl, rfl, rfl⟩) (show jfI 279 43 (.iaload) 1 [] = true by decide +kernel) (isX12_a45 ho0) H (fun c8 H => ?_)
        refine jEv.goto (t := 68) (show jfI 279 44 (.goto 24) 3 [] = true by decide +kernel) rfl ?_
        exact jEv.weak (a := [(2, Int.ofNat o0), (3, 0), (3, 0), (3, 0)]) (jles.c1 (jles.c0 (jles.c0 (jles.c0 jles.nl)))) (t_M_later_p68 (T := T) (xs := xs) (y := y) hd ho0 H HY)
      · refine jEv.blk [(.iload_n 2, 1, []), (.iconst 1, 1, [])] (by decide +kernel) (pc' := 49) (ls' := [(2, Int.ofNat o0), (0, v1), (0, v2), (3, 0)]) (st' := [(0, 1), (0, v2)]) rfl ?_
        refine jEv.ic_ne (t := 62) (show jfI 279 49 (.if_icmp .ne 13) 3 [] = true by decide +kernel) rfl H (fun c9 H => ?_) (fun c9 H => ?_)
        · refine jEv.blk [(.aload_n 0, 1, [])] (by decide +kernel) (pc' := 53) (ls' := [(2, Int.ofNat o0), (0, v1), (0, v2), (3, 0)]) (st' := [(2, Int.ofNat o0)]) rfl ?_
          refine jEv.gfR (o' := (o0 + 33)) (show jfI 279 53 (.getfield 111) 3 [12, 45, 5, 0, 7081] = true by decide +kernel) (isX12_L ho0) (by decide) (isX12_r45 ho0) ?_
          refine jEv.blk [(.bipush 11, 2, [])] (by decide +kernel) (pc' := 58) (ls' := [(2, Int.ofNat o0), (0, v1), (0, v2), (3, 0)]) (st' := [(0, 11), (2, Int.ofNat (o0 + 33))]) rfl ?_
          refine jEv.ald (Or.inl ⟨rfl, rfl, rfl⟩) (show jfI 279 58 (.iaload) 1 [] = true by decide +kernel) (isX12_a45 ho0) H (fun c10 H => ?_)
          refine jEv.goto (t := 68) (show jfI 279 59 (.goto 9) 3 [] = true by decide +kernel) rfl ?_
          exact jEv.weak (a := [(2, Int.ofNat o0), (3, 0), (3, 0), (3, 0)]) (jles.c1 (jles.c0 (jles.c0 (jles.c0 jles.nl)))) (t_M_later_p68 (T := T) (xs := xs) (y := y) hd ho0 H HY)
        · refine jEv.blk [(.aload_n 0, 1, [])] (by decide +kernel) (pc' := 63) (ls' := [(2, Int.ofNat o0), (0, v1), (0, v2), (3, 0)]) (st' := [(2, Int.ofNat o0)]) rfl ?_
          refine jEv.gfR (o' := (o0 + 33)) (show jfI 279 63 (.getfield 111) 3 [12, 45, 5, 0, 7081] = true by decide +kernel) (isX12_L ho0) (by decide) (isX12_r45 ho0) ?_
          refine jEv.blk [(.iconst 4, 1, [])] (by decide +kernel) (pc' := 67) (ls' := [(2, Int.ofNat o0), (0, v1), (0, v2), (3, 0)]) (st' := [(0, 4), (2, Int.ofNat (o0 + 33))]) rfl ?_
          refine jEv.ald (Or.inl ⟨rfl, rfl, rfl⟩) (show jfI 279 67 (.iaload) 1 [] = true by decide +kernel) (isX12_a45 ho0) H (fun c11 H => ?_)
          exact jEv.weak (a := [(2, Int.ofNat o0), (3, 0), (3, 0), (3, 0)]) (jles.c1 (jles.c0 (jles.c0 (jles.c0 jles.nl)))) (t_M_later_p68 (T := T) (xs := xs) (y := y) hd ho0 H HY)
def yk_M_ticksTill_L16 (T : jT) (xs : List Int) (d : Nat) (y : jV × jS)  (o0 : Nat) (v1 : Int) : ((Int × jH) ⊕ (Int × jH)) → Prop
  | .inl (v2, h) => jEv xs d (309, 16, [(2, Int.ofNat o0), (0, v1), (0, v2), (3, 0)], []) (T, h) y
  | .inr o => ykI T y o
set_option maxRecDepth 20000 in
noncomputable def M_ticksTill_p69  (h : jH) (o0 : Nat) (v2 : Int) (vs0 : Int) : Option (Int × jH) := Option.bind (M_takesBack h o0) (fun b10 => (if vs0 = 0 then some ((-1), b10) else some (v2, b10)))
set_option maxRecDepth 20000 in
theorem t_M_ticksTill_p69 {T : jT} {xs : List Int} {d : Nat} {y : jV × jS} (hd : 10 ≤ d) {h : jH}  {o0 : Nat} {v2 : Int} {vs0 : Int} {out : (Int × jH)} (ho0 : isX12 T o0) (H : M_ticksTill_p69 h o0 v2 vs0 = some out) (HY : ykI T y out) : jEv xs d (309, 69, [(2, Int.ofNat o0), (3, 0), (0, v2), (3, 0)], [(0, vs0)]) (T, h) y := by
  unfold M_ticksTill_p69 at H
  refine jEv.blk [(.istore_n 3, 1, []), (.aload_n 0, 1, [])] (by decide +kernel) (pc' := 71) (ls' := [(2, Int.ofNat o0), (3, 0), (0, v2), (0, vs0)]) (st' := [(2, Int.ofNat o0)]) rfl ?_
  refine jbind H (fun b10 Hb10 H => ?_)
  refine jEv.calV (st' := []) (show jfI 309 71 (.invokevirtual 597) 3 [1, 306, 0, 10071] = true by decide +kernel) rfl (Or.inl rfl) rfl (Nat.le_of_ble_eq_true rfl) (by decide +kernel) (by decide) (isX12_L ho0) ((t_M_takesBack (T := T) (xs := xs) ho0 Hb10).mono (jKle 2 hd)) rfl ?_
  refine jEv.blk [(.iload_n 3, 1, [])] (by decide +kernel) (pc' := 75) (ls' := [(2, Int.ofNat o0), (3, 0), (0, v2), (0, vs0)]) (st' := [(0, vs0)]) rfl ?_
  refine jEv.if_eq (t := 82) (show jfI 309 75 (.ifCond .eq 7) 3 [] = true by decide +kernel) rfl H (fun c11 H => ?_) (fun c11 H => ?_)
  · refine jEv.blk [(.iconst (-1), 1, [])] (by decide +kernel) (pc' := 83) (ls' := [(2, Int.ofNat o0), (3, 0), (0, v2), (0, vs0)]) (st' := [(0, (-1))]) rfl ?_
    exact jEv.retI (show jfI 309 83 (.ireturn) 1 [] = true by decide +kernel) (by decide +kernel) (by cases H; exact HY)
  · refine jEv.blk [(.iload_n 2, 1, [])] (by decide +kernel) (pc' := 79) (ls' := [(2, Int.ofNat o0), (3, 0), (0, v2), (0, vs0)]) (st' := [(0, v2)]) rfl ?_
    refine jEv.goto (t := 83) (show jfI 309 79 (.goto 4) 3 [] = true by decide +kernel) rfl ?_
    exact jEv.retI (show jfI 309 83 (.ireturn) 1 [] = true by decide +kernel) (by decide +kernel) (by cases H; exact HY)
set_option maxRecDepth 20000 in
noncomputable def M_ticksTill_p54  (h : jH) (o0 : Nat) (v1 : Int) (v2 : Int) : Option (Int × jH) := (if (0 : Int) ≤ 2 ∧ (2 : Int).toNat < 2365 then (if (h (o0 + 33) (2 : Int).toNat) < v1 then M_ticksTill_p69 h o0 v2 0 else M_ticksTill_p69 h o0 v2 1) else none)
set_option maxRecDepth 20000 in
theorem t_M_ticksTill_p54 {T : jT} {xs : List Int} {d : Nat} {y : jV × jS} (hd : 10 ≤ d) {h : jH}  {o0 : Nat} {v1 : Int} {v2 : Int} {out : (Int × jH)} (ho0 : isX12 T o0) (H : M_ticksTill_p54 h o0 v1 v2 = some out) (HY : ykI T y out) : jEv xs d (309, 54, [(2, Int.ofNat o0), (0, v1), (0, v2), (3, 0)], []) (T, h) y := by
  unfold M_ticksTill_p54 at H
  refine jEv.blk [(.aload_n 0, 1, [])] (by decide +kernel) (pc' := 55) (ls' := [(2, Int.ofNat o0), (0, v1), (0, v2), (3, 0)]) (st' := [(2, Int.ofNat o0)]) rfl ?_
  refine jEv.gfR (o' := (o0 + 33)) (show jfI 309 55 (.getfield 111) 3 [12, 45, 5, 0, 7081] = true by decide +kernel) (isX12_L ho0) (by decide) (isX12_r45 ho0) ?_
  refine jEv.blk [(.iconst 2, 1, [])] (by decide +kernel) (pc' := 59) (ls' := [(2, Int.ofNat o0), (0, v1), (0, v2), (3, 0)]) (st' := [(0, 2), (2, Int.ofNat (o0 + 33))]) rfl ?_
  refine jEv.ald (Or.inl ⟨rfl, rfl, rfl⟩) (show jfI 309 59 (.iaload) 1 [] = true by decide +kernel) (isX12_a45 ho0) H (fun c8 H => ?_)
  refine jEv.blk [(.iload_n 1, 1, [])] (by decide +kernel) (pc' := 61) (ls' := [(2, Int.ofNat o0), (0, v1), (0, v2), (3, 0)]) (st' := [(0, v1), (0, (h (o0 + 33) (2 : Int).toNat))]) rfl ?_
  refine jEv.ic_lt (t := 68) (show jfI 309 61 (.if_icmp .lt 7) 3 [] = true by decide +kernel) rfl H (fun c9 H => ?_) (fun c9 H => ?_)
  · refine jEv.blk [(.iconst 0, 1, [])] (by decide +kernel) (pc' := 69) (ls' := [(2, Int.ofNat o0), (0, v1), (0, v2), (3, 0)]) (st' := [(0, 0)]) rfl ?_
    exact jEv.weak (a := [(2, Int.ofNat o0), (3, 0), (0, v2), (3, 0)]) (jles.c1 (jles.c0 (jles.c1 (jles.c0 jles.nl)))) (t_M_ticksTill_p69 (T := T) (xs := xs) (y := y) hd ho0 H HY)
  · refine jEv.blk [(.iconst 1, 1, [])] (by decide +kernel) (pc' := 65) (ls' := [(2, Int.ofNat o0), (0, v1), (0, v2), (3, 0)]) (st' := [(0, 1)]) rfl ?_
    refine jEv.goto (t := 69) (show jfI 309 65 (.goto 4) 3 [] = true by decide +kernel) rfl ?_
    exact jEv.weak (a := [(2, Int.ofNat o0), (3, 0), (0, v2), (3, 0)]) (jles.c1 (jles.c0 (jles.c1 (jles.c0 jles.nl)))) (t_M_ticksTill_p69 (T := T) (xs := xs) (y := y) hd ho0 H HY)
set_option maxRecDepth 20000 in
noncomputable def M_ticksTill_B16  (h : jH) (o0 : Nat) (v1 : Int) (v2 : Int) : Option ((Int × jH) ⊕ (Int × jH)) := (if (0 : Int) ≤ 2 ∧ (2 : Int).toNat < 2365 then (if (h (o0 + 33) (2 : Int).toNat) < v1 then (if v2 < 100 then (if (0 : Int) ≤ 0 ∧ (0 : Int).toNat < 2365 then (if (h (o0 + 33) (0 : Int).toNat) < 999 then Option.bind (M_tickGoes h o0) (fun b7 => some (.inl ((wr (v2 + 1)), b7))) else Option.map Sum.inr (M_ticksTill_p54 h o0 v1 v2)) else none) else Option.map Sum.inr (M_ticksTill_p54 h o0 v1 v2)) else Option.map Sum.inr (M_ticksTill_p54 h o0 v1 v2)) else none)
noncomputable def M_ticksTill_L16  (h : jH) (o0 : Nat) (v1 : Int) (v2 : Int) : Option (Int × jH) := jloop (fun s : (Int × jH) => M_ticksTill_B16 s.2 o0 v1 s.1) (v2, h)
set_option maxRecDepth 20000 in
theorem t_M_ticksTill_B16 {T : jT} {xs : List Int} {d : Nat} {y : jV × jS} (hd : 10 ≤ d) {h : jH}  {o0 : Nat} {v1 : Int} {v2 : Int} {out : ((Int × jH) ⊕ (Int × jH))} (ho0 : isX12 T o0) (H : M_ticksTill_B16 h o0 v1 v2 = some out) (HY : yk_M_ticksTill_L16 T xs d y o0 v1 out) : jEv xs d (309, 16, [(2, Int.ofNat o0), (0, v1), (0, v2), (3, 0)], []) (T, h) y := by
  unfold M_ticksTill_B16 at H
  refine jEv.blk [(.aload_n 0, 1, [])] (by decide +kernel) (pc' := 17) (ls' := [(2, Int.ofNat o0), (0, v1), (0, v2), (3, 0)]) (st' := [(2, Int.ofNat o0)]) rfl ?_
  refine jEv.gfR (o' := (o0 + 33)) (show jfI 309 17 (.getfield 111) 3 [12, 45, 5, 0, 7081] = true by decide +kernel) (isX12_L ho0) (by decide) (isX12_r45 ho0) ?_
  refine jEv.blk [(.iconst 2, 1, [])] (by decide +kernel) (pc' := 21) (ls' := [(2, Int.ofNat o0), (0, v1), (0, v2), (3, 0)]) (st' := [(0, 2), (2, Int.ofNat (o0 + 33))]) rfl ?_
  refine jEv.ald (Or.inl ⟨rfl, rfl, rfl⟩) (show jfI 309 21 (.iaload) 1 [] = true by decide +kernel) (isX12_a45 ho0) H (fun c2 H => ?_)
  refine jEv.blk [(.iload_n 1, 1, [])] (by decide +kernel) (pc' := 23) (ls' := [(2, Int.ofNat o0), (0, v1), (0, v2), (3, 0)]) (st' := [(0, v1), (0, (h (o0 + 33) (2 : Int).toNat))]) rfl ?_
  refine jEv.ic_ge (t := 54) (show jfI 309 23 (.if_icmp .ge 31) 3 [] = true by decide +kernel) rfl H (fun c3 H => ?_) (fun c3 H => ?_)
  · refine jEv.blk [(.iload_n 2, 1, []), (.bipush 100, 2, [])] (by decide +kernel) (pc' := 29) (ls' := [(2, Int.ofNat o0), (0, v1), (0, v2), (3, 0)]) (st' := [(0, 100), (0, v2)]) rfl ?_
    refine jEv.ic_ge (t := 54) (show jfI 309 29 (.if_icmp .ge 25) 3 [] = true by decide +kernel) rfl H (fun c4 H => ?_) (fun c4 H => ?_)
    · refine jEv.blk [(.aload_n 0, 1, [])] (by decide +kernel) (pc' := 33) (ls' := [(2, Int.ofNat o0), (0, v1), (0, v2), (3, 0)]) (st' := [(2, Int.ofNat o0)]) rfl ?_
      refine jEv.gfR (o' := (o0 + 33)) (show jfI 309 33 (.getfield 111) 3 [12, 45, 5, 0, 7081] = true by decide +kernel) (isX12_L ho0) (by decide) (isX12_r45 ho0) ?_
      refine jEv.blk [(.iconst 0, 1, [])] (by decide +kernel) (pc' := 37) (ls' := [(2, Int.ofNat o0), (0, v1), (0, v2), (3, 0)]) (st' := [(0, 0), (2, Int.ofNat (o0 + 33))]) rfl ?_
      refine jEv.ald (Or.inl ⟨rfl, rfl, rfl⟩) (show jfI 309 37 (.iaload) 1 [] = true by decide +kernel) (isX12_a45 ho0) H (fun c5 H => ?_)
      refine jEv.blk [(.sipush 999, 3, [])] (by decide +kernel) (pc' := 41) (ls' := [(2, Int.ofNat o0), (0, v1), (0, v2), (3, 0)]) (st' := [(0, 999), (0, (h (o0 + 33) (0 : Int).toNat))]) rfl ?_
      refine jEv.ic_ge (t := 54) (show jfI 309 41 (.if_icmp .ge 13) 3 [] = true by decide +kernel) rfl H (fun c6 H => ?_) (fun c6 H => ?_)
      · refine jEv.blk [(.aload_n 0, 1, [])] (by decide +kernel) (pc' := 45) (ls' := [(2, Int.ofNat o0), (0, v1), (0, v2), (3, 0)]) (st' := [(2, Int.ofNat o0)]) rfl ?_
        refine jbind H (fun b7 Hb7 H => ?_)
        refine jEv.calV (st' := []) (show jfI 309 45 (.invokevirtual 488) 3 [1, 283, 0, 9218] = true by decide +kernel) rfl (Or.inl rfl) rfl (Nat.le_of_ble_eq_true rfl) (by decide +kernel) (by decide) (isX12_L ho0) ((t_M_tickGoes (T := T) (xs := xs) ho0 Hb7).mono (jKle 10 hd)) rfl ?_
        refine jEv.blk [(.iinc 2 1, 3, [])] (by decide +kernel) (pc' := 51) (ls' := [(2, Int.ofNat o0), (0, v1), (0, (wr (v2 + 1))), (3, 0)]) (st' := []) rfl ?_
        refine jEv.goto (t := 16) (show jfI 309 51 (.goto (-35)) 3 [] = true by decide +kernel) rfl ?_
        exact (by cases H; exact HY)
      · refine jmapr H HY (fun out H (HY : ykI T y out) => ?_)
        exact t_M_ticksTill_p54 (T := T) (xs := xs) (y := y) hd ho0 H HY
    · refine jmapr H HY (fun out H (HY : ykI T y out) => ?_)
      exact t_M_ticksTill_p54 (T := T) (xs := xs) (y := y) hd ho0 H HY
  · refine jmapr H HY (fun out H (HY : ykI T y out) => ?_)
    exact t_M_ticksTill_p54 (T := T) (xs := xs) (y := y) hd ho0 H HY
theorem t_M_ticksTill_L16 {T : jT} {xs : List Int} {d : Nat} {y : jV × jS} (hd : 10 ≤ d) {h : jH}  {o0 : Nat} {v1 : Int} {v2 : Int} {out : (Int × jH)} (ho0 : isX12 T o0) (H : M_ticksTill_L16 h o0 v1 v2 = some out) (HY : ykI T y out) : jEv xs d (309, 16, [(2, Int.ofNat o0), (0, v1), (0, v2), (3, 0)], []) (T, h) y :=
  jloop_sound (G := fun s : (Int × jH) => jEv xs d (309, 16, [(2, Int.ofNat o0), (0, v1), (0, s.1), (3, 0)], []) (T, s.2) y) (K := yk_M_ticksTill_L16 T xs d y o0 v1) (fun s out H HY => t_M_ticksTill_B16 hd ho0 H HY) (fun s' hg => hg) (s := (v2, h)) H HY
set_option maxRecDepth 20000 in
noncomputable def M_ticksTill  (h : jH) (o0 : Nat) (v1 : Int) : Option (Int × jH) := Option.bind (M_putsAside (jup (jup h o0 55 0) o0 54 0) o0) (fun b1 => M_ticksTill_L16 b1 o0 v1 0)
set_option maxRecDepth 20000 in
theorem t_M_ticksTill {T : jT} {xs : List Int} {h : jH}  {o0 : Nat} {v1 : Int} {out : (Int × jH)} (ho0 : isX12 T o0) (H : M_ticksTill h o0 v1 = some out) : jEm xs 11 309 [(2, Int.ofNat o0), (0, v1)] (T, h) ((0, out.1), (T, out.2)) := by
  have hd : 10 ≤ 10 := Nat.le_refl _
  obtain ⟨y, ey⟩ : ∃ y : jV × jS, y = ((0, out.1), (T, out.2)) := ⟨_, rfl⟩
  rw [← ey]
  have HY : ykI T y out := ey
  refine jEm.ent (n := 4) (by decide +kernel) (Nat.le_of_ble_eq_true rfl) ?_
  show jEv xs 10 (309, 0, [(2, Int.ofNat o0), (0, v1), (3, 0), (3, 0)], []) (T, h) y
  unfold M_ticksTill at H
  refine jEv.blk [(.iconst 0, 1, []), (.istore_n 2, 1, []), (.aload_n 0, 1, []), (.iconst 0, 1, [])] (by decide +kernel) (pc' := 4) (ls' := [(2, Int.ofNat o0), (0, v1), (0, 0), (3, 0)]) (st' := [(0, 0), (2, Int.ofNat o0)]) rfl ?_
  refine jEv.pfI (show jfI 309 4 (.putfield 473) 3 [12, 55, 0, 0, 7091] = true by decide +kernel) (isX12_L ho0) (by decide) ?_
  refine jEv.blk [(.aload_n 0, 1, []), (.iconst 0, 1, [])] (by decide +kernel) (pc' := 9) (ls' := [(2, Int.ofNat o0), (0, v1), (0, 0), (3, 0)]) (st' := [(0, 0), (2, Int.ofNat o0)]) rfl ?_
  refine jEv.pfI (show jfI 309 9 (.putfield 482) 3 [12, 54, 0, 0, 7090] = true by decide +kernel) (isX12_L ho0) (by decide) ?_
  refine jEv.blk [(.aload_n 0, 1, [])] (by decide +kernel) (pc' := 13) (ls' := [(2, Int.ofNat o0), (0, v1), (0, 0), (3, 0)]) (st' := [(2, Int.ofNat o0)]) rfl ?_
  refine jbind H (fun b1 Hb1 H => ?_)
  refine jEv.calV (st' := []) (show jfI 309 13 (.invokevirtual 591) 3 [1, 281, 0, 9210] = true by decide +kernel) rfl (Or.inl rfl) rfl (Nat.le_of_ble_eq_true rfl) (by decide +kernel) (by decide) (isX12_L ho0) ((t_M_putsAside (T := T) (xs := xs) ho0 Hb1).mono (jKle 1 hd)) rfl ?_
  exact t_M_ticksTill_L16 (T := T) (xs := xs) (y := y) hd ho0 H HY
set_option maxRecDepth 20000 in
noncomputable def M_when_p35  (h : jH)  : Option (Int × jH) := some ((-1), h)
set_option maxRecDepth 20000 in
theorem t_M_when_p35 {T : jT} {xs : List Int} {d : Nat} {y : jV × jS} (hd : 11 ≤ d) {h : jH}   {out : (Int × jH)}  (H : M_when_p35 h = some out) (HY : ykI T y out) : jEv xs d (308, 35, [(3, 0), (3, 0)], []) (T, h) y := by
  unfold M_when_p35 at H
  refine jEv.blk [(.iconst (-1), 1, [])] (by decide +kernel) (pc' := 36) (ls' := [(3, 0), (3, 0)]) (st' := [(0, (-1))]) rfl ?_
  exact jEv.retI (show jfI 308 36 (.ireturn) 1 [] = true by decide +kernel) (by decide +kernel) (by cases H; exact HY)
set_option maxRecDepth 20000 in
noncomputable def M_when  (h : jH) (o0 : Nat) (v1 : Int) : Option (Int × jH) := (if (h o0 43) = 0 then M_when_p35 h else (if (0 : Int) ≤ 1 ∧ (1 : Int).toNat < 2365 then Option.bind (M_isIn v1 0 (wr ((h (o0 + 33) (1 : Int).toNat) - 1))) (fun b3 => (if b3 = 0 then M_when_p35 h else Option.bind (M_ticksTill h o0 (wr (v1 + 1))) (fun b5 => some (b5.1, b5.2)))) else none))
set_option maxRecDepth 20000 in
theorem t_M_when {T : jT} {xs : List Int} {h : jH}  {o0 : Nat} {v1 : Int} {out : (Int × jH)} (ho0 : isX12 T o0) (H : M_when h o0 v1 = some out) : jEm xs 12 308 [(2, Int.ofNat o0), (0, v1)] (T, h) ((0, out.1), (T, out.2)) := by
  have hd : 11 ≤ 11 := Nat.le_refl _
  obtain ⟨y, ey⟩ : ∃ y : jV × jS, y = ((0, out.1), (T, out.2)) := ⟨_, rfl⟩
  rw [← ey]
  have HY : ykI T y out := ey
  refine jEm.ent (n := 2) (by decide +kernel) (Nat.le_of_ble_eq_true rfl) ?_
  show jEv xs 11 (308, 0, [(2, Int.ofNat o0), (0, v1)], []) (T, h) y
  unfold M_when at H
  refine jEv.blk [(.aload_n 0, 1, [])] (by decide +kernel) (pc' := 1) (ls' := [(2, Int.ofNat o0), (0, v1)]) (st' := [(2, Int.ofNat o0)]) rfl ?_
  refine jEv.gfI (show jfI 308 1 (.getfield 340) 3 [12, 43, 0, 1, 7079] = true by decide +kernel) (isX12_L ho0) (by decide) ?_
  refine jEv.if_eq (t := 35) (show jfI 308 4 (.ifCond .eq 31) 3 [] = true by decide +kernel) rfl H (fun c1 H => ?_) (fun c1 H => ?_)
  · exact jEv.weak (a := [(3, 0), (3, 0)]) (jles.c0 (jles.c0 jles.nl)) (t_M_when_p35 (T := T) (xs := xs) (y := y) hd H HY)
  · refine jEv.blk [(.iload_n 1, 1, []), (.i2l, 1, []), (.lconst 0, 1, []), (.aload_n 0, 1, [])] (by decide +kernel) (pc' := 11) (ls' := [(2, Int.ofNat o0), (0, v1)]) (st' := [(2, Int.ofNat o0), (1, 0), (1, v1)]) rfl ?_
    refine jEv.gfR (o' := (o0 + 33)) (show jfI 308 11 (.getfield 111) 3 [12, 45, 5, 0, 7081] = true by decide +kernel) (isX12_L ho0) (by decide) (isX12_r45 ho0) ?_
    refine jEv.blk [(.iconst 1, 1, [])] (by decide +kernel) (pc' := 15) (ls' := [(2, Int.ofNat o0), (0, v1)]) (st' := [(0, 1), (2, Int.ofNat (o0 + 33)), (1, 0), (1, v1)]) rfl ?_
    refine jEv.ald (Or.inl ⟨rfl, rfl, rfl⟩) (show jfI 308 15 (.iaload) 1 [] = true by decide +kernel) (isX12_a45 ho0) H (fun c2 H => ?_)
    refine jEv.blk [(.iconst 1, 1, []), (.isub, 1, []), (.i2l, 1, [])] (by decide +kernel) (pc' := 19) (ls' := [(2, Int.ofNat o0), (0, v1)]) (st' := [(1, (wr ((h (o0 + 33) (1 : Int).toNat) - 1))), (1, 0), (1, v1)]) rfl ?_
    refine jbind H (fun b3 Hb3 H => ?_)
    refine jEv.calS (st' := [(0, b3)]) (show jfI 308 19 (.invokestatic 275) 3 [3, 213, 3, 8176] = true by decide +kernel) rfl (Or.inl rfl) rfl (Nat.le_of_ble_eq_true rfl) ((t_M_isIn (T := T) (xs := xs)  Hb3).mono (jKle 1 hd)) rfl ?_
    refine jEv.if_eq (t := 35) (show jfI 308 22 (.ifCond .eq 13) 3 [] = true by decide +kernel) rfl H (fun c4 H => ?_) (fun c4 H => ?_)
    · exact jEv.weak (a := [(3, 0), (3, 0)]) (jles.c0 (jles.c0 jles.nl)) (t_M_when_p35 (T := T) (xs := xs) (y := y) hd H HY)
    · refine jEv.blk [(.aload_n 0, 1, []), (.iload_n 1, 1, []), (.iconst 1, 1, []), (.iadd, 1, [])] (by decide +kernel) (pc' := 29) (ls' := [(2, Int.ofNat o0), (0, v1)]) (st' := [(0, (wr (v1 + 1))), (2, Int.ofNat o0)]) rfl ?_
      refine jbind H (fun b5 Hb5 H => ?_)
      refine jEv.calV (st' := [(0, b5.1)]) (show jfI 308 29 (.invokevirtual 600) 3 [1, 309, 1, 10083] = true by decide +kernel) rfl (Or.inl rfl) rfl (Nat.le_of_ble_eq_true rfl) (by decide +kernel) (by decide) (isX12_L ho0) ((t_M_ticksTill (T := T) (xs := xs) ho0 Hb5).mono (jKle 11 hd)) rfl ?_
      refine jEv.goto (t := 36) (show jfI 308 32 (.goto 4) 3 [] = true by decide +kernel) rfl ?_
      exact jEv.retI (show jfI 308 36 (.ireturn) 1 [] = true by decide +kernel) (by decide +kernel) (by cases H; exact HY)
set_option maxRecDepth 20000 in
noncomputable def M_rule_p72  (h : jH) (v3 : Int) : Option (Int × jH) := some (v3, h)
set_option maxRecDepth 20000 in
theorem t_M_rule_p72 {T : jT} {xs : List Int} {d : Nat} {y : jV × jS} (hd : 11 ≤ d) {h : jH}  {v3 : Int} {out : (Int × jH)}  (H : M_rule_p72 h v3 = some out) (HY : ykI T y out) : jEv xs d (310, 72, [(3, 0), (3, 0), (3, 0), (0, v3)], []) (T, h) y := by
  unfold M_rule_p72 at H
  refine jEv.blk [(.iload_n 3, 1, [])] (by decide +kernel) (pc' := 73) (ls' := [(3, 0), (3, 0), (3, 0), (0, v3)]) (st' := [(0, v3)]) rfl ?_
  refine jEv.goto (t := 80) (show jfI 310 73 (.goto 7) 3 [] = true by decide +kernel) rfl ?_
  exact jEv.retI (show jfI 310 80 (.ireturn) 1 [] = true by decide +kernel) (by decide +kernel) (by cases H; exact HY)
set_option maxRecDepth 20000 in
noncomputable def M_rule  (h : jH) (o0 : Nat) (v1 : Int) (v2 : Int) : Option (Int × jH) := (if (h o0 43) = 0 then some ((-1), h) else Option.bind (M_isIn v1 1 8) (fun b2 => (if b2 = 0 then some ((-1), h) else Option.bind (M_isIn v2 0 1) (fun b4 => (if b4 = 0 then some ((-1), h) else (if (0 : Int) ≤ 10 ∧ (10 : Int).toNat < 2365 then (if (h (o0 + 33) (10 : Int).toNat) = 1 then some ((-1), h) else (if (0 : Int) ≤ 1 ∧ (1 : Int).toNat < 2365 then Option.bind (M_ticksTill (jup h o0 52 v1) o0 ((jup h o0 52 v1) (o0 + 33) (1 : Int).toNat)) (fun b9 => (if b9.1 = (-1) then M_rule_p72 (jup b9.2 o0 52 (-1)) b9.1 else (if v2 = 0 then M_rule_p72 (jup b9.2 o0 52 (-1)) b9.1 else some (((jup b9.2 o0 52 (-1)) o0 54), (jup b9.2 o0 52 (-1)))))) else none)) else none))))))
set_option maxRecDepth 20000 in
theorem t_M_rule {T : jT} {xs : List Int} {h : jH}  {o0 : Nat} {v1 : Int} {v2 : Int} {out : (Int × jH)} (ho0 : isX12 T o0) (H : M_rule h o0 v1 v2 = some out) : jEm xs 12 310 [(2, Int.ofNat o0), (0, v1), (0, v2)] (T, h) ((0, out.1), (T, out.2)) := by
  have hd : 11 ≤ 11 := Nat.le_refl _
  obtain ⟨y, ey⟩ : ∃ y : jV × jS, y = ((0, out.1), (T, out.2)) := ⟨_, rfl⟩
  rw [← ey]
  have HY : ykI T y out := ey
  refine jEm.ent (n := 4) (by decide +kernel) (Nat.le_of_ble_eq_true rfl) ?_
  show jEv xs 11 (310, 0, [(2, Int.ofNat o0), (0, v1), (0, v2), (3, 0)], []) (T, h) y
  unfold M_rule at H
  refine jEv.blk [(.aload_n 0, 1, [])] (by decide +kernel) (pc' := 1) (ls' := [(2, Int.ofNat o0), (0, v1), (0, v2), (3, 0)]) (st' := [(2, Int.ofNat o0)]) rfl ?_
  refine jEv.gfI (show jfI 310 1 (.getfield 340) 3 [12, 43, 0, 1, 7079] = true by decide +kernel) (isX12_L ho0) (by decide) ?_
  refine jEv.if_eq (t := 40) (show jfI 310 4 (.ifCond .eq 36) 3 [] = true by decide +kernel) rfl H (fun c1 H => ?_) (fun c1 H => ?_)
  · refine jEv.blk [(.iconst (-1), 1, [])] (by decide +kernel) (pc' := 41) (ls' := [(2, Int.ofNat o0), (0, v1), (0, v2), (3, 0)]) (st' := [(0, (-1))]) rfl ?_
    exact jEv.retI (show jfI 310 41 (.ireturn) 1 [] = true by decide +kernel) (by decide +kernel) (by cases H; exact HY)
  · refine jEv.blk [(.iload_n 1, 1, []), (.i2l, 1, []), (.lconst 1, 1, []), (.ldc2_w 603, 3, [1, 0, 8, 10091])] (by decide +kernel) (pc' := 13) (ls' := [(2, Int.ofNat o0), (0, v1), (0, v2), (3, 0)]) (st' := [(1, 8), (1, 1), (1, v1)]) rfl ?_
    refine jbind H (fun b2 Hb2 H => ?_)
    refine jEv.calS (st' := [(0, b2)]) (show jfI 310 13 (.invokestatic 275) 3 [3, 213, 3, 8176] = true by decide +kernel) rfl (Or.inl rfl) rfl (Nat.le_of_ble_eq_true rfl) ((t_M_isIn (T := T) (xs := xs)  Hb2).mono (jKle 1 hd)) rfl ?_
    refine jEv.if_eq (t := 40) (show jfI 310 16 (.ifCond .eq 24) 3 [] = true by decide +kernel) rfl H (fun c3 H => ?_) (fun c3 H => ?_)
    · refine jEv.blk [(.iconst (-1), 1, [])] (by decide +kernel) (pc' := 41) (ls' := [(2, Int.ofNat o0), (0, v1), (0, v2), (3, 0)]) (st' := [(0, (-1))]) rfl ?_
      exact jEv.retI (show jfI 310 41 (.ireturn) 1 [] = true by decide +kernel) (by decide +kernel) (by cases H; exact HY)
    · refine jEv.blk [(.iload_n 2, 1, []), (.i2l, 1, []), (.lconst 0, 1, []), (.lconst 1, 1, [])] (by decide +kernel) (pc' := 23) (ls' := [(2, Int.ofNat o0), (0, v1), (0, v2), (3, 0)]) (st' := [(1, 1), (1, 0), (1, v2)]) rfl ?_
      refine jbind H (fun b4 Hb4 H => ?_)
      refine jEv.calS (st' := [(0, b4)]) (show jfI 310 23 (.invokestatic 275) 3 [3, 213, 3, 8176] = true by decide +kernel) rfl (Or.inl rfl) rfl (Nat.le_of_ble_eq_true rfl) ((t_M_isIn (T := T) (xs := xs)  Hb4).mono (jKle 1 hd)) rfl ?_
      refine jEv.if_eq (t := 40) (show jfI 310 26 (.ifCond .eq 14) 3 [] = true by decide +kernel) rfl H (fun c5 H => ?_) (fun c5 H => ?_)
      · refine jEv.blk [(.iconst (-1), 1, [])] (by decide +kernel) (pc' := 41) (ls' := [(2, Int.ofNat o0), (0, v1), (0, v2), (3, 0)]) (st' := [(0, (-1))]) rfl ?_
        exact jEv.retI (show jfI 310 41 (.ireturn) 1 [] = true by decide +kernel) (by decide +kernel) (by cases H; exact HY)
      · refine jEv.blk [(.aload_n 0, 1, [])] (by decide +kernel) (pc' := 30) (ls' := [(2, Int.ofNat o0), (0, v1), (0, v2), (3, 0)]) (st' := [(2, Int.ofNat o0)]) rfl ?_
        refine jEv.gfR (o' := (o0 + 33)) (show jfI 310 30 (.getfield 111) 3 [12, 45, 5, 0, 7081] = true by decide +kernel) (isX12_L ho0) (by decide) (isX12_r45 ho0) ?_
        refine jEv.blk [(.bipush 10, 2, [])] (by decide +kernel) (pc' := 35) (ls' := [(2, Int.ofNat o0), (0, v1), (0, v2), (3, 0)]) (st' := [(0, 10), (2, Int.ofNat (o0 + 33))]) rfl ?_
        refine jEv.ald (Or.inl ⟨rfl, rfl, rfl⟩) (show jfI 310 35 (.iaload) 1 [] = true by decide +kernel) (isX12_a45 ho0) H (fun c6 H => ?_)
        refine jEv.blk [(.iconst 1, 1, [])] (by decide +kernel) (pc' := 37) (ls' := [(2, Int.ofNat o0), (0, v1), (0, v2), (3, 0)]) (st' := [(0, 1), (0, (h (o0 + 33) (10 : Int).toNat))]) rfl ?_
        refine jEv.ic_ne (t := 42) (show jfI 310 37 (.if_icmp .ne 5) 3 [] = true by decide +kernel) rfl H (fun c7 H => ?_) (fun c7 H => ?_)
        · refine jEv.blk [(.iconst (-1), 1, [])] (by decide +kernel) (pc' := 41) (ls' := [(2, Int.ofNat o0), (0, v1), (0, v2), (3, 0)]) (st' := [(0, (-1))]) rfl ?_
          exact jEv.retI (show jfI 310 41 (.ireturn) 1 [] = true by decide +kernel) (by decide +kernel) (by cases H; exact HY)
        · refine jEv.blk [(.aload_n 0, 1, []), (.iload_n 1, 1, [])] (by decide +kernel) (pc' := 44) (ls' := [(2, Int.ofNat o0), (0, v1), (0, v2), (3, 0)]) (st' := [(0, v1), (2, Int.ofNat o0)]) rfl ?_
          refine jEv.pfI (show jfI 310 44 (.putfield 120) 3 [12, 52, 0, 0, 7088] = true by decide +kernel) (isX12_L ho0) (by decide) ?_
          refine jEv.blk [(.aload_n 0, 1, []), (.aload_n 0, 1, [])] (by decide +kernel) (pc' := 49) (ls' := [(2, Int.ofNat o0), (0, v1), (0, v2), (3, 0)]) (st' := [(2, Int.ofNat o0), (2, Int.ofNat o0)]) rfl ?_
          refine jEv.gfR (o' := (o0 + 33)) (show jfI 310 49 (.getfield 111) 3 [12, 45, 5, 0, 7081] = true by decide +kernel) (isX12_L ho0) (by decide) (isX12_r45 ho0) ?_
          refine jEv.blk [(.iconst 1, 1, [])] (by decide +kernel) (pc' := 53) (ls' := [(2, Int.ofNat o0), (0, v1), (0, v2), (3, 0)]) (st' := [(0, 1), (2, Int.ofNat (o0 + 33)), (2, Int.ofNat o0)]) rfl ?_
          refine jEv.ald (Or.inl ⟨rfl, rfl, rfl⟩) (show jfI 310 53 (.iaload) 1 [] = true by decide +kernel) (isX12_a45 ho0) H (fun c8 H => ?_)
          refine jbind H (fun b9 Hb9 H => ?_)
          refine jEv.calV (st' := [(0, b9.1)]) (show jfI 310 54 (.invokevirtual 600) 3 [1, 309, 1, 10083] = true by decide +kernel) rfl (Or.inl rfl) rfl (Nat.le_of_ble_eq_true rfl) (by decide +kernel) (by decide) (isX12_L ho0) ((t_M_ticksTill (T := T) (xs := xs) ho0 Hb9).mono (jKle 11 hd)) rfl ?_
          refine jEv.blk [(.istore_n 3, 1, []), (.aload_n 0, 1, []), (.iconst (-1), 1, [])] (by decide +kernel) (pc' := 60) (ls' := [(2, Int.ofNat o0), (0, v1), (0, v2), (0, b9.1)]) (st' := [(0, (-1)), (2, Int.ofNat o0)]) rfl ?_
          refine jEv.pfI (show jfI 310 60 (.putfield 120) 3 [12, 52, 0, 0, 7088] = true by decide +kernel) (isX12_L ho0) (by decide) ?_
          refine jEv.blk [(.iload_n 3, 1, []), (.iconst (-1), 1, [])] (by decide +kernel) (pc' := 65) (ls' := [(2, Int.ofNat o0), (0, v1), (0, v2), (0, b9.1)]) (st' := [(0, (-1)), (0, b9.1)]) rfl ?_
          refine jEv.ic_eq (t := 72) (show jfI 310 65 (.if_icmp .eq 7) 3 [] = true by decide +kernel) rfl H (fun c10 H => ?_) (fun c10 H => ?_)
          · exact jEv.weak (a := [(3, 0), (3, 0), (3, 0), (0, b9.1)]) (jles.c0 (jles.c0 (jles.c0 (jles.c1 jles.nl)))) (t_M_rule_p72 (T := T) (xs := xs) (y := y) hd H HY)
          · refine jEv.blk [(.iload_n 2, 1, [])] (by decide +kernel) (pc' := 69) (ls' := [(2, Int.ofNat o0), (0, v1), (0, v2), (0, b9.1)]) (st' := [(0, v2)]) rfl ?_
            refine jEv.if_ne (t := 76) (show jfI 310 69 (.ifCond .ne 7) 3 [] = true by decide +kernel) rfl H (fun c11 H => ?_) (fun c11 H => ?_)
            · exact jEv.weak (a := [(3, 0), (3, 0), (3, 0), (0, b9.1)]) (jles.c0 (jles.c0 (jles.c0 (jles.c1 jles.nl)))) (t_M_rule_p72 (T := T) (xs := xs) (y := y) hd H HY)
            · refine jEv.blk [(.aload_n 0, 1, [])] (by decide +kernel) (pc' := 77) (ls' := [(2, Int.ofNat o0), (0, v1), (0, v2), (0, b9.1)]) (st' := [(2, Int.ofNat o0)]) rfl ?_
              refine jEv.gfI (show jfI 310 77 (.getfield 482) 3 [12, 54, 0, 0, 7090] = true by decide +kernel) (isX12_L ho0) (by decide) ?_
              exact jEv.retI (show jfI 310 80 (.ireturn) 1 [] = true by decide +kernel) (by decide +kernel) (by cases H; exact HY)
def yk_M_best_L19 (T : jT) (xs : List Int) (d : Nat) (y : jV × jS)  (o0 : Nat) (v1 : Int) : ((Int × Int × Int × jH) ⊕ (Int × jH)) → Prop
  | .inl (v2, v3, v4, h) => jEv xs d (311, 19, [(2, Int.ofNat o0), (0, v1), (0, v2), (0, v3), (0, v4), (3, 0)], []) (T, h) y
  | .inr o => ykI T y o
set_option maxRecDepth 20000 in
noncomputable def M_best_p55  (h : jH) (o0 : Nat) (v1 : Int) (v4 : Int) (v5 : Int) : Option ((Int × Int × Int × jH) ⊕ (Int × jH)) := some (.inl (v4, v5, (wr (v4 + 1)), h))
set_option maxRecDepth 20000 in
theorem t_M_best_p55 {T : jT} {xs : List Int} {d : Nat} {y : jV × jS} (hd : 12 ≤ d) {h : jH}  {o0 : Nat} {v1 : Int} {v4 : Int} {v5 : Int} {out : ((Int × Int × Int × jH) ⊕ (Int × jH))} (ho0 : isX12 T o0) (H : M_best_p55 h o0 v1 v4 v5 = some out) (HY : yk_M_best_L19 T xs d y o0 v1 out) : jEv xs d (311, 55, [(2, Int.ofNat o0), (0, v1), (3, 0), (3, 0), (0, v4), (0, v5)], []) (T, h) y := by
  unfold M_best_p55 at H
  refine jEv.blk [(.iload 4, 2, []), (.istore_n 2, 1, []), (.iload 5, 2, []), (.istore_n 3, 1, [])] (by decide +kernel) (pc' := 61) (ls' := [(2, Int.ofNat o0), (0, v1), (0, v4), (0, v5), (0, v4), (0, v5)]) (st' := []) rfl ?_
  refine jEv.blk [(.iinc 4 1, 3, [])] (by decide +kernel) (pc' := 64) (ls' := [(2, Int.ofNat o0), (0, v1), (0, v4), (0, v5), (0, (wr (v4 + 1))), (0, v5)]) (st' := []) rfl ?_
  refine jEv.goto (t := 19) (show jfI 311 64 (.goto (-45)) 3 [] = true by decide +kernel) rfl ?_
  exact jEv.weak (a := [(2, Int.ofNat o0), (0, v1), (0, v4), (0, v5), (0, (wr (v4 + 1))), (3, 0)]) (jles.c1 (jles.c1 (jles.c1 (jles.c1 (jles.c1 (jles.c0 jles.nl)))))) ((by cases H; exact HY))
set_option maxRecDepth 20000 in
noncomputable def M_best_B19  (h : jH) (o0 : Nat) (v1 : Int) (v2 : Int) (v3 : Int) (v4 : Int) : Option ((Int × Int × Int × jH) ⊕ (Int × jH)) := (if 8 < v4 then Option.map Sum.inr ((if v1 = 0 then some (v2, h) else some (v3, h))) else Option.bind (M_rule h o0 v4 1) (fun b5 => (if b5.1 = (-1) then some (.inl (v2, v3, (wr (v4 + 1)), b5.2)) else (if v2 = (-1) then M_best_p55 b5.2 o0 v1 v4 b5.1 else (if b5.1 < v3 then M_best_p55 b5.2 o0 v1 v4 b5.1 else some (.inl (v2, v3, (wr (v4 + 1)), b5.2)))))))
noncomputable def M_best_L19  (h : jH) (o0 : Nat) (v1 : Int) (v2 : Int) (v3 : Int) (v4 : Int) : Option (Int × jH) := jloop (fun s : (Int × Int × Int × jH) => M_best_B19 s.2.2.2 o0 v1 s.1 s.2.1 s.2.2.1) (v2, v3, v4, h)
set_option maxRecDepth 20000 in
theorem t_M_best_B19 {T : jT} {xs : List Int} {d : Nat} {y : jV × jS} (hd : 12 ≤ d) {h : jH}  {o0 : Nat} {v1 : Int} {v2 : Int} {v3 : Int} {v4 : Int} {out : ((Int × Int × Int × jH) ⊕ (Int × jH))} (ho0 : isX12 T o0) (H : M_best_B19 h o0 v1 v2 v3 v4 = some out) (HY : yk_M_best_L19 T xs d y o0 v1 out) : jEv xs d (311, 19, [(2, Int.ofNat o0), (0, v1), (0, v2), (0, v3), (0, v4), (3, 0)], []) (T, h) y := by
  unfold M_best_B19 at H
  refine jEv.blk [(.iload 4, 2, []), (.bipush 8, 2, [])] (by decide +kernel) (pc' := 23) (ls' := [(2, Int.ofNat o0), (0, v1), (0, v2), (0, v3), (0, v4), (3, 0)]) (st' := [(0, 8), (0, v4)]) rfl ?_
  refine jEv.ic_gt (t := 67) (show jfI 311 23 (.if_icmp .gt 44) 3 [] = true by decide +kernel) rfl H (fun c3 H => ?_) (fun c3 H => ?_)
  · refine jmapr H HY (fun out H (HY : ykI T y out) => ?_)
    refine jEv.blk [(.iload_n 1, 1, [])] (by decide +kernel) (pc' := 68) (ls' := [(2, Int.ofNat o0), (0, v1), (0, v2), (0, v3), (0, v4), (3, 0)]) (st' := [(0, v1)]) rfl ?_
    refine jEv.if_ne (t := 75) (show jfI 311 68 (.ifCond .ne 7) 3 [] = true by decide +kernel) rfl H (fun c4 H => ?_) (fun c4 H => ?_)
    · refine jEv.blk [(.iload_n 2, 1, [])] (by decide +kernel) (pc' := 72) (ls' := [(2, Int.ofNat o0), (0, v1), (0, v2), (0, v3), (0, v4), (3, 0)]) (st' := [(0, v2)]) rfl ?_
      refine jEv.goto (t := 76) (show jfI 311 72 (.goto 4) 3 [] = true by decide +kernel) rfl ?_
      exact jEv.retI (show jfI 311 76 (.ireturn) 1 [] = true by decide +kernel) (by decide +kernel) (by cases H; exact HY)
    · refine jEv.blk [(.iload_n 3, 1, [])] (by decide +kernel) (pc' := 76) (ls' := [(2, Int.ofNat o0), (0, v1), (0, v2), (0, v3), (0, v4), (3, 0)]) (st' := [(0, v3)]) rfl ?_
      exact jEv.retI (show jfI 311 76 (.ireturn) 1 [] = true by decide +kernel) (by decide +kernel) (by cases H; exact HY)
  · refine jEv.blk [(.aload_n 0, 1, []), (.iload 4, 2, []), (.iconst 1, 1, [])] (by decide +kernel) (pc' := 30) (ls' := [(2, Int.ofNat o0), (0, v1), (0, v2), (0, v3), (0, v4), (3, 0)]) (st' := [(0, 1), (0, v4), (2, Int.ofNat o0)]) rfl ?_
    refine jbind H (fun b5 Hb5 H => ?_)
    refine jEv.calV (st' := [(0, b5.1)]) (show jfI 311 30 (.invokevirtual 605) 3 [1, 310, 2, 10096] = true by decide +kernel) rfl (Or.inl rfl) rfl (Nat.le_of_ble_eq_true rfl) (by decide +kernel) (by decide) (isX12_L ho0) ((t_M_rule (T := T) (xs := xs) ho0 Hb5).mono (jKle 12 hd)) rfl ?_
    refine jEv.blk [(.istore 5, 2, []), (.iload 5, 2, []), (.iconst (-1), 1, [])] (by decide +kernel) (pc' := 38) (ls' := [(2, Int.ofNat o0), (0, v1), (0, v2), (0, v3), (0, v4), (0, b5.1)]) (st' := [(0, (-1)), (0, b5.1)]) rfl ?_
    refine jEv.ic_eq (t := 61) (show jfI 311 38 (.if_icmp .eq 23) 3 [] = true by decide +kernel) rfl H (fun c6 H => ?_) (fun c6 H => ?_)
    · refine jEv.blk [(.iinc 4 1, 3, [])] (by decide +kernel) (pc' := 64) (ls' := [(2, Int.ofNat o0), (0, v1), (0, v2), (0, v3), (0, (wr (v4 + 1))), (0, b5.1)]) (st' := []) rfl ?_
      refine jEv.goto (t := 19) (show jfI 311 64 (.goto (-45)) 3 [] = true by decide +kernel) rfl ?_
      exact jEv.weak (a := [(2, Int.ofNat o0), (0, v1), (0, v2), (0, v3), (0, (wr (v4 + 1))), (3, 0)]) (jles.c1 (jles.c1 (jles.c1 (jles.c1 (jles.c1 (jles.c0 jles.nl)))))) ((by cases H; exact HY))
    · refine jEv.blk [(.iload_n 2, 1, []), (.iconst (-1), 1, [])] (by decide +kernel) (pc' := 43) (ls' := [(2, Int.ofNat o0), (0, v1), (0, v2), (0, v3), (0, v4), (0, b5.1)]) (st' := [(0, (-1)), (0, v2)]) rfl ?_
      refine jEv.ic_eq (t := 55) (show jfI 311 43 (.if_icmp .eq 12) 3 [] = true by decide +kernel) rfl H (fun c7 H => ?_) (fun c7 H => ?_)
      · exact jEv.weak (a := [(2, Int.ofNat o0), (0, v1), (3, 0), (3, 0), (0, v4), (0, b5.1)]) (jles.c1 (jles.c1 (jles.c0 (jles.c0 (jles.c1 (jles.c1 jles.nl)))))) (t_M_best_p55 (T := T) (xs := xs) (y := y) hd ho0 H HY)
      · refine jEv.blk [(.iload 5, 2, []), (.iload_n 3, 1, [])] (by decide +kernel) (pc' := 49) (ls' := [(2, Int.ofNat o0), (0, v1), (0, v2), (0, v3), (0, v4), (0, b5.1)]) (st' := [(0, v3), (0, b5.1)]) rfl ?_
        refine jEv.ic_lt (t := 55) (show jfI 311 49 (.if_icmp .lt 6) 3 [] = true by decide +kernel) rfl H (fun c8 H => ?_) (fun c8 H => ?_)
        · exact jEv.weak (a := [(2, Int.ofNat o0), (0, v1), (3, 0), (3, 0), (0, v4), (0, b5.1)]) (jles.c1 (jles.c1 (jles.c0 (jles.c0 (jles.c1 (jles.c1 jles.nl)))))) (t_M_best_p55 (T := T) (xs := xs) (y := y) hd ho0 H HY)
        · refine jEv.goto (t := 61) (show jfI 311 52 (.goto 9) 3 [] = true by decide +kernel) rfl ?_
          refine jEv.blk [(.iinc 4 1, 3, [])] (by decide +kernel) (pc' := 64) (ls' := [(2, Int.ofNat o0), (0, v1), (0, v2), (0, v3), (0, (wr (v4 + 1))), (0, b5.1)]) (st' := []) rfl ?_
          refine jEv.goto (t := 19) (show jfI 311 64 (.goto (-45)) 3 [] = true by decide +kernel) rfl ?_
          exact jEv.weak (a := [(2, Int.ofNat o0), (0, v1), (0, v2), (0, v3), (0, (wr (v4 + 1))), (3, 0)]) (jles.c1 (jles.c1 (jles.c1 (jles.c1 (jles.c1 (jles.c0 jles.nl)))))) ((by cases H; exact HY))
theorem t_M_best_L19 {T : jT} {xs : List Int} {d : Nat} {y : jV × jS} (hd : 12 ≤ d) {h : jH}  {o0 : Nat} {v1 : Int} {v2 : Int} {v3 : Int} {v4 : Int} {out : (Int × jH)} (ho0 : isX12 T o0) (H : M_best_L19 h o0 v1 v2 v3 v4 = some out) (HY : ykI T y out) : jEv xs d (311, 19, [(2, Int.ofNat o0), (0, v1), (0, v2), (0, v3), (0, v4), (3, 0)], []) (T, h) y :=
  jloop_sound (G := fun s : (Int × Int × Int × jH) => jEv xs d (311, 19, [(2, Int.ofNat o0), (0, v1), (0, s.1), (0, s.2.1), (0, s.2.2.1), (3, 0)], []) (T, s.2.2.2) y) (K := yk_M_best_L19 T xs d y o0 v1) (fun s out H HY => t_M_best_B19 hd ho0 H HY) (fun s' hg => hg) (s := (v2, v3, v4, h)) H HY
set_option maxRecDepth 20000 in
noncomputable def M_best  (h : jH) (o0 : Nat) (v1 : Int) : Option (Int × jH) := Option.bind (M_isIn v1 0 1) (fun b1 => (if b1 = 0 then some ((-1), h) else M_best_L19 h o0 v1 (-1) (-1) 1))
set_option maxRecDepth 20000 in
theorem t_M_best {T : jT} {xs : List Int} {h : jH}  {o0 : Nat} {v1 : Int} {out : (Int × jH)} (ho0 : isX12 T o0) (H : M_best h o0 v1 = some out) : jEm xs 13 311 [(2, Int.ofNat o0), (0, v1)] (T, h) ((0, out.1), (T, out.2)) := by
  have hd : 12 ≤ 12 := Nat.le_refl _
  obtain ⟨y, ey⟩ : ∃ y : jV × jS, y = ((0, out.1), (T, out.2)) := ⟨_, rfl⟩
  rw [← ey]
  have HY : ykI T y out := ey
  refine jEm.ent (n := 6) (by decide +kernel) (Nat.le_of_ble_eq_true rfl) ?_
  show jEv xs 12 (311, 0, [(2, Int.ofNat o0), (0, v1), (3, 0), (3, 0), (3, 0), (3, 0)], []) (T, h) y
  unfold M_best at H
  refine jEv.blk [(.iload_n 1, 1, []), (.i2l, 1, []), (.lconst 0, 1, []), (.lconst 1, 1, [])] (by decide +kernel) (pc' := 4) (ls' := [(2, Int.ofNat o0), (0, v1), (3, 0), (3, 0), (3, 0), (3, 0)]) (st' := [(1, 1), (1, 0), (1, v1)]) rfl ?_
  refine jbind H (fun b1 Hb1 H => ?_)
  refine jEv.calS (st' := [(0, b1)]) (show jfI 311 4 (.invokestatic 275) 3 [3, 213, 3, 8176] = true by decide +kernel) rfl (Or.inl rfl) rfl (Nat.le_of_ble_eq_true rfl) ((t_M_isIn (T := T) (xs := xs)  Hb1).mono (jKle 1 hd)) rfl ?_
  refine jEv.if_ne (t := 12) (show jfI 311 7 (.ifCond .ne 5) 3 [] = true by decide +kernel) rfl H (fun c2 H => ?_) (fun c2 H => ?_)
  · refine jEv.blk [(.iconst (-1), 1, [])] (by decide +kernel) (pc' := 11) (ls' := [(2, Int.ofNat o0), (0, v1), (3, 0), (3, 0), (3, 0), (3, 0)]) (st' := [(0, (-1))]) rfl ?_
    exact jEv.retI (show jfI 311 11 (.ireturn) 1 [] = true by decide +kernel) (by decide +kernel) (by cases H; exact HY)
  · refine jEv.blk [(.iconst (-1), 1, []), (.istore_n 2, 1, []), (.iconst (-1), 1, []), (.istore_n 3, 1, []), (.iconst 1, 1, []), (.istore 4, 2, [])] (by decide +kernel) (pc' := 19) (ls' := [(2, Int.ofNat o0), (0, v1), (0, (-1)), (0, (-1)), (0, 1), (3, 0)]) (st' := []) rfl ?_
    exact t_M_best_L19 (T := T) (xs := xs) (y := y) hd ho0 H HY
set_option maxRecDepth 20000 in
noncomputable def M_isLaidOf  (h : jH) (o0 : Nat) (v1 : Int) : Option (Int × jH) := (if (0 : Int) ≤ 1 ∧ (1 : Int).toNat < 2365 then (if (0 : Int) ≤ (wr (16 + (wr (4 * (jand (h (o0 + 33) (1 : Int).toNat) 31))))) ∧ ((wr (16 + (wr (4 * (jand (h (o0 + 33) (1 : Int).toNat) 31))))) : Int).toNat < 2365 then (if (0 : Int) ≤ (wr ((wr (16 + (wr (4 * (jand (h (o0 + 33) (1 : Int).toNat) 31))))) + 1)) ∧ ((wr ((wr (16 + (wr (4 * (jand (h (o0 + 33) (1 : Int).toNat) 31))))) + 1)) : Int).toNat < 2365 then (if (0 : Int) ≤ (wr ((wr (16 + (wr (4 * (jand (h (o0 + 33) (1 : Int).toNat) 31))))) + 2)) ∧ ((wr ((wr (16 + (wr (4 * (jand (h (o0 + 33) (1 : Int).toNat) 31))))) + 2)) : Int).toNat < 2365 then (if (0 : Int) ≤ 1 ∧ (1 : Int).toNat < 2365 then (if (0 : Int) ≤ 1 ∧ (1 : Int).toNat < 2365 then Option.bind (M_isLaid (jup (jup (jup (jup h (o0 + 33) ((wr (16 + (wr (4 * (jand (h (o0 + 33) (1 : Int).toNat) 31))))) : Int).toNat 0) (o0 + 33) ((wr ((wr (16 + (wr (4 * (jand (h (o0 + 33) (1 : Int).toNat) 31))))) + 1)) : Int).toNat 0) (o0 + 33) ((wr ((wr (16 + (wr (4 * (jand (h (o0 + 33) (1 : Int).toNat) 31))))) + 2)) : Int).toNat v1) (o0 + 33) (1 : Int).toNat (wr (((jup (jup (jup h (o0 + 33) ((wr (16 + (wr (4 * (jand (h (o0 + 33) (1 : Int).toNat) 31))))) : Int).toNat 0) (o0 + 33) ((wr ((wr (16 + (wr (4 * (jand (h (o0 + 33) (1 : Int).toNat) 31))))) + 1)) : Int).toNat 0) (o0 + 33) ((wr ((wr (16 + (wr (4 * (jand (h (o0 + 33) (1 : Int).toNat) 31))))) + 2)) : Int).toNat v1) (o0 + 33) (1 : Int).toNat) + 1))) o0 (h (o0 + 33) (1 : Int).toNat)) (fun b7 => (if b7.1 = 0 ∨ b7.1 = 1 then some (b7.1, b7.2) else none)) else none) else none) else none) else none) else none) else none)
set_option maxRecDepth 20000 in
theorem t_M_isLaidOf {T : jT} {xs : List Int} {h : jH}  {o0 : Nat} {v1 : Int} {out : (Int × jH)} (ho0 : isX12 T o0) (H : M_isLaidOf h o0 v1 = some out) : jEm xs 5 313 [(2, Int.ofNat o0), (0, v1)] (T, h) ((0, out.1), (T, out.2)) := by
  have hd : 4 ≤ 4 := Nat.le_refl _
  obtain ⟨y, ey⟩ : ∃ y : jV × jS, y = ((0, out.1), (T, out.2)) := ⟨_, rfl⟩
  rw [← ey]
  have HY : ykI T y out := ey
  refine jEm.ent (n := 4) (by decide +kernel) (Nat.le_of_ble_eq_true rfl) ?_
  show jEv xs 4 (313, 0, [(2, Int.ofNat o0), (0, v1), (3, 0), (3, 0)], []) (T, h) y
  unfold M_isLaidOf at H
  refine jEv.blk [(.aload_n 0, 1, [])] (by decide +kernel) (pc' := 1) (ls' := [(2, Int.ofNat o0), (0, v1), (3, 0), (3, 0)]) (st' := [(2, Int.ofNat o0)]) rfl ?_
  refine jEv.gfR (o' := (o0 + 33)) (show jfI 313 1 (.getfield 111) 3 [12, 45, 5, 0, 7081] = true by decide +kernel) (isX12_L ho0) (by decide) (isX12_r45 ho0) ?_
  refine jEv.blk [(.iconst 1, 1, [])] (by decide +kernel) (pc' := 5) (ls' := [(2, Int.ofNat o0), (0, v1), (3, 0), (3, 0)]) (st' := [(0, 1), (2, Int.ofNat (o0 + 33))]) rfl ?_
  refine jEv.ald (Or.inl ⟨rfl, rfl, rfl⟩) (show jfI 313 5 (.iaload) 1 [] = true by decide +kernel) (isX12_a45 ho0) H (fun c1 H => ?_)
  refine jEv.blk [(.istore_n 2, 1, []), (.bipush 16, 2, []), (.iconst 4, 1, []), (.iload_n 2, 1, []), (.bipush 31, 2, []), (.iand, 1, []), (.imul, 1, []), (.iadd, 1, []), (.istore_n 3, 1, []), (.aload_n 0, 1, [])] (by decide +kernel) (pc' := 18) (ls' := [(2, Int.ofNat o0), (0, v1), (0, (h (o0 + 33) (1 : Int).toNat)), (0, (wr (16 + (wr (4 * (jand (h (o0 + 33) (1 : Int).toNat) 31))))))]) (st' := [(2, Int.ofNat o0)]) rfl ?_
  refine jEv.gfR (o' := (o0 + 33)) (show jfI 313 18 (.getfield 111) 3 [12, 45, 5, 0, 7081] = true by decide +kernel) (isX12_L ho0) (by decide) (isX12_r45 ho0) ?_
  refine jEv.blk [(.iload_n 3, 1, []), (.iconst 0, 1, [])] (by decide +kernel) (pc' := 23) (ls' := [(2, Int.ofNat o0), (0, v1), (0, (h (o0 + 33) (1 : Int).toNat)), (0, (wr (16 + (wr (4 * (jand (h (o0 + 33) (1 : Int).toNat) 31))))))]) (st' := [(0, 0), (0, (wr (16 + (wr (4 * (jand (h (o0 + 33) (1 : Int).toNat) 31)))))), (2, Int.ofNat (o0 + 33))]) rfl ?_
  refine jEv.ast (Or.inl ⟨rfl, rfl, rfl⟩) (show jfI 313 23 (.iastore) 1 [] = true by decide +kernel) (isX12_a45 ho0) rfl H (fun c2 H => ?_)
  refine jEv.blk [(.aload_n 0, 1, [])] (by decide +kernel) (pc' := 25) (ls' := [(2, Int.ofNat o0), (0, v1), (0, (h (o0 + 33) (1 : Int).toNat)), (0, (wr (16 + (wr (4 * (jand (h (o0 + 33) (1 : Int).toNat) 31))))))]) (st' := [(2, Int.ofNat o0)]) rfl ?_
  refine jEv.gfR (o' := (o0 + 33)) (show jfI 313 25 (.getfield 111) 3 [12, 45, 5, 0, 7081] = true by decide +kernel) (isX12_L ho0) (by decide) (isX12_r45 ho0) ?_
  refine jEv.blk [(.iload_n 3, 1, []), (.iconst 1, 1, []), (.iadd, 1, []), (.iconst 0, 1, [])] (by decide +kernel) (pc' := 32) (ls' := [(2, Int.ofNat o0), (0, v1), (0, (h (o0 + 33) (1 : Int).toNat)), (0, (wr (16 + (wr (4 * (jand (h (o0 + 33) (1 : Int).toNat) 31))))))]) (st' := [(0, 0), (0, (wr ((wr (16 + (wr (4 * (jand (h (o0 + 33) (1 : Int).toNat) 31))))) + 1))), (2, Int.ofNat (o0 + 33))]) rfl ?_
  refine jEv.ast (Or.inl ⟨rfl, rfl, rfl⟩) (show jfI 313 32 (.iastore) 1 [] = true by decide +kernel) (isX12_a45 ho0) rfl H (fun c3 H => ?_)
  refine jEv.blk [(.aload_n 0, 1, [])] (by decide +kernel) (pc' := 34) (ls' := [(2, Int.ofNat o0), (0, v1), (0, (h (o0 + 33) (1 : Int).toNat)), (0, (wr (16 + (wr (4 * (jand (h (o0 + 33) (1 : Int).toNat) 31))))))]) (st' := [(2, Int.ofNat o0)]) rfl ?_
  refine jEv.gfR (o' := (o0 + 33)) (show jfI 313 34 (.getfield 111) 3 [12, 45, 5, 0, 7081] = true by decide +kernel) (isX12_L ho0) (by decide) (isX12_r45 ho0) ?_
  refine jEv.blk [(.iload_n 3, 1, []), (.iconst 2, 1, []), (.iadd, 1, []), (.iload_n 1, 1, [])] (by decide +kernel) (pc' := 41) (ls' := [(2, Int.ofNat o0), (0, v1), (0, (h (o0 + 33) (1 : Int).toNat)), (0, (wr (16 + (wr (4 * (jand (h (o0 + 33) (1 : Int).toNat) 31))))))]) (st' := [(0, v1), (0, (wr ((wr (16 + (wr (4 * (jand (h (o0 + 33) (1 : Int).toNat) 31))))) + 2))), (2, Int.ofNat (o0 + 33))]) rfl ?_
  refine jEv.ast (Or.inl ⟨rfl, rfl, rfl⟩) (show jfI 313 41 (.iastore) 1 [] = true by decide +kernel) (isX12_a45 ho0) rfl H (fun c4 H => ?_)
  refine jEv.blk [(.aload_n 0, 1, [])] (by decide +kernel) (pc' := 43) (ls' := [(2, Int.ofNat o0), (0, v1), (0, (h (o0 + 33) (1 : Int).toNat)), (0, (wr (16 + (wr (4 * (jand (h (o0 + 33) (1 : Int).toNat) 31))))))]) (st' := [(2, Int.ofNat o0)]) rfl ?_
  refine jEv.gfR (o' := (o0 + 33)) (show jfI 313 43 (.getfield 111) 3 [12, 45, 5, 0, 7081] = true by decide +kernel) (isX12_L ho0) (by decide) (isX12_r45 ho0) ?_
  refine jEv.blk [(.iconst 1, 1, []), (.dup2, 1, [])] (by decide +kernel) (pc' := 48) (ls' := [(2, Int.ofNat o0), (0, v1), (0, (h (o0 + 33) (1 : Int).toNat)), (0, (wr (16 + (wr (4 * (jand (h (o0 + 33) (1 : Int).toNat) 31))))))]) (st' := [(0, 1), (2, Int.ofNat (o0 + 33)), (0, 1), (2, Int.ofNat (o0 + 33))]) rfl ?_
  refine jEv.ald (Or.inl ⟨rfl, rfl, rfl⟩) (show jfI 313 48 (.iaload) 1 [] = true by decide +kernel) (isX12_a45 ho0) H (fun c5 H => ?_)
  refine jEv.blk [(.iconst 1, 1, []), (.iadd, 1, [])] (by decide +kernel) (pc' := 51) (ls' := [(2, Int.ofNat o0), (0, v1), (0, (h (o0 + 33) (1 : Int).toNat)), (0, (wr (16 + (wr (4 * (jand (h (o0 + 33) (1 : Int).toNat) 31))))))]) (st' := [(0, (wr (((jup (jup (jup h (o0 + 33) ((wr (16 + (wr (4 * (jand (h (o0 + 33) (1 : Int).toNat) 31))))) : Int).toNat 0) (o0 + 33) ((wr ((wr (16 + (wr (4 * (jand (h (o0 + 33) (1 : Int).toNat) 31))))) + 1)) : Int).toNat 0) (o0 + 33) ((wr ((wr (16 + (wr (4 * (jand (h (o0 + 33) (1 : Int).toNat) 31))))) + 2)) : Int).toNat v1) (o0 + 33) (1 : Int).toNat) + 1))), (0, 1), (2, Int.ofNat (o0 + 33))]) rfl ?_
  refine jEv.ast (Or.inl ⟨rfl, rfl, rfl⟩) (show jfI 313 51 (.iastore) 1 [] = true by decide +kernel) (isX12_a45 ho0) rfl H (fun c6 H => ?_)
  refine jEv.blk [(.aload_n 0, 1, []), (.iload_n 2, 1, [])] (by decide +kernel) (pc' := 54) (ls' := [(2, Int.ofNat o0), (0, v1), (0, (h (o0 + 33) (1 : Int).toNat)), (0, (wr (16 + (wr (4 * (jand (h (o0 + 33) (1 : Int).toNat) 31))))))]) (st' := [(0, (h (o0 + 33) (1 : Int).toNat)), (2, Int.ofNat o0)]) rfl ?_
  refine jbind H (fun b7 Hb7 H => ?_)
  refine jEv.calV (st' := [(0, b7.1)]) (show jfI 313 54 (.invokevirtual 433) 3 [1, 299, 1, 10042] = true by decide +kernel) rfl (Or.inl rfl) rfl (Nat.le_of_ble_eq_true rfl) (by decide +kernel) (by decide) (isX12_L ho0) ((t_M_isLaid (T := T) (xs := xs) ho0 Hb7).mono (jKle 4 hd)) rfl ?_
  refine jchk H (fun c8 H => ?_)
  exact jEv.retZ (show jfI 313 57 (.ireturn) 1 [] = true by decide +kernel) (by decide +kernel) c8 (by cases H; exact HY)
def yk_M_room_L69 (T : jT) (xs : List Int) (d : Nat) (y : jV × jS)  (o0 : Nat) (v1 : Int) : ((Int × jH) ⊕ (Int × jH)) → Prop
  | .inl (v2, h) => jEv xs d (312, 69, [(2, Int.ofNat o0), (0, v1), (0, v2)], []) (T, h) y
  | .inr o => ykI T y o
set_option maxRecDepth 20000 in
noncomputable def M_room_B69  (h : jH) (o0 : Nat) (v1 : Int) (v2 : Int) : Option ((Int × jH) ⊕ (Int × jH)) := Option.bind (M_isLaidOf h o0 v1) (fun b12 => (if b12.1 = 0 then Option.map Sum.inr (Option.bind (M_takesBack b12.2 o0) (fun b14 => some (v2, b14))) else some (.inl ((wr (v2 + 1)), b12.2))))
noncomputable def M_room_L69  (h : jH) (o0 : Nat) (v1 : Int) (v2 : Int) : Option (Int × jH) := jloop (fun s : (Int × jH) => M_room_B69 s.2 o0 v1 s.1) (v2, h)
set_option maxRecDepth 20000 in
theorem t_M_room_B69 {T : jT} {xs : List Int} {d : Nat} {y : jV × jS} (hd : 5 ≤ d) {h : jH}  {o0 : Nat} {v1 : Int} {v2 : Int} {out : ((Int × jH) ⊕ (Int × jH))} (ho0 : isX12 T o0) (H : M_room_B69 h o0 v1 v2 = some out) (HY : yk_M_room_L69 T xs d y o0 v1 out) : jEv xs d (312, 69, [(2, Int.ofNat o0), (0, v1), (0, v2)], []) (T, h) y := by
  unfold M_room_B69 at H
  refine jEv.blk [(.aload_n 0, 1, []), (.iload_n 1, 1, [])] (by decide +kernel) (pc' := 71) (ls' := [(2, Int.ofNat o0), (0, v1), (0, v2)]) (st' := [(0, v1), (2, Int.ofNat o0)]) rfl ?_
  refine jbind H (fun b12 Hb12 H => ?_)
  refine jEv.calV (st' := [(0, b12.1)]) (show jfI 312 71 (.invokevirtual 610) 3 [1, 313, 1, 10102] = true by decide +kernel) rfl (Or.inl rfl) rfl (Nat.le_of_ble_eq_true rfl) (by decide +kernel) (by decide) (isX12_L ho0) ((t_M_isLaidOf (T := T) (xs := xs) ho0 Hb12).mono (jKle 5 hd)) rfl ?_
  refine jEv.if_eq (t := 83) (show jfI 312 74 (.ifCond .eq 9) 3 [] = true by decide +kernel) rfl H (fun c13 H => ?_) (fun c13 H => ?_)
  · refine jmapr H HY (fun out H (HY : ykI T y out) => ?_)
    refine jEv.blk [(.aload_n 0, 1, [])] (by decide +kernel) (pc' := 84) (ls' := [(2, Int.ofNat o0), (0, v1), (0, v2)]) (st' := [(2, Int.ofNat o0)]) rfl ?_
    refine jbind H (fun b14 Hb14 H => ?_)
    refine jEv.calV (st' := []) (show jfI 312 84 (.invokevirtual 597) 3 [1, 306, 0, 10071] = true by decide +kernel) rfl (Or.inl rfl) rfl (Nat.le_of_ble_eq_true rfl) (by decide +kernel) (by decide) (isX12_L ho0) ((t_M_takesBack (T := T) (xs := xs) ho0 Hb14).mono (jKle 2 hd)) rfl ?_
    refine jEv.blk [(.iload_n 2, 1, [])] (by decide +kernel) (pc' := 88) (ls' := [(2, Int.ofNat o0), (0, v1), (0, v2)]) (st' := [(0, v2)]) rfl ?_
    exact jEv.retI (show jfI 312 88 (.ireturn) 1 [] = true by decide +kernel) (by decide +kernel) (by cases H; exact HY)
  · refine jEv.blk [(.iinc 2 1, 3, [])] (by decide +kernel) (pc' := 80) (ls' := [(2, Int.ofNat o0), (0, v1), (0, (wr (v2 + 1)))]) (st' := []) rfl ?_
    refine jEv.goto (t := 69) (show jfI 312 80 (.goto (-11)) 3 [] = true by decide +kernel) rfl ?_
    exact (by cases H; exact HY)
theorem t_M_room_L69 {T : jT} {xs : List Int} {d : Nat} {y : jV × jS} (hd : 5 ≤ d) {h : jH}  {o0 : Nat} {v1 : Int} {v2 : Int} {out : (Int × jH)} (ho0 : isX12 T o0) (H : M_room_L69 h o0 v1 v2 = some out) (HY : ykI T y out) : jEv xs d (312, 69, [(2, Int.ofNat o0), (0, v1), (0, v2)], []) (T, h) y :=
  jloop_sound (G := fun s : (Int × jH) => jEv xs d (312, 69, [(2, Int.ofNat o0), (0, v1), (0, s.1)], []) (T, s.2) y) (K := yk_M_room_L69 T xs d y o0 v1) (fun s out H HY => t_M_room_B69 hd ho0 H HY) (fun s' hg => hg) (s := (v2, h)) H HY
set_option maxRecDepth 20000 in
noncomputable def M_room  (h : jH) (o0 : Nat) (v1 : Int) : Option (Int × jH) := (if (h o0 43) = 0 then some ((-1), h) else Option.bind (M_isIn v1 0 40) (fun b2 => (if b2 = 0 then some ((-1), h) else (if (0 : Int) ≤ 10 ∧ (10 : Int).toNat < 2365 then (if (h (o0 + 33) (10 : Int).toNat) = 1 then some ((-1), h) else Option.bind (M_putsAside h o0) (fun b6 => (if (0 : Int) ≤ 1 ∧ (1 : Int).toNat < 2365 then (if (0 : Int) ≤ 11 ∧ (11 : Int).toNat < 2365 then (if (0 : Int) ≤ 1 ∧ (1 : Int).toNat < 2365 then (if (0 : Int) ≤ 5 ∧ (5 : Int).toNat < 2365 then (if (0 : Int) ≤ 13 ∧ (13 : Int).toNat < 2365 then M_room_L69 (jup (jup b6 (o0 + 33) (1 : Int).toNat (wr ((b6 (o0 + 33) (1 : Int).toNat) - (b6 (o0 + 33) (11 : Int).toNat)))) (o0 + 33) (13 : Int).toNat (wr (((jup b6 (o0 + 33) (1 : Int).toNat (wr ((b6 (o0 + 33) (1 : Int).toNat) - (b6 (o0 + 33) (11 : Int).toNat)))) (o0 + 33) (5 : Int).toNat) + 1))) o0 v1 0 else none) else none) else none) else none) else none))) else none))))
set_option maxRecDepth 20000 in
theorem t_M_room {T : jT} {xs : List Int} {h : jH}  {o0 : Nat} {v1 : Int} {out : (Int × jH)} (ho0 : isX12 T o0) (H : M_room h o0 v1 = some out) : jEm xs 6 312 [(2, Int.ofNat o0), (0, v1)] (T, h) ((0, out.1), (T, out.2)) := by
  have hd : 5 ≤ 5 := Nat.le_refl _
  obtain ⟨y, ey⟩ : ∃ y : jV × jS, y = ((0, out.1), (T, out.2)) := ⟨_, rfl⟩
  rw [← ey]
  have HY : ykI T y out := ey
  refine jEm.ent (n := 3) (by decide +kernel) (Nat.le_of_ble_eq_true rfl) ?_
  show jEv xs 5 (312, 0, [(2, Int.ofNat o0), (0, v1), (3, 0)], []) (T, h) y
  unfold M_room at H
  refine jEv.blk [(.aload_n 0, 1, [])] (by decide +kernel) (pc' := 1) (ls' := [(2, Int.ofNat o0), (0, v1), (3, 0)]) (st' := [(2, Int.ofNat o0)]) rfl ?_
  refine jEv.gfI (show jfI 312 1 (.getfield 340) 3 [12, 43, 0, 1, 7079] = true by decide +kernel) (isX12_L ho0) (by decide) ?_
  refine jEv.if_eq (t := 30) (show jfI 312 4 (.ifCond .eq 26) 3 [] = true by decide +kernel) rfl H (fun c1 H => ?_) (fun c1 H => ?_)
  · refine jEv.blk [(.iconst (-1), 1, [])] (by decide +kernel) (pc' := 31) (ls' := [(2, Int.ofNat o0), (0, v1), (3, 0)]) (st' := [(0, (-1))]) rfl ?_
    exact jEv.retI (show jfI 312 31 (.ireturn) 1 [] = true by decide +kernel) (by decide +kernel) (by cases H; exact HY)
  · refine jEv.blk [(.iload_n 1, 1, []), (.i2l, 1, []), (.lconst 0, 1, []), (.ldc2_w 608, 3, [1, 0, 40, 10101])] (by decide +kernel) (pc' := 13) (ls' := [(2, Int.ofNat o0), (0, v1), (3, 0)]) (st' := [(1, 40), (1, 0), (1, v1)]) rfl ?_
    refine jbind H (fun b2 Hb2 H => ?_)
    refine jEv.calS (st' := [(0, b2)]) (show jfI 312 13 (.invokestatic 275) 3 [3, 213, 3, 8176] = true by decide +kernel) rfl (Or.inl rfl) rfl (Nat.le_of_ble_eq_true rfl) ((t_M_isIn (T := T) (xs := xs)  Hb2).mono (jKle 1 hd)) rfl ?_
    refine jEv.if_eq (t := 30) (show jfI 312 16 (.ifCond .eq 14) 3 [] = true by decide +kernel) rfl H (fun c3 H => ?_) (fun c3 H => ?_)
    · refine jEv.blk [(.iconst (-1), 1, [])] (by decide +kernel) (pc' := 31) (ls' := [(2, Int.ofNat o0), (0, v1), (3, 0)]) (st' := [(0, (-1))]) rfl ?_
      exact jEv.retI (show jfI 312 31 (.ireturn) 1 [] = true by decide +kernel) (by decide +kernel) (by cases H; exact HY)
    · refine jEv.blk [(.aload_n 0, 1, [])] (by decide +kernel) (pc' := 20) (ls' := [(2, Int.ofNat o0), (0, v1), (3, 0)]) (st' := [(2, Int.ofNat o0)]) rfl ?_
      refine jEv.gfR (o' := (o0 + 33)) (show jfI 312 20 (.getfield 111) 3 [12, 45, 5, 0, 7081] = true by decide +kernel) (isX12_L ho0) (by decide) (isX12_r45 ho0) ?_
      refine jEv.blk [(.bipush 10, 2, [])] (by decide +kernel) (pc' := 25) (ls' := [(2, Int.ofNat o0), (0, v1), (3, 0)]) (st' := [(0, 10), (2, Int.ofNat (o0 + 33))]) rfl ?_
      refine jEv.ald (Or.inl ⟨rfl, rfl, rfl⟩) (show jfI 312 25 (.iaload) 1 [] = true by decide +kernel) (isX12_a45 ho0) H (fun c4 H => ?_)
      refine jEv.blk [(.iconst 1, 1, [])] (by decide +kernel) (pc' := 27) (ls' := [(2, Int.ofNat o0), (0, v1), (3, 0)]) (st' := [(0, 1), (0, (h (o0 + 33) (10 : Int).toNat))]) rfl ?_
      refine jEv.ic_ne (t := 32) (show jfI 312 27 (.if_icmp .ne 5) 3 [] = true by decide +kernel) rfl H (fun c5 H => ?_) (fun c5 H => ?_)
      · refine jEv.blk [(.iconst (-1), 1, [])] (by decide +kernel) (pc' := 31) (ls' := [(2, Int.ofNat o0), (0, v1), (3, 0)]) (st' := [(0, (-1))]) rfl ?_
        exact jEv.retI (show jfI 312 31 (.ireturn) 1 [] = true by decide +kernel) (by decide +kernel) (by cases H; exact HY)
      · refine jEv.blk [(.iconst 0, 1, []), (.istore_n 2, 1, []), (.aload_n 0, 1, [])] (by decide +kernel) (pc' := 35) (ls' := [(2, Int.ofNat o0), (0, v1), (0, 0)]) (st' := [(2, Int.ofNat o0)]) rfl ?_
        refine jbind H (fun b6 Hb6 H => ?_)
        refine jEv.calV (st' := []) (show jfI 312 35 (.invokevirtual 591) 3 [1, 281, 0, 9210] = true by decide +kernel) rfl (Or.inl rfl) rfl (Nat.le_of_ble_eq_true rfl) (by decide +kernel) (by decide) (isX12_L ho0) ((t_M_putsAside (T := T) (xs := xs) ho0 Hb6).mono (jKle 1 hd)) rfl ?_
        refine jEv.blk [(.aload_n 0, 1, [])] (by decide +kernel) (pc' := 39) (ls' := [(2, Int.ofNat o0), (0, v1), (0, 0)]) (st' := [(2, Int.ofNat o0)]) rfl ?_
        refine jEv.gfR (o' := (o0 + 33)) (show jfI 312 39 (.getfield 111) 3 [12, 45, 5, 0, 7081] = true by decide +kernel) (isX12_L ho0) (by decide) (isX12_r45 ho0) ?_
        refine jEv.blk [(.iconst 1, 1, []), (.dup2, 1, [])] (by decide +kernel) (pc' := 44) (ls' := [(2, Int.ofNat o0), (0, v1), (0, 0)]) (st' := [(0, 1), (2, Int.ofNat (o0 + 33)), (0, 1), (2, Int.ofNat (o0 + 33))]) rfl ?_
        refine jEv.ald (Or.inl ⟨rfl, rfl, rfl⟩) (show jfI 312 44 (.iaload) 1 [] = true by decide +kernel) (isX12_a45 ho0) H (fun c7 H => ?_)
        refine jEv.blk [(.aload_n 0, 1, [])] (by decide +kernel) (pc' := 46) (ls' := [(2, Int.ofNat o0), (0, v1), (0, 0)]) (st' := [(2, Int.ofNat o0), (0, (b6 (o0 + 33) (1 : Int).toNat)), (0, 1), (2, Int.ofNat (o0 + 33))]) rfl ?_
        refine jEv.gfR (o' := (o0 + 33)) (show jfI 312 46 (.getfield 111) 3 [12, 45, 5, 0, 7081] = true by decide +kernel) (isX12_L ho0) (by decide) (isX12_r45 ho0) ?_
        refine jEv.blk [(.bipush 11, 2, [])] (by decide +kernel) (pc' := 51) (ls' := [(2, Int.ofNat o0), (0, v1), (0, 0)]) (st' := [(0, 11), (2, Int.ofNat (o0 + 33)), (0, (b6 (o0 + 33) (1 : Int).toNat)), (0, 1), (2, Int.ofNat (o0 + 33))]) rfl ?_
        refine jEv.ald (Or.inl ⟨rfl, rfl, rfl⟩) (show jfI 312 51 (.iaload) 1 [] = true by decide +kernel) (isX12_a45 ho0) H (fun c8 H => ?_)
        refine jEv.blk [(.isub, 1, [])] (by decide +kernel) (pc' := 53) (ls' := [(2, Int.ofNat o0), (0, v1), (0, 0)]) (st' := [(0, (wr ((b6 (o0 + 33) (1 : Int).toNat) - (b6 (o0 + 33) (11 : Int).toNat)))), (0, 1), (2, Int.ofNat (o0 + 33))]) rfl ?_
        refine jEv.ast (Or.inl ⟨rfl, rfl, rfl⟩) (show jfI 312 53 (.iastore) 1 [] = true by decide +kernel) (isX12_a45 ho0) rfl H (fun c9 H => ?_)
        refine jEv.blk [(.aload_n 0, 1, [])] (by decide +kernel) (pc' := 55) (ls' := [(2, Int.ofNat o0), (0, v1), (0, 0)]) (st' := [(2, Int.ofNat o0)]) rfl ?_
        refine jEv.gfR (o' := (o0 + 33)) (show jfI 312 55 (.getfield 111) 3 [12, 45, 5, 0, 7081] = true by decide +kernel) (isX12_L ho0) (by decide) (isX12_r45 ho0) ?_
        refine jEv.blk [(.bipush 13, 2, []), (.aload_n 0, 1, [])] (by decide +kernel) (pc' := 61) (ls' := [(2, Int.ofNat o0), (0, v1), (0, 0)]) (st' := [(2, Int.ofNat o0), (0, 13), (2, Int.ofNat (o0 + 33))]) rfl ?_
        refine jEv.gfR (o' := (o0 + 33)) (show jfI 312 61 (.getfield 111) 3 [12, 45, 5, 0, 7081] = true by decide +kernel) (isX12_L ho0) (by decide) (isX12_r45 ho0) ?_
        refine jEv.blk [(.iconst 5, 1, [])] (by decide +kernel) (pc' := 65) (ls' := [(2, Int.ofNat o0), (0, v1), (0, 0)]) (st' := [(0, 5), (2, Int.ofNat (o0 + 33)), (0, 13), (2, Int.ofNat (o0 + 33))]) rfl ?_
        refine jEv.ald (Or.inl ⟨rfl, rfl, rfl⟩) (show jfI 312 65 (.iaload) 1 [] = true by decide +kernel) (isX12_a45 ho0) H (fun c10 H => ?_)
        refine jEv.blk [(.iconst 1, 1, []), (.iadd, 1, [])] (by decide +kernel) (pc' := 68) (ls' := [(2, Int.ofNat o0), (0, v1), (0, 0)]) (st' := [(0, (wr (((jup b6 (o0 + 33) (1 : Int).toNat (wr ((b6 (o0 + 33) (1 : Int).toNat) - (b6 (o0 + 33) (11 : Int).toNat)))) (o0 + 33) (5 : Int).toNat) + 1))), (0, 13), (2, Int.ofNat (o0 + 33))]) rfl ?_
        refine jEv.ast (Or.inl ⟨rfl, rfl, rfl⟩) (show jfI 312 68 (.iastore) 1 [] = true by decide +kernel) (isX12_a45 ho0) rfl H (fun c11 H => ?_)
        exact t_M_room_L69 (T := T) (xs := xs) (y := y) hd ho0 H HY
def yk_M_beginner_L4 (T : jT) (xs : List Int) (d : Nat) (y : jV × jS) (h : jH)  (o0 : Nat) : ((Int × Int) ⊕ Int) → Prop
  | .inl (v1, v2) => jEv xs d (317, 4, [(2, Int.ofNat o0), (0, v1), (0, v2)], []) (T, h) y
  | .inr o => ykIp T h y o
set_option maxRecDepth 20000 in
noncomputable def M_beginner_p53  (h : jH) (o0 : Nat) (v2 : Int) : Option ((Int × Int) ⊕ Int) := some (.inl (v2, (wr (v2 + 1))))
set_option maxRecDepth 20000 in
theorem t_M_beginner_p53 {T : jT} {xs : List Int} {d : Nat} {y : jV × jS} (hd : 3 ≤ d) {h : jH}  {o0 : Nat} {v2 : Int} {out : ((Int × Int) ⊕ Int)} (ho0 : isX12 T o0) (H : M_beginner_p53 h o0 v2 = some out) (HY : yk_M_beginner_L4 T xs d y h o0 out) : jEv xs d (317, 53, [(2, Int.ofNat o0), (3, 0), (0, v2)], []) (T, h) y := by
  unfold M_beginner_p53 at H
  refine jEv.blk [(.iload_n 2, 1, []), (.istore_n 1, 1, [])] (by decide +kernel) (pc' := 55) (ls' := [(2, Int.ofNat o0), (0, v2), (0, v2)]) (st' := []) rfl ?_
  refine jEv.blk [(.iinc 2 1, 3, [])] (by decide +kernel) (pc' := 58) (ls' := [(2, Int.ofNat o0), (0, v2), (0, (wr (v2 + 1)))]) (st' := []) rfl ?_
  refine jEv.goto (t := 4) (show jfI 317 58 (.goto (-54)) 3 [] = true by decide +kernel) rfl ?_
  exact (by cases H; exact HY)
set_option maxRecDepth 20000 in
noncomputable def M_beginner_B4  (h : jH) (o0 : Nat) (v1 : Int) (v2 : Int) : Option ((Int × Int) ⊕ Int) := Option.bind (M_segmentMany h o0) (fun b1 => (if v2 < b1 then Option.bind (M_isHead h o0 v2) (fun b3 => (if b3 = 0 then some (.inl (v1, (wr (v2 + 1)))) else Option.bind (M_firstOf h o0 v2) (fun b5 => (if (0 : Int) ≤ 9 ∧ (9 : Int).toNat < 2365 then (if (h (o0 + 33) (9 : Int).toNat) < b5 then some (.inl (v1, (wr (v2 + 1)))) else (if v1 = (-1) then M_beginner_p53 h o0 v2 else Option.bind (M_serialOf h o0 v2) (fun b9 => Option.bind (M_serialOf h o0 v1) (fun b10 => (if b10 < b9 then M_beginner_p53 h o0 v2 else some (.inl (v1, (wr (v2 + 1))))))))) else none)))) else Option.map Sum.inr (some v1)))
noncomputable def M_beginner_L4  (h : jH) (o0 : Nat) (v1 : Int) (v2 : Int) : Option Int := jloop (fun s : (Int × Int) => M_beginner_B4 h o0 s.1 s.2) (v1, v2)
set_option maxRecDepth 20000 in
theorem t_M_beginner_B4 {T : jT} {xs : List Int} {d : Nat} {y : jV × jS} (hd : 3 ≤ d) {h : jH}  {o0 : Nat} {v1 : Int} {v2 : Int} {out : ((Int × Int) ⊕ Int)} (ho0 : isX12 T o0) (H : M_beginner_B4 h o0 v1 v2 = some out) (HY : yk_M_beginner_L4 T xs d y h o0 out) : jEv xs d (317, 4, [(2, Int.ofNat o0), (0, v1), (0, v2)], []) (T, h) y := by
  unfold M_beginner_B4 at H
  refine jEv.blk [(.iload_n 2, 1, []), (.aload_n 0, 1, [])] (by decide +kernel) (pc' := 6) (ls' := [(2, Int.ofNat o0), (0, v1), (0, v2)]) (st' := [(2, Int.ofNat o0), (0, v2)]) rfl ?_
  refine jbind H (fun b1 Hb1 H => ?_)
  refine jEv.calV (st' := [(0, b1), (0, v2)]) (show jfI 317 6 (.invokevirtual 360) 3 [1, 254, 0, 9096] = true by decide +kernel) rfl (Or.inl rfl) rfl (Nat.le_of_ble_eq_true rfl) (by decide +kernel) (by decide) (isX12_L ho0) ((t_M_segmentMany (T := T) (xs := xs) ho0 Hb1).mono (jKle 1 hd)) rfl ?_
  refine jEv.ic_ge (t := 61) (show jfI 317 9 (.if_icmp .ge 52) 3 [] = true by decide +kernel) rfl H (fun c2 H => ?_) (fun c2 H => ?_)
  · refine jEv.blk [(.aload_n 0, 1, []), (.iload_n 2, 1, [])] (by decide +kernel) (pc' := 14) (ls' := [(2, Int.ofNat o0), (0, v1), (0, v2)]) (st' := [(0, v2), (2, Int.ofNat o0)]) rfl ?_
    refine jbind H (fun b3 Hb3 H => ?_)
    refine jEv.calV (st' := [(0, b3)]) (show jfI 317 14 (.invokevirtual 535) 3 [1, 258, 1, 9112] = true by decide +kernel) rfl (Or.inl rfl) rfl (Nat.le_of_ble_eq_true rfl) (by decide +kernel) (by decide) (isX12_L ho0) ((t_M_isHead (T := T) (xs := xs) ho0 Hb3).mono (jKle 3 hd)) rfl ?_
    refine jEv.if_eq (t := 55) (show jfI 317 17 (.ifCond .eq 38) 3 [] = true by decide +kernel) rfl H (fun c4 H => ?_) (fun c4 H => ?_)
    · refine jEv.blk [(.iinc 2 1, 3, [])] (by decide +kernel) (pc' := 58) (ls' := [(2, Int.ofNat o0), (0, v1), (0, (wr (v2 + 1)))]) (st' := []) rfl ?_
      refine jEv.goto (t := 4) (show jfI 317 58 (.goto (-54)) 3 [] = true by decide +kernel) rfl ?_
      exact (by cases H; exact HY)
    · refine jEv.blk [(.aload_n 0, 1, []), (.iload_n 2, 1, [])] (by decide +kernel) (pc' := 22) (ls' := [(2, Int.ofNat o0), (0, v1), (0, v2)]) (st' := [(0, v2), (2, Int.ofNat o0)]) rfl ?_
      refine jbind H (fun b5 Hb5 H => ?_)
      refine jEv.calV (st' := [(0, b5)]) (show jfI 317 22 (.invokevirtual 541) 3 [1, 261, 1, 9124] = true by decide +kernel) rfl (Or.inl rfl) rfl (Nat.le_of_ble_eq_true rfl) (by decide +kernel) (by decide) (isX12_L ho0) ((t_M_firstOf (T := T) (xs := xs) ho0 Hb5).mono (jKle 2 hd)) rfl ?_
      refine jEv.blk [(.aload_n 0, 1, [])] (by decide +kernel) (pc' := 26) (ls' := [(2, Int.ofNat o0), (0, v1), (0, v2)]) (st' := [(2, Int.ofNat o0), (0, b5)]) rfl ?_
      refine jEv.gfR (o' := (o0 + 33)) (show jfI 317 26 (.getfield 111) 3 [12, 45, 5, 0, 7081] = true by decide +kernel) (isX12_L ho0) (by decide) (isX12_r45 ho0) ?_
      refine jEv.blk [(.bipush 9, 2, [])] (by decide +kernel) (pc' := 31) (ls' := [(2, Int.ofNat o0), (0, v1), (0, v2)]) (st' := [(0, 9), (2, Int.ofNat (o0 + 33)), (0, b5)]) rfl ?_
      refine jEv.ald (Or.inl ⟨rfl, rfl, rfl⟩) (show jfI 317 31 (.iaload) 1 [] = true by decide +kernel) (isX12_a45 ho0) H (fun c6 H => ?_)
      refine jEv.ic_gt (t := 55) (show jfI 317 32 (.if_icmp .gt 23) 3 [] = true by decide +kernel) rfl H (fun c7 H => ?_) (fun c7 H => ?_)
      · refine jEv.blk [(.iinc 2 1, 3, [])] (by decide +kernel) (pc' := 58) (ls' := [(2, Int.ofNat o0), (0, v1), (0, (wr (v2 + 1)))]) (st' := []) rfl ?_
        refine jEv.goto (t := 4) (show jfI 317 58 (.goto (-54)) 3 [] = true by decide +kernel) rfl ?_
        exact (by cases H; exact HY)
      · refine jEv.blk [(.iload_n 1, 1, []), (.iconst (-1), 1, [])] (by decide +kernel) (pc' := 37) (ls' := [(2, Int.ofNat o0), (0, v1), (0, v2)]) (st' := [(0, (-1)), (0, v1)]) rfl ?_
        refine jEv.ic_eq (t := 53) (show jfI 317 37 (.if_icmp .eq 16) 3 [] = true by decide +kernel) rfl H (fun c8 H => ?_) (fun c8 H => ?_)
        · exact jEv.weak (a := [(2, Int.ofNat o0), (3, 0), (0, v2)]) (jles.c1 (jles.c0 (jles.c1 jles.nl))) (t_M_beginner_p53 (T := T) (xs := xs) (y := y) hd ho0 H HY)
        · refine jEv.blk [(.aload_n 0, 1, []), (.iload_n 2, 1, [])] (by decide +kernel) (pc' := 42) (ls' := [(2, Int.ofNat o0), (0, v1), (0, v2)]) (st' := [(0, v2), (2, Int.ofNat o0)]) rfl ?_
          refine jbind H (fun b9 Hb9 H => ?_)
          refine jEv.calV (st' := [(0, b9)]) (show jfI 317 42 (.invokevirtual 497) 3 [1, 260, 1, 9120] = true by decide +kernel) rfl (Or.inl rfl) rfl (Nat.le_of_ble_eq_true rfl) (by decide +kernel) (by decide) (isX12_L ho0) ((t_M_serialOf (T := T) (xs := xs) ho0 Hb9).mono (jKle 2 hd)) rfl ?_
          refine jEv.blk [(.aload_n 0, 1, []), (.iload_n 1, 1, [])] (by decide +kernel) (pc' := 47) (ls' := [(2, Int.ofNat o0), (0, v1), (0, v2)]) (st' := [(0, v1), (2, Int.ofNat o0), (0, b9)]) rfl ?_
          refine jbind H (fun b10 Hb10 H => ?_)
          refine jEv.calV (st' := [(0, b10), (0, b9)]) (show jfI 317 47 (.invokevirtual 497) 3 [1, 260, 1, 9120] = true by decide +kernel) rfl (Or.inl rfl) rfl (Nat.le_of_ble_eq_true rfl) (by decide +kernel) (by decide) (isX12_L ho0) ((t_M_serialOf (T := T) (xs := xs) ho0 Hb10).mono (jKle 2 hd)) rfl ?_
          refine jEv.ic_le (t := 55) (show jfI 317 50 (.if_icmp .le 5) 3 [] = true by decide +kernel) rfl H (fun c11 H => ?_) (fun c11 H => ?_)
          · exact jEv.weak (a := [(2, Int.ofNat o0), (3, 0), (0, v2)]) (jles.c1 (jles.c0 (jles.c1 jles.nl))) (t_M_beginner_p53 (T := T) (xs := xs) (y := y) hd ho0 H HY)
          · refine jEv.blk [(.iinc 2 1, 3, [])] (by decide +kernel) (pc' := 58) (ls' := [(2, Int.ofNat o0), (0, v1), (0, (wr (v2 + 1)))]) (st' := []) rfl ?_
            refine jEv.goto (t := 4) (show jfI 317 58 (.goto (-54)) 3 [] = true by decide +kernel) rfl ?_
            exact (by cases H; exact HY)
  · refine jmapr H HY (fun out H (HY : ykIp T h y out) => ?_)
    refine jEv.blk [(.iload_n 1, 1, [])] (by decide +kernel) (pc' := 62) (ls' := [(2, Int.ofNat o0), (0, v1), (0, v2)]) (st' := [(0, v1)]) rfl ?_
    exact jEv.retI (show jfI 317 62 (.ireturn) 1 [] = true by decide +kernel) (by decide +kernel) (by cases H; exact HY)
theorem t_M_beginner_L4 {T : jT} {xs : List Int} {d : Nat} {y : jV × jS} (hd : 3 ≤ d) {h : jH}  {o0 : Nat} {v1 : Int} {v2 : Int} {out : Int} (ho0 : isX12 T o0) (H : M_beginner_L4 h o0 v1 v2 = some out) (HY : ykIp T h y out) : jEv xs d (317, 4, [(2, Int.ofNat o0), (0, v1), (0, v2)], []) (T, h) y :=
  jloop_sound (G := fun s : (Int × Int) => jEv xs d (317, 4, [(2, Int.ofNat o0), (0, s.1), (0, s.2)], []) (T, h) y) (K := yk_M_beginner_L4 T xs d y h o0) (fun s out H HY => t_M_beginner_B4 hd ho0 H HY) (fun s' hg => hg) (s := (v1, v2)) H HY
set_option maxRecDepth 20000 in
noncomputable def M_beginner  (h : jH) (o0 : Nat) : Option Int := M_beginner_L4 h o0 (-1) 0
set_option maxRecDepth 20000 in
theorem t_M_beginner {T : jT} {xs : List Int} {h : jH}  {o0 : Nat} {out : Int} (ho0 : isX12 T o0) (H : M_beginner h o0 = some out) : jEm xs 4 317 [(2, Int.ofNat o0)] (T, h) ((0, out), (T, h)) := by
  have hd : 3 ≤ 3 := Nat.le_refl _
  obtain ⟨y, ey⟩ : ∃ y : jV × jS, y = ((0, out), (T, h)) := ⟨_, rfl⟩
  rw [← ey]
  have HY : ykIp T h y out := ey
  refine jEm.ent (n := 3) (by decide +kernel) (Nat.le_of_ble_eq_true rfl) ?_
  show jEv xs 3 (317, 0, [(2, Int.ofNat o0), (3, 0), (3, 0)], []) (T, h) y
  unfold M_beginner at H
  refine jEv.blk [(.iconst (-1), 1, []), (.istore_n 1, 1, []), (.iconst 0, 1, []), (.istore_n 2, 1, [])] (by decide +kernel) (pc' := 4) (ls' := [(2, Int.ofNat o0), (0, (-1)), (0, 0)]) (st' := []) rfl ?_
  exact t_M_beginner_L4 (T := T) (xs := xs) (y := y) hd ho0 H HY
set_option maxRecDepth 20000 in
noncomputable def M_isGreater_p25  (h : jH)  : Option Int := some 0
set_option maxRecDepth 20000 in
theorem t_M_isGreater_p25 {T : jT} {xs : List Int} {d : Nat} {y : jV × jS} (hd : 3 ≤ d) {h : jH}   {out : Int}  (H : M_isGreater_p25 h = some out) (HY : ykIp T h y out) : jEv xs d (319, 25, [(3, 0), (3, 0), (3, 0)], []) (T, h) y := by
  unfold M_isGreater_p25 at H
  refine jEv.blk [(.iconst 0, 1, [])] (by decide +kernel) (pc' := 26) (ls' := [(3, 0), (3, 0), (3, 0)]) (st' := [(0, 0)]) rfl ?_
  exact jEv.retZ (show jfI 319 26 (.ireturn) 1 [] = true by decide +kernel) (by decide +kernel) (by decide) (by cases H; exact HY)
set_option maxRecDepth 20000 in
noncomputable def M_isGreater  (h : jH) (o0 : Nat) (v1 : Int) (v2 : Int) : Option Int := Option.bind (M_isHead h o0 v1) (fun b1 => (if b1 = 0 then M_isGreater_p25 h else Option.bind (M_serialOf h o0 v1) (fun b3 => Option.bind (M_serialOf h o0 v2) (fun b4 => (if b4 < b3 then some 1 else M_isGreater_p25 h)))))
set_option maxRecDepth 20000 in
theorem t_M_isGreater {T : jT} {xs : List Int} {h : jH}  {o0 : Nat} {v1 : Int} {v2 : Int} {out : Int} (ho0 : isX12 T o0) (H : M_isGreater h o0 v1 v2 = some out) : jEm xs 4 319 [(2, Int.ofNat o0), (0, v1), (0, v2)] (T, h) ((0, out), (T, h)) := by
  have hd : 3 ≤ 3 := Nat.le_refl _
  obtain ⟨y, ey⟩ : ∃ y : jV × jS, y = ((0, out), (T, h)) := ⟨_, rfl⟩
  rw [← ey]
  have HY : ykIp T h y out := ey
  refine jEm.ent (n := 3) (by decide +kernel) (Nat.le_of_ble_eq_true rfl) ?_
  show jEv xs 3 (319, 0, [(2, Int.ofNat o0), (0, v1), (0, v2)], []) (T, h) y
  unfold M_isGreater at H
  refine jEv.blk [(.aload_n 0, 1, []), (.iload_n 1, 1, [])] (by decide +kernel) (pc' := 2) (ls' := [(2, Int.ofNat o0), (0, v1), (0, v2)]) (st' := [(0, v1), (2, Int.ofNat o0)]) rfl ?_
  refine jbind H (fun b1 Hb1 H => ?_)
  refine jEv.calV (st' := [(0, b1)]) (show jfI 319 2 (.invokevirtual 535) 3 [1, 258, 1, 9112] = true by decide +kernel) rfl (Or.inl rfl) rfl (Nat.le_of_ble_eq_true rfl) (by decide +kernel) (by decide) (isX12_L ho0) ((t_M_isHead (T := T) (xs := xs) ho0 Hb1).mono (jKle 3 hd)) rfl ?_
  refine jEv.if_eq (t := 25) (show jfI 319 5 (.ifCond .eq 20) 3 [] = true by decide +kernel) rfl H (fun c2 H => ?_) (fun c2 H => ?_)
  · exact jEv.weak (a := [(3, 0), (3, 0), (3, 0)]) (jles.c0 (jles.c0 (jles.c0 jles.nl))) (t_M_isGreater_p25 (T := T) (xs := xs) (y := y) hd H HY)
  · refine jEv.blk [(.aload_n 0, 1, []), (.iload_n 1, 1, [])] (by decide +kernel) (pc' := 10) (ls' := [(2, Int.ofNat o0), (0, v1), (0, v2)]) (st' := [(0, v1), (2, Int.ofNat o0)]) rfl ?_
    refine jbind H (fun b3 Hb3 H => ?_)
    refine jEv.calV (st' := [(0, b3)]) (show jfI 319 10 (.invokevirtual 497) 3 [1, 260, 1, 9120] = true by decide +kernel) rfl (Or.inl rfl) rfl (Nat.le_of_ble_eq_true rfl) (by decide +kernel) (by decide) (isX12_L ho0) ((t_M_serialOf (T := T) (xs := xs) ho0 Hb3).mono (jKle 2 hd)) rfl ?_
    refine jEv.blk [(.aload_n 0, 1, []), (.iload_n 2, 1, [])] (by decide +kernel) (pc' := 15) (ls' := [(2, Int.ofNat o0), (0, v1), (0, v2)]) (st' := [(0, v2), (2, Int.ofNat o0), (0, b3)]) rfl ?_
    refine jbind H (fun b4 Hb4 H => ?_)
    refine jEv.calV (st' := [(0, b4), (0, b3)]) (show jfI 319 15 (.invokevirtual 497) 3 [1, 260, 1, 9120] = true by decide +kernel) rfl (Or.inl rfl) rfl (Nat.le_of_ble_eq_true rfl) (by decide +kernel) (by decide) (isX12_L ho0) ((t_M_serialOf (T := T) (xs := xs) ho0 Hb4).mono (jKle 2 hd)) rfl ?_
    refine jEv.ic_le (t := 25) (show jfI 319 18 (.if_icmp .le 7) 3 [] = true by decide +kernel) rfl H (fun c5 H => ?_) (fun c5 H => ?_)
    · refine jEv.blk [(.iconst 1, 1, [])] (by decide +kernel) (pc' := 22) (ls' := [(2, Int.ofNat o0), (0, v1), (0, v2)]) (st' := [(0, 1)]) rfl ?_
      refine jEv.goto (t := 26) (show jfI 319 22 (.goto 4) 3 [] = true by decide +kernel) rfl ?_
      exact jEv.retZ (show jfI 319 26 (.ireturn) 1 [] = true by decide +kernel) (by decide +kernel) (by decide) (by cases H; exact HY)
    · exact jEv.weak (a := [(3, 0), (3, 0), (3, 0)]) (jles.c0 (jles.c0 (jles.c0 jles.nl))) (t_M_isGreater_p25 (T := T) (xs := xs) (y := y) hd H HY)
def yk_M_follower_L4 (T : jT) (xs : List Int) (d : Nat) (y : jV × jS) (h : jH)  (o0 : Nat) (v1 : Int) : ((Int × Int) ⊕ Int) → Prop
  | .inl (v2, v3) => jEv xs d (318, 4, [(2, Int.ofNat o0), (0, v1), (0, v2), (0, v3)], []) (T, h) y
  | .inr o => ykIp T h y o
set_option maxRecDepth 20000 in
noncomputable def M_follower_p47  (h : jH) (o0 : Nat) (v1 : Int) (v3 : Int) : Option ((Int × Int) ⊕ Int) := some (.inl (v3, (wr (v3 + 1))))
set_option maxRecDepth 20000 in
theorem t_M_follower_p47 {T : jT} {xs : List Int} {d : Nat} {y : jV × jS} (hd : 4 ≤ d) {h : jH}  {o0 : Nat} {v1 : Int} {v3 : Int} {out : ((Int × Int) ⊕ Int)} (ho0 : isX12 T o0) (H : M_follower_p47 h o0 v1 v3 = some out) (HY : yk_M_follower_L4 T xs d y h o0 v1 out) : jEv xs d (318, 47, [(2, Int.ofNat o0), (0, v1), (3, 0), (0, v3)], []) (T, h) y := by
  unfold M_follower_p47 at H
  refine jEv.blk [(.iload_n 3, 1, []), (.istore_n 2, 1, [])] (by decide +kernel) (pc' := 49) (ls' := [(2, Int.ofNat o0), (0, v1), (0, v3), (0, v3)]) (st' := []) rfl ?_
  refine jEv.blk [(.iinc 3 1, 3, [])] (by decide +kernel) (pc' := 52) (ls' := [(2, Int.ofNat o0), (0, v1), (0, v3), (0, (wr (v3 + 1)))]) (st' := []) rfl ?_
  refine jEv.goto (t := 4) (show jfI 318 52 (.goto (-48)) 3 [] = true by decide +kernel) rfl ?_
  exact (by cases H; exact HY)
set_option maxRecDepth 20000 in
noncomputable def M_follower_B4  (h : jH) (o0 : Nat) (v1 : Int) (v2 : Int) (v3 : Int) : Option ((Int × Int) ⊕ Int) := Option.bind (M_segmentMany h o0) (fun b1 => (if v3 < b1 then Option.bind (M_isGreater h o0 v3 v1) (fun b3 => (if b3 = 0 then some (.inl (v2, (wr (v3 + 1)))) else Option.bind (M_firstOf h o0 v3) (fun b5 => (if b5 = (h o0 62) then (if v2 = (-1) then M_follower_p47 h o0 v1 v3 else Option.bind (M_isGreater h o0 v3 v2) (fun b8 => (if b8 = 0 then some (.inl (v2, (wr (v3 + 1)))) else M_follower_p47 h o0 v1 v3))) else some (.inl (v2, (wr (v3 + 1)))))))) else Option.map Sum.inr (some v2)))
noncomputable def M_follower_L4  (h : jH) (o0 : Nat) (v1 : Int) (v2 : Int) (v3 : Int) : Option Int := jloop (fun s : (Int × Int) => M_follower_B4 h o0 v1 s.1 s.2) (v2, v3)
set_option maxRecDepth 20000 in
theorem t_M_follower_B4 {T : jT} {xs : List Int} {d : Nat} {y : jV × jS} (hd : 4 ≤ d) {h : jH}  {o0 : Nat} {v1 : Int} {v2 : Int} {v3 : Int} {out : ((Int × Int) ⊕ Int)} (ho0 : isX12 T o0) (H : M_follower_B4 h o0 v1 v2 v3 = some out) (HY : yk_M_follower_L4 T xs d y h o0 v1 out) : jEv xs d (318, 4, [(2, Int.ofNat o0), (0, v1), (0, v2), (0, v3)], []) (T, h) y := by
  unfold M_follower_B4 at H
  refine jEv.blk [(.iload_n 3, 1, []), (.aload_n 0, 1, [])] (by decide +kernel) (pc' := 6) (ls' := [(2, Int.ofNat o0), (0, v1), (0, v2), (0, v3)]) (st' := [(2, Int.ofNat o0), (0, v3)]) rfl ?_
  refine jbind H (fun b1 Hb1 H => ?_)
  refine jEv.calV (st' := [(0, b1), (0, v3)]) (show jfI 318 6 (.invokevirtual 360) 3 [1, 254, 0, 9096] = true by decide +kernel) rfl (Or.inl rfl) rfl (Nat.le_of_ble_eq_true rfl) (by decide +kernel) (by decide) (isX12_L ho0) ((t_M_segmentMany (T := T) (xs := xs) ho0 Hb1).mono (jKle 1 hd)) rfl ?_
  refine jEv.ic_ge (t := 55) (show jfI 318 9 (.if_icmp .ge 46) 3 [] = true by decide +kernel) rfl H (fun c2 H => ?_) (fun c2 H => ?_)
  · refine jEv.blk [(.aload_n 0, 1, []), (.iload_n 3, 1, []), (.iload_n 1, 1, [])] (by decide +kernel) (pc' := 15) (ls' := [(2, Int.ofNat o0), (0, v1), (0, v2), (0, v3)]) (st' := [(0, v1), (0, v3), (2, Int.ofNat o0)]) rfl ?_
    refine jbind H (fun b3 Hb3 H => ?_)
    refine jEv.calV (st' := [(0, b3)]) (show jfI 318 15 (.invokevirtual 544) 3 [1, 319, 2, 10127] = true by decide +kernel) rfl (Or.inl rfl) rfl (Nat.le_of_ble_eq_true rfl) (by decide +kernel) (by decide) (isX12_L ho0) ((t_M_isGreater (T := T) (xs := xs) ho0 Hb3).mono (jKle 4 hd)) rfl ?_
    refine jEv.if_eq (t := 49) (show jfI 318 18 (.ifCond .eq 31) 3 [] = true by decide +kernel) rfl H (fun c4 H => ?_) (fun c4 H => ?_)
    · refine jEv.blk [(.iinc 3 1, 3, [])] (by decide +kernel) (pc' := 52) (ls' := [(2, Int.ofNat o0), (0, v1), (0, v2), (0, (wr (v3 + 1)))]) (st' := []) rfl ?_
      refine jEv.goto (t := 4) (show jfI 318 52 (.goto (-48)) 3 [] = true by decide +kernel) rfl ?_
      exact (by cases H; exact HY)
    · refine jEv.blk [(.aload_n 0, 1, []), (.iload_n 3, 1, [])] (by decide +kernel) (pc' := 23) (ls' := [(2, Int.ofNat o0), (0, v1), (0, v2), (0, v3)]) (st' := [(0, v3), (2, Int.ofNat o0)]) rfl ?_
      refine jbind H (fun b5 Hb5 H => ?_)
      refine jEv.calV (st' := [(0, b5)]) (show jfI 318 23 (.invokevirtual 541) 3 [1, 261, 1, 9124] = true by decide +kernel) rfl (Or.inl rfl) rfl (Nat.le_of_ble_eq_true rfl) (by decide +kernel) (by decide) (isX12_L ho0) ((t_M_firstOf (T := T) (xs := xs) ho0 Hb5).mono (jKle 2 hd)) rfl ?_
      refine jEv.blk [(.aload_n 0, 1, [])] (by decide +kernel) (pc' := 27) (ls' := [(2, Int.ofNat o0), (0, v1), (0, v2), (0, v3)]) (st' := [(2, Int.ofNat o0), (0, b5)]) rfl ?_
      refine jEv.gfI (show jfI 318 27 (.getfield 510) 3 [12, 62, 0, 0, 7098] = true by decide +kernel) (isX12_L ho0) (by decide) ?_
      refine jEv.ic_ne (t := 49) (show jfI 318 30 (.if_icmp .ne 19) 3 [] = true by decide +kernel) rfl H (fun c6 H => ?_) (fun c6 H => ?_)
      · refine jEv.blk [(.iload_n 2, 1, []), (.iconst (-1), 1, [])] (by decide +kernel) (pc' := 35) (ls' := [(2, Int.ofNat o0), (0, v1), (0, v2), (0, v3)]) (st' := [(0, (-1)), (0, v2)]) rfl ?_
        refine jEv.ic_eq (t := 47) (show jfI 318 35 (.if_icmp .eq 12) 3 [] = true by decide +kernel) rfl H (fun c7 H => ?_) (fun c7 H => ?_)
        · exact jEv.weak (a := [(2, Int.ofNat o0), (0, v1), (3, 0), (0, v3)]) (jles.c1 (jles.c1 (jles.c0 (jles.c1 jles.nl)))) (t_M_follower_p47 (T := T) (xs := xs) (y := y) hd ho0 H HY)
        · refine jEv.blk [(.aload_n 0, 1, []), (.iload_n 3, 1, []), (.iload_n 2, 1, [])] (by decide +kernel) (pc' := 41) (ls' := [(2, Int.ofNat o0), (0, v1), (0, v2), (0, v3)]) (st' := [(0, v2), (0, v3), (2, Int.ofNat o0)]) rfl ?_
          refine jbind H (fun b8 Hb8 H => ?_)
          refine jEv.calV (st' := [(0, b8)]) (show jfI 318 41 (.invokevirtual 544) 3 [1, 319, 2, 10127] = true by decide +kernel) rfl (Or.inl rfl) rfl (Nat.le_of_ble_eq_true rfl) (by decide +kernel) (by decide) (isX12_L ho0) ((t_M_isGreater (T := T) (xs := xs) ho0 Hb8).mono (jKle 4 hd)) rfl ?_
          refine jEv.if_eq (t := 49) (show jfI 318 44 (.ifCond .eq 5) 3 [] = true by decide +kernel) rfl H (fun c9 H => ?_) (fun c9 H => ?_)
          · refine jEv.blk [(.iinc 3 1, 3, [])] (by decide +kernel) (pc' := 52) (ls' := [(2, Int.ofNat o0), (0, v1), (0, v2), (0, (wr (v3 + 1)))]) (st' := []) rfl ?_
            refine jEv.goto (t := 4) (show jfI 318 52 (.goto (-48)) 3 [] = true by decide +kernel) rfl ?_
            exact (by cases H; exact HY)
          · exact jEv.weak (a := [(2, Int.ofNat o0), (0, v1), (3, 0), (0, v3)]) (jles.c1 (jles.c1 (jles.c0 (jles.c1 jles.nl)))) (t_M_follower_p47 (T := T) (xs := xs) (y := y) hd ho0 H HY)
      · refine jEv.blk [(.iinc 3 1, 3, [])] (by decide +kernel) (pc' := 52) (ls' := [(2, Int.ofNat o0), (0, v1), (0, v2), (0, (wr (v3 + 1)))]) (st' := []) rfl ?_
        refine jEv.goto (t := 4) (show jfI 318 52 (.goto (-48)) 3 [] = true by decide +kernel) rfl ?_
        exact (by cases H; exact HY)
  · refine jmapr H HY (fun out H (HY : ykIp T h y out) => ?_)
    refine jEv.blk [(.iload_n 2, 1, [])] (by decide +kernel) (pc' := 56) (ls' := [(2, Int.ofNat o0), (0, v1), (0, v2), (0, v3)]) (st' := [(0, v2)]) rfl ?_
    exact jEv.retI (show jfI 318 56 (.ireturn) 1 [] = true by decide +kernel) (by decide +kernel) (by cases H; exact HY)
theorem t_M_follower_L4 {T : jT} {xs : List Int} {d : Nat} {y : jV × jS} (hd : 4 ≤ d) {h : jH}  {o0 : Nat} {v1 : Int} {v2 : Int} {v3 : Int} {out : Int} (ho0 : isX12 T o0) (H : M_follower_L4 h o0 v1 v2 v3 = some out) (HY : ykIp T h y out) : jEv xs d (318, 4, [(2, Int.ofNat o0), (0, v1), (0, v2), (0, v3)], []) (T, h) y :=
  jloop_sound (G := fun s : (Int × Int) => jEv xs d (318, 4, [(2, Int.ofNat o0), (0, v1), (0, s.1), (0, s.2)], []) (T, h) y) (K := yk_M_follower_L4 T xs d y h o0 v1) (fun s out H HY => t_M_follower_B4 hd ho0 H HY) (fun s' hg => hg) (s := (v2, v3)) H HY
set_option maxRecDepth 20000 in
noncomputable def M_follower  (h : jH) (o0 : Nat) (v1 : Int) : Option Int := M_follower_L4 h o0 v1 (-1) 0
set_option maxRecDepth 20000 in
theorem t_M_follower {T : jT} {xs : List Int} {h : jH}  {o0 : Nat} {v1 : Int} {out : Int} (ho0 : isX12 T o0) (H : M_follower h o0 v1 = some out) : jEm xs 5 318 [(2, Int.ofNat o0), (0, v1)] (T, h) ((0, out), (T, h)) := by
  have hd : 4 ≤ 4 := Nat.le_refl _
  obtain ⟨y, ey⟩ : ∃ y : jV × jS, y = ((0, out), (T, h)) := ⟨_, rfl⟩
  rw [← ey]
  have HY : ykIp T h y out := ey
  refine jEm.ent (n := 4) (by decide +kernel) (Nat.le_of_ble_eq_true rfl) ?_
  show jEv xs 4 (318, 0, [(2, Int.ofNat o0), (0, v1), (3, 0), (3, 0)], []) (T, h) y
  unfold M_follower at H
  refine jEv.blk [(.iconst (-1), 1, []), (.istore_n 2, 1, []), (.iconst 0, 1, []), (.istore_n 3, 1, [])] (by decide +kernel) (pc' := 4) (ls' := [(2, Int.ofNat o0), (0, v1), (0, (-1)), (0, 0)]) (st' := []) rfl ?_
  exact t_M_follower_L4 (T := T) (xs := xs) (y := y) hd ho0 H HY
def yk_M_endsWithoutGround_L2 (T : jT) (xs : List Int) (d : Nat) (y : jV × jS)  (o0 : Nat) : ((Int × jH) ⊕ jH) → Prop
  | .inl (v1, h) => jEv xs d (320, 2, [(2, Int.ofNat o0), (0, v1)], []) (T, h) y
  | .inr o => ykV T y o
set_option maxRecDepth 20000 in
noncomputable def M_endsWithoutGround_B2  (h : jH) (o0 : Nat) (v1 : Int) : Option ((Int × jH) ⊕ jH) := (if v1 < 4 then (if (0 : Int) ≤ (wr (192 + v1)) ∧ ((wr (192 + v1)) : Int).toNat < 2365 then some (.inl ((wr (v1 + 1)), (jup h (o0 + 33) ((wr (192 + v1)) : Int).toNat (-1)))) else none) else Option.map Sum.inr ((if (0 : Int) ≤ 5 ∧ (5 : Int).toNat < 2365 then (if (0 : Int) ≤ 6 ∧ (6 : Int).toNat < 2365 then (if (0 : Int) ≤ 7 ∧ (7 : Int).toNat < 2365 then (if (0 : Int) ≤ 10 ∧ (10 : Int).toNat < 2365 then (if (0 : Int) ≤ 9 ∧ (9 : Int).toNat < 2365 then (if (0 : Int) ≤ 1 ∧ (1 : Int).toNat < 2365 then (if (0 : Int) ≤ 9 ∧ (9 : Int).toNat < 2365 then (if (0 : Int) ≤ 2 ∧ (2 : Int).toNat < 2365 then some (jup (jup (jup (jup (jup (jup h (o0 + 33) (5 : Int).toNat 0) (o0 + 33) (6 : Int).toNat 5) (o0 + 33) (7 : Int).toNat 0) (o0 + 33) (10 : Int).toNat 1) (o0 + 33) (1 : Int).toNat ((jup (jup (jup (jup h (o0 + 33) (5 : Int).toNat 0) (o0 + 33) (6 : Int).toNat 5) (o0 + 33) (7 : Int).toNat 0) (o0 + 33) (10 : Int).toNat 1) (o0 + 33) (9 : Int).toNat)) (o0 + 33) (2 : Int).toNat ((jup (jup (jup (jup (jup h (o0 + 33) (5 : Int).toNat 0) (o0 + 33) (6 : Int).toNat 5) (o0 + 33) (7 : Int).toNat 0) (o0 + 33) (10 : Int).toNat 1) (o0 + 33) (1 : Int).toNat ((jup (jup (jup (jup h (o0 + 33) (5 : Int).toNat 0) (o0 + 33) (6 : Int).toNat 5) (o0 + 33) (7 : Int).toNat 0) (o0 + 33) (10 : Int).toNat 1) (o0 + 33) (9 : Int).toNat)) (o0 + 33) (9 : Int).toNat)) else none) else none) else none) else none) else none) else none) else none) else none)))
noncomputable def M_endsWithoutGround_L2  (h : jH) (o0 : Nat) (v1 : Int) : Option jH := jloop (fun s : (Int × jH) => M_endsWithoutGround_B2 s.2 o0 s.1) (v1, h)
set_option maxRecDepth 20000 in
theorem t_M_endsWithoutGround_B2 {T : jT} {xs : List Int} {d : Nat} {y : jV × jS} (hd : 0 ≤ d) {h : jH}  {o0 : Nat} {v1 : Int} {out : ((Int × jH) ⊕ jH)} (ho0 : isX12 T o0) (H : M_endsWithoutGround_B2 h o0 v1 = some out) (HY : yk_M_endsWithoutGround_L2 T xs d y o0 out) : jEv xs d (320, 2, [(2, Int.ofNat o0), (0, v1)], []) (T, h) y := by
  unfold M_endsWithoutGround_B2 at H
  refine jEv.blk [(.iload_n 1, 1, []), (.iconst 4, 1, [])] (by decide +kernel) (pc' := 4) (ls' := [(2, Int.ofNat o0), (0, v1)]) (st' := [(0, 4), (0, v1)]) rfl ?_
  refine jEv.ic_ge (t := 24) (show jfI 320 4 (.if_icmp .ge 20) 3 [] = true by decide +kernel) rfl H (fun c1 H => ?_) (fun c1 H => ?_)
  · refine jEv.blk [(.aload_n 0, 1, [])] (by decide +kernel) (pc' := 8) (ls' := [(2, Int.ofNat o0), (0, v1)]) (st' := [(2, Int.ofNat o0)]) rfl ?_
    refine jEv.gfR (o' := (o0 + 33)) (show jfI 320 8 (.getfield 111) 3 [12, 45, 5, 0, 7081] = true by decide +kernel) (isX12_L ho0) (by decide) (isX12_r45 ho0) ?_
    refine jEv.blk [(.sipush 192, 3, []), (.iload_n 1, 1, []), (.iadd, 1, []), (.iconst (-1), 1, [])] (by decide +kernel) (pc' := 17) (ls' := [(2, Int.ofNat o0), (0, v1)]) (st' := [(0, (-1)), (0, (wr (192 + v1))), (2, Int.ofNat (o0 + 33))]) rfl ?_
    refine jEv.ast (Or.inl ⟨rfl, rfl, rfl⟩) (show jfI 320 17 (.iastore) 1 [] = true by decide +kernel) (isX12_a45 ho0) rfl H (fun c2 H => ?_)
    refine jEv.blk [(.iinc 1 1, 3, [])] (by decide +kernel) (pc' := 21) (ls' := [(2, Int.ofNat o0), (0, (wr (v1 + 1)))]) (st' := []) rfl ?_
    refine jEv.goto (t := 2) (show jfI 320 21 (.goto (-19)) 3 [] = true by decide +kernel) rfl ?_
    exact (by cases H; exact HY)
  · refine jmapr H HY (fun out H (HY : ykV T y out) => ?_)
    refine jEv.blk [(.aload_n 0, 1, [])] (by decide +kernel) (pc' := 25) (ls' := [(2, Int.ofNat o0), (0, v1)]) (st' := [(2, Int.ofNat o0)]) rfl ?_
    refine jEv.gfR (o' := (o0 + 33)) (show jfI 320 25 (.getfield 111) 3 [12, 45, 5, 0, 7081] = true by decide +kernel) (isX12_L ho0) (by decide) (isX12_r45 ho0) ?_
    refine jEv.blk [(.iconst 5, 1, []), (.iconst 0, 1, [])] (by decide +kernel) (pc' := 30) (ls' := [(2, Int.ofNat o0), (0, v1)]) (st' := [(0, 0), (0, 5), (2, Int.ofNat (o0 + 33))]) rfl ?_
    refine jEv.ast (Or.inl ⟨rfl, rfl, rfl⟩) (show jfI 320 30 (.iastore) 1 [] = true by decide +kernel) (isX12_a45 ho0) rfl H (fun c3 H => ?_)
    refine jEv.blk [(.aload_n 0, 1, [])] (by decide +kernel) (pc' := 32) (ls' := [(2, Int.ofNat o0), (0, v1)]) (st' := [(2, Int.ofNat o0)]) rfl ?_
    refine jEv.gfR (o' := (o0 + 33)) (show jfI 320 32 (.getfield 111) 3 [12, 45, 5, 0, 7081] = true by decide +kernel) (isX12_L ho0) (by decide) (isX12_r45 ho0) ?_
    refine jEv.blk [(.bipush 6, 2, []), (.iconst 5, 1, [])] (by decide +kernel) (pc' := 38) (ls' := [(2, Int.ofNat o0), (0, v1)]) (st' := [(0, 5), (0, 6), (2, Int.ofNat (o0 + 33))]) rfl ?_
    refine jEv.ast (Or.inl ⟨rfl, rfl, rfl⟩) (show jfI 320 38 (.iastore) 1 [] = true by decide +kernel) (isX12_a45 ho0) rfl H (fun c4 H => ?_)
    refine jEv.blk [(.aload_n 0, 1, [])] (by decide +kernel) (pc' := 40) (ls' := [(2, Int.ofNat o0), (0, v1)]) (st' := [(2, Int.ofNat o0)]) rfl ?_
    refine jEv.gfR (o' := (o0 + 33)) (show jfI 320 40 (.getfield 111) 3 [12, 45, 5, 0, 7081] = true by decide +kernel) (isX12_L ho0) (by decide) (isX12_r45 ho0) ?_
    refine jEv.blk [(.bipush 7, 2, []), (.iconst 0, 1, [])] (by decide +kernel) (pc' := 46) (ls' := [(2, Int.ofNat o0), (0, v1)]) (st' := [(0, 0), (0, 7), (2, Int.ofNat (o0 + 33))]) rfl ?_
    refine jEv.ast (Or.inl ⟨rfl, rfl, rfl⟩) (show jfI 320 46 (.iastore) 1 [] = true by decide +kernel) (isX12_a45 ho0) rfl H (fun c5 H => ?_)
    refine jEv.blk [(.aload_n 0, 1, [])] (by decide +kernel) (pc' := 48) (ls' := [(2, Int.ofNat o0), (0, v1)]) (st' := [(2, Int.ofNat o0)]) rfl ?_
    refine jEv.gfR (o' := (o0 + 33)) (show jfI 320 48 (.getfield 111) 3 [12, 45, 5, 0, 7081] = true by decide +kernel) (isX12_L ho0) (by decide) (isX12_r45 ho0) ?_
    refine jEv.blk [(.bipush 10, 2, []), (.iconst 1, 1, [])] (by decide +kernel) (pc' := 54) (ls' := [(2, Int.ofNat o0), (0, v1)]) (st' := [(0, 1), (0, 10), (2, Int.ofNat (o0 + 33))]) rfl ?_
    refine jEv.ast (Or.inl ⟨rfl, rfl, rfl⟩) (show jfI 320 54 (.iastore) 1 [] = true by decide +kernel) (isX12_a45 ho0) rfl H (fun c6 H => ?_)
    refine jEv.blk [(.aload_n 0, 1, [])] (by decide +kernel) (pc' := 56) (ls' := [(2, Int.ofNat o0), (0, v1)]) (st' := [(2, Int.ofNat o0)]) rfl ?_
    refine jEv.gfR (o' := (o0 + 33)) (show jfI 320 56 (.getfield 111) 3 [12, 45, 5, 0, 7081] = true by decide +kernel) (isX12_L ho0) (by decide) (isX12_r45 ho0) ?_
    refine jEv.blk [(.iconst 1, 1, []), (.aload_n 0, 1, [])] (by decide +kernel) (pc' := 61) (ls' := [(2, Int.ofNat o0), (0, v1)]) (st' := [(2, Int.ofNat o0), (0, 1), (2, Int.ofNat (o0 + 33))]) rfl ?_
    refine jEv.gfR (o' := (o0 + 33)) (show jfI 320 61 (.getfield 111) 3 [12, 45, 5, 0, 7081] = true by decide +kernel) (isX12_L ho0) (by decide) (isX12_r45 ho0) ?_
    refine jEv.blk [(.bipush 9, 2, [])] (by decide +kernel) (pc' := 66) (ls' := [(2, Int.ofNat o0), (0, v1)]) (st' := [(0, 9), (2, Int.ofNat (o0 + 33)), (0, 1), (2, Int.ofNat (o0 + 33))]) rfl ?_
    refine jEv.ald (Or.inl ⟨rfl, rfl, rfl⟩) (show jfI 320 66 (.iaload) 1 [] = true by decide +kernel) (isX12_a45 ho0) H (fun c7 H => ?_)
    refine jEv.ast (Or.inl ⟨rfl, rfl, rfl⟩) (show jfI 320 67 (.iastore) 1 [] = true by decide +kernel) (isX12_a45 ho0) rfl H (fun c8 H => ?_)
    refine jEv.blk [(.aload_n 0, 1, [])] (by decide +kernel) (pc' := 69) (ls' := [(2, Int.ofNat o0), (0, v1)]) (st' := [(2, Int.ofNat o0)]) rfl ?_
    refine jEv.gfR (o' := (o0 + 33)) (show jfI 320 69 (.getfield 111) 3 [12, 45, 5, 0, 7081] = true by decide +kernel) (isX12_L ho0) (by decide) (isX12_r45 ho0) ?_
    refine jEv.blk [(.iconst 2, 1, []), (.aload_n 0, 1, [])] (by decide +kernel) (pc' := 74) (ls' := [(2, Int.ofNat o0), (0, v1)]) (st' := [(2, Int.ofNat o0), (0, 2), (2, Int.ofNat (o0 + 33))]) rfl ?_
    refine jEv.gfR (o' := (o0 + 33)) (show jfI 320 74 (.getfield 111) 3 [12, 45, 5, 0, 7081] = true by decide +kernel) (isX12_L ho0) (by decide) (isX12_r45 ho0) ?_
    refine jEv.blk [(.bipush 9, 2, [])] (by decide +kernel) (pc' := 79) (ls' := [(2, Int.ofNat o0), (0, v1)]) (st' := [(0, 9), (2, Int.ofNat (o0 + 33)), (0, 2), (2, Int.ofNat (o0 + 33))]) rfl ?_
    refine jEv.ald (Or.inl ⟨rfl, rfl, rfl⟩) (show jfI 320 79 (.iaload) 1 [] = true by decide +kernel) (isX12_a45 ho0) H (fun c9 H => ?_)
    refine jEv.ast (Or.inl ⟨rfl, rfl, rfl⟩) (show jfI 320 80 (.iastore) 1 [] = true by decide +kernel) (isX12_a45 ho0) rfl H (fun c10 H => ?_)
    exact jEv.retV (show jfI 320 81 (.return_) 1 [] = true by decide +kernel) (by decide +kernel) (by cases H; exact HY)
theorem t_M_endsWithoutGround_L2 {T : jT} {xs : List Int} {d : Nat} {y : jV × jS} (hd : 0 ≤ d) {h : jH}  {o0 : Nat} {v1 : Int} {out : jH} (ho0 : isX12 T o0) (H : M_endsWithoutGround_L2 h o0 v1 = some out) (HY : ykV T y out) : jEv xs d (320, 2, [(2, Int.ofNat o0), (0, v1)], []) (T, h) y :=
  jloop_sound (G := fun s : (Int × jH) => jEv xs d (320, 2, [(2, Int.ofNat o0), (0, s.1)], []) (T, s.2) y) (K := yk_M_endsWithoutGround_L2 T xs d y o0) (fun s out H HY => t_M_endsWithoutGround_B2 hd ho0 H HY) (fun s' hg => hg) (s := (v1, h)) H HY
set_option maxRecDepth 20000 in
noncomputable def M_endsWithoutGround  (h : jH) (o0 : Nat) : Option jH := M_endsWithoutGround_L2 h o0 0
set_option maxRecDepth 20000 in
theorem t_M_endsWithoutGround {T : jT} {xs : List Int} {h : jH}  {o0 : Nat} {out : jH} (ho0 : isX12 T o0) (H : M_endsWithoutGround h o0 = some out) : jEm xs 1 320 [(2, Int.ofNat o0)] (T, h) ((3, 0), (T, out)) := by
  have hd : 0 ≤ 0 := Nat.le_refl _
  obtain ⟨y, ey⟩ : ∃ y : jV × jS, y = ((3, 0), (T, out)) := ⟨_, rfl⟩
  rw [← ey]
  have HY : ykV T y out := ey
  refine jEm.ent (n := 2) (by decide +kernel) (Nat.le_of_ble_eq_true rfl) ?_
  show jEv xs 0 (320, 0, [(2, Int.ofNat o0), (3, 0)], []) (T, h) y
  unfold M_endsWithoutGround at H
  refine jEv.blk [(.iconst 0, 1, []), (.istore_n 1, 1, [])] (by decide +kernel) (pc' := 2) (ls' := [(2, Int.ofNat o0), (0, 0)]) (st' := []) rfl ?_
  exact t_M_endsWithoutGround_L2 (T := T) (xs := xs) (y := y) hd ho0 H HY
def yk_M_isDamaged_L34 (T : jT) (xs : List Int) (d : Nat) (y : jV × jS) (h : jH)  (o0 : Nat) (v1 : Int) : (Int ⊕ Int) → Prop
  | .inl v2 => jEv xs d (321, 34, [(2, Int.ofNat o0), (0, v1), (0, v2)], []) (T, h) y
  | .inr o => ykIp T h y o
def yk_M_isDamaged_L2 (T : jT) (xs : List Int) (d : Nat) (y : jV × jS) (h : jH)  (o0 : Nat) (v1 : Int) : (Int ⊕ Int) → Prop
  | .inl v2 => jEv xs d (321, 2, [(2, Int.ofNat o0), (0, v1), (0, v2)], []) (T, h) y
  | .inr o => ykIp T h y o
set_option maxRecDepth 20000 in
noncomputable def M_isDamaged_B34  (h : jH) (o0 : Nat) (v1 : Int) (v2 : Int) : Option (Int ⊕ Int) := Option.bind (M_length h o0) (fun b5 => (if v2 < b5 then Option.bind (M_isFrame h o0 v1 v2) (fun b7 => (if b7 = 0 then some (.inl ((wr (v2 + 1)))) else Option.bind (M_diskAt h o0 v1 (wr (v2 + 1))) (fun b9 => Option.bind (M_isIn b9 1 4) (fun b10 => (if b10 = 0 then some (.inl ((wr (v2 + 1)))) else Option.map Sum.inr (some 1)))))) else Option.map Sum.inr (some 0)))
noncomputable def M_isDamaged_L34  (h : jH) (o0 : Nat) (v1 : Int) (v2 : Int) : Option Int := jloop (fun s : Int => M_isDamaged_B34 h o0 v1 s) (v2)
set_option maxRecDepth 20000 in
theorem t_M_isDamaged_B34 {T : jT} {xs : List Int} {d : Nat} {y : jV × jS} (hd : 4 ≤ d) {h : jH}  {o0 : Nat} {v1 : Int} {v2 : Int} {out : (Int ⊕ Int)} (ho0 : isX12 T o0) (H : M_isDamaged_B34 h o0 v1 v2 = some out) (HY : yk_M_isDamaged_L34 T xs d y h o0 v1 out) : jEv xs d (321, 34, [(2, Int.ofNat o0), (0, v1), (0, v2)], []) (T, h) y := by
  unfold M_isDamaged_B34 at H
  refine jEv.blk [(.iload_n 2, 1, []), (.aload_n 0, 1, [])] (by decide +kernel) (pc' := 36) (ls' := [(2, Int.ofNat o0), (0, v1), (0, v2)]) (st' := [(2, Int.ofNat o0), (0, v2)]) rfl ?_
  refine jbind H (fun b5 Hb5 H => ?_)
  refine jEv.calV (st' := [(0, b5), (0, v2)]) (show jfI 321 36 (.invokevirtual 402) 3 [1, 249, 0, 9076] = true by decide +kernel) rfl (Or.inl rfl) rfl (Nat.le_of_ble_eq_true rfl) (by decide +kernel) (by decide) (isX12_L ho0) ((t_M_length (T := T) (xs := xs) ho0 Hb5).mono (jKle 1 hd)) rfl ?_
  refine jEv.ic_ge (t := 78) (show jfI 321 39 (.if_icmp .ge 39) 3 [] = true by decide +kernel) rfl H (fun c6 H => ?_) (fun c6 H => ?_)
  · refine jEv.blk [(.aload_n 0, 1, []), (.iload_n 1, 1, []), (.iload_n 2, 1, [])] (by decide +kernel) (pc' := 45) (ls' := [(2, Int.ofNat o0), (0, v1), (0, v2)]) (st' := [(0, v2), (0, v1), (2, Int.ofNat o0)]) rfl ?_
    refine jbind H (fun b7 Hb7 H => ?_)
    refine jEv.calV (st' := [(0, b7)]) (show jfI 321 45 (.invokevirtual 522) 3 [1, 266, 2, 9144] = true by decide +kernel) rfl (Or.inl rfl) rfl (Nat.le_of_ble_eq_true rfl) (by decide +kernel) (by decide) (isX12_L ho0) ((t_M_isFrame (T := T) (xs := xs) ho0 Hb7).mono (jKle 3 hd)) rfl ?_
    refine jEv.if_eq (t := 72) (show jfI 321 48 (.ifCond .eq 24) 3 [] = true by decide +kernel) rfl H (fun c8 H => ?_) (fun c8 H => ?_)
    · refine jEv.blk [(.iinc 2 1, 3, [])] (by decide +kernel) (pc' := 75) (ls' := [(2, Int.ofNat o0), (0, v1), (0, (wr (v2 + 1)))]) (st' := []) rfl ?_
      refine jEv.goto (t := 34) (show jfI 321 75 (.goto (-41)) 3 [] = true by decide +kernel) rfl ?_
      exact (by cases H; exact HY)
    · refine jEv.blk [(.aload_n 0, 1, []), (.iload_n 1, 1, []), (.iload_n 2, 1, []), (.iconst 1, 1, []), (.iadd, 1, [])] (by decide +kernel) (pc' := 56) (ls' := [(2, Int.ofNat o0), (0, v1), (0, v2)]) (st' := [(0, (wr (v2 + 1))), (0, v1), (2, Int.ofNat o0)]) rfl ?_
      refine jbind H (fun b9 Hb9 H => ?_)
      refine jEv.calV (st' := [(0, b9)]) (show jfI 321 56 (.invokevirtual 494) 3 [1, 259, 2, 9116] = true by decide +kernel) rfl (Or.inl rfl) rfl (Nat.le_of_ble_eq_true rfl) (by decide +kernel) (by decide) (isX12_L ho0) ((t_M_diskAt (T := T) (xs := xs) ho0 Hb9).mono (jKle 1 hd)) rfl ?_
      refine jEv.blk [(.i2l, 1, []), (.lconst 1, 1, []), (.ldc2_w 547, 3, [1, 0, 4, 10110])] (by decide +kernel) (pc' := 64) (ls' := [(2, Int.ofNat o0), (0, v1), (0, v2)]) (st' := [(1, 4), (1, 1), (1, b9)]) rfl ?_
      refine jbind H (fun b10 Hb10 H => ?_)
      refine jEv.calS (st' := [(0, b10)]) (show jfI 321 64 (.invokestatic 275) 3 [3, 213, 3, 8176] = true by decide +kernel) rfl (Or.inl rfl) rfl (Nat.le_of_ble_eq_true rfl) ((t_M_isIn (T := T) (xs := xs)  Hb10).mono (jKle 1 hd)) rfl ?_
      refine jEv.if_eq (t := 72) (show jfI 321 67 (.ifCond .eq 5) 3 [] = true by decide +kernel) rfl H (fun c11 H => ?_) (fun c11 H => ?_)
      · refine jEv.blk [(.iinc 2 1, 3, [])] (by decide +kernel) (pc' := 75) (ls' := [(2, Int.ofNat o0), (0, v1), (0, (wr (v2 + 1)))]) (st' := []) rfl ?_
        refine jEv.goto (t := 34) (show jfI 321 75 (.goto (-41)) 3 [] = true by decide +kernel) rfl ?_
        exact (by cases H; exact HY)
      · refine jmapr H HY (fun out H (HY : ykIp T h y out) => ?_)
        refine jEv.blk [(.iconst 1, 1, [])] (by decide +kernel) (pc' := 71) (ls' := [(2, Int.ofNat o0), (0, v1), (0, v2)]) (st' := [(0, 1)]) rfl ?_
        exact jEv.retZ (show jfI 321 71 (.ireturn) 1 [] = true by decide +kernel) (by decide +kernel) (by decide) (by cases H; exact HY)
  · refine jmapr H HY (fun out H (HY : ykIp T h y out) => ?_)
    refine jEv.blk [(.iconst 0, 1, [])] (by decide +kernel) (pc' := 79) (ls' := [(2, Int.ofNat o0), (0, v1), (0, v2)]) (st' := [(0, 0)]) rfl ?_
    exact jEv.retZ (show jfI 321 79 (.ireturn) 1 [] = true by decide +kernel) (by decide +kernel) (by decide) (by cases H; exact HY)
theorem t_M_isDamaged_L34 {T : jT} {xs : List Int} {d : Nat} {y : jV × jS} (hd : 4 ≤ d) {h : jH}  {o0 : Nat} {v1 : Int} {v2 : Int} {out : Int} (ho0 : isX12 T o0) (H : M_isDamaged_L34 h o0 v1 v2 = some out) (HY : ykIp T h y out) : jEv xs d (321, 34, [(2, Int.ofNat o0), (0, v1), (0, v2)], []) (T, h) y :=
  jloop_sound (G := fun s : Int => jEv xs d (321, 34, [(2, Int.ofNat o0), (0, v1), (0, s)], []) (T, h) y) (K := yk_M_isDamaged_L34 T xs d y h o0 v1) (fun s out H HY => t_M_isDamaged_B34 hd ho0 H HY) (fun s' hg => hg) (s := (v2)) H HY
set_option maxRecDepth 20000 in
noncomputable def M_isDamaged_B2  (h : jH) (o0 : Nat) (v1 : Int) (v2 : Int) : Option (Int ⊕ Int) := Option.bind (M_segmentMany h o0) (fun b1 => (if v2 < b1 then Option.bind (M_isGreater h o0 v2 v1) (fun b3 => (if b3 = 0 then some (.inl ((wr (v2 + 1)))) else Option.map Sum.inr (some 1))) else Option.map Sum.inr (M_isDamaged_L34 h o0 v1 (wr ((h o0 61) + 1)))))
noncomputable def M_isDamaged_L2  (h : jH) (o0 : Nat) (v1 : Int) (v2 : Int) : Option Int := jloop (fun s : Int => M_isDamaged_B2 h o0 v1 s) (v2)
set_option maxRecDepth 20000 in
theorem t_M_isDamaged_B2 {T : jT} {xs : List Int} {d : Nat} {y : jV × jS} (hd : 4 ≤ d) {h : jH}  {o0 : Nat} {v1 : Int} {v2 : Int} {out : (Int ⊕ Int)} (ho0 : isX12 T o0) (H : M_isDamaged_B2 h o0 v1 v2 = some out) (HY : yk_M_isDamaged_L2 T xs d y h o0 v1 out) : jEv xs d (321, 2, [(2, Int.ofNat o0), (0, v1), (0, v2)], []) (T, h) y := by
  unfold M_isDamaged_B2 at H
  refine jEv.blk [(.iload_n 2, 1, []), (.aload_n 0, 1, [])] (by decide +kernel) (pc' := 4) (ls' := [(2, Int.ofNat o0), (0, v1), (0, v2)]) (st' := [(2, Int.ofNat o0), (0, v2)]) rfl ?_
  refine jbind H (fun b1 Hb1 H => ?_)
  refine jEv.calV (st' := [(0, b1), (0, v2)]) (show jfI 321 4 (.invokevirtual 360) 3 [1, 254, 0, 9096] = true by decide +kernel) rfl (Or.inl rfl) rfl (Nat.le_of_ble_eq_true rfl) (by decide +kernel) (by decide) (isX12_L ho0) ((t_M_segmentMany (T := T) (xs := xs) ho0 Hb1).mono (jKle 1 hd)) rfl ?_
  refine jEv.ic_ge (t := 27) (show jfI 321 7 (.if_icmp .ge 20) 3 [] = true by decide +kernel) rfl H (fun c2 H => ?_) (fun c2 H => ?_)
  · refine jEv.blk [(.aload_n 0, 1, []), (.iload_n 2, 1, []), (.iload_n 1, 1, [])] (by decide +kernel) (pc' := 13) (ls' := [(2, Int.ofNat o0), (0, v1), (0, v2)]) (st' := [(0, v1), (0, v2), (2, Int.ofNat o0)]) rfl ?_
    refine jbind H (fun b3 Hb3 H => ?_)
    refine jEv.calV (st' := [(0, b3)]) (show jfI 321 13 (.invokevirtual 544) 3 [1, 319, 2, 10127] = true by decide +kernel) rfl (Or.inl rfl) rfl (Nat.le_of_ble_eq_true rfl) (by decide +kernel) (by decide) (isX12_L ho0) ((t_M_isGreater (T := T) (xs := xs) ho0 Hb3).mono (jKle 4 hd)) rfl ?_
    refine jEv.if_eq (t := 21) (show jfI 321 16 (.ifCond .eq 5) 3 [] = true by decide +kernel) rfl H (fun c4 H => ?_) (fun c4 H => ?_)
    · refine jEv.blk [(.iinc 2 1, 3, [])] (by decide +kernel) (pc' := 24) (ls' := [(2, Int.ofNat o0), (0, v1), (0, (wr (v2 + 1)))]) (st' := []) rfl ?_
      refine jEv.goto (t := 2) (show jfI 321 24 (.goto (-22)) 3 [] = true by decide +kernel) rfl ?_
      exact (by cases H; exact HY)
    · refine jmapr H HY (fun out H (HY : ykIp T h y out) => ?_)
      refine jEv.blk [(.iconst 1, 1, [])] (by decide +kernel) (pc' := 20) (ls' := [(2, Int.ofNat o0), (0, v1), (0, v2)]) (st' := [(0, 1)]) rfl ?_
      exact jEv.retZ (show jfI 321 20 (.ireturn) 1 [] = true by decide +kernel) (by decide +kernel) (by decide) (by cases H; exact HY)
  · refine jmapr H HY (fun out H (HY : ykIp T h y out) => ?_)
    refine jEv.blk [(.aload_n 0, 1, [])] (by decide +kernel) (pc' := 28) (ls' := [(2, Int.ofNat o0), (0, v1), (0, v2)]) (st' := [(2, Int.ofNat o0)]) rfl ?_
    refine jEv.gfI (show jfI 321 28 (.getfield 519) 3 [12, 61, 0, 0, 7097] = true by decide +kernel) (isX12_L ho0) (by decide) ?_
    refine jEv.blk [(.iconst 1, 1, []), (.iadd, 1, []), (.istore_n 2, 1, [])] (by decide +kernel) (pc' := 34) (ls' := [(2, Int.ofNat o0), (0, v1), (0, (wr ((h o0 61) + 1)))]) (st' := []) rfl ?_
    exact t_M_isDamaged_L34 (T := T) (xs := xs) (y := y) hd ho0 H HY
theorem t_M_isDamaged_L2 {T : jT} {xs : List Int} {d : Nat} {y : jV × jS} (hd : 4 ≤ d) {h : jH}  {o0 : Nat} {v1 : Int} {v2 : Int} {out : Int} (ho0 : isX12 T o0) (H : M_isDamaged_L2 h o0 v1 v2 = some out) (HY : ykIp T h y out) : jEv xs d (321, 2, [(2, Int.ofNat o0), (0, v1), (0, v2)], []) (T, h) y :=
  jloop_sound (G := fun s : Int => jEv xs d (321, 2, [(2, Int.ofNat o0), (0, v1), (0, s)], []) (T, h) y) (K := yk_M_isDamaged_L2 T xs d y h o0 v1) (fun s out H HY => t_M_isDamaged_B2 hd ho0 H HY) (fun s' hg => hg) (s := (v2)) H HY
set_option maxRecDepth 20000 in
noncomputable def M_isDamaged  (h : jH) (o0 : Nat) (v1 : Int) : Option Int := M_isDamaged_L2 h o0 v1 0
set_option maxRecDepth 20000 in
theorem t_M_isDamaged {T : jT} {xs : List Int} {h : jH}  {o0 : Nat} {v1 : Int} {out : Int} (ho0 : isX12 T o0) (H : M_isDamaged h o0 v1 = some out) : jEm xs 5 321 [(2, Int.ofNat o0), (0, v1)] (T, h) ((0, out), (T, h)) := by
  have hd : 4 ≤ 4 := Nat.le_refl _
  obtain ⟨y, ey⟩ : ∃ y : jV × jS, y = ((0, out), (T, h)) := ⟨_, rfl⟩
  rw [← ey]
  have HY : ykIp T h y out := ey
  refine jEm.ent (n := 3) (by decide +kernel) (Nat.le_of_ble_eq_true rfl) ?_
  show jEv xs 4 (321, 0, [(2, Int.ofNat o0), (0, v1), (3, 0)], []) (T, h) y
  unfold M_isDamaged at H
  refine jEv.blk [(.iconst 0, 1, []), (.istore_n 2, 1, [])] (by decide +kernel) (pc' := 2) (ls' := [(2, Int.ofNat o0), (0, v1), (0, 0)]) (st' := []) rfl ?_
  exact t_M_isDamaged_L2 (T := T) (xs := xs) (y := y) hd ho0 H HY
