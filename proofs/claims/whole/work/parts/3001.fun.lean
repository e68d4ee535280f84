/-! methods as functions -/
set_option maxRecDepth 20000 in
noncomputable def M_isAllowed_p63  (h : jH)  : Option Int := some 1
set_option maxRecDepth 20000 in
theorem t_M_isAllowed_p63 {T : jT} {xs : List Int} {d : Nat} {y : jV × jS} (hd : 0 ≤ d) {h : jH}   {out : Int}  (H : M_isAllowed_p63 h = some out) (HY : ykIp T h y out) : jEv xs d (227, 63, [(3, 0), (3, 0)], []) (T, h) y := by
  unfold M_isAllowed_p63 at H
  refine jEv.blk [(.iconst 1, 1, [])] (by decide +kernel) (pc' := 64) (ls' := [(3, 0), (3, 0)]) (st' := [(0, 1)]) rfl ?_
  refine jEv.goto (t := 68) (show jfI 227 64 (.goto 4) 3 [] = true by decide +kernel) rfl ?_
  exact jEv.retZ (show jfI 227 68 (.ireturn) 1 [] = true by decide +kernel) (by decide +kernel) (by decide) (by cases H; exact HY)
set_option maxRecDepth 20000 in
noncomputable def M_isAllowed  (h : jH) (o0 : Nat) (v1 : Int) : Option Int := (if (h o0 44) = 0 then (if v1 < 5 then some 1 else some 0) else (if (h o0 44) = 1 then (if v1 < 3 then some 1 else some 0) else (if v1 = 0 then M_isAllowed_p63 h else (if 4 < v1 then M_isAllowed_p63 h else some 0))))
set_option maxRecDepth 20000 in
theorem t_M_isAllowed {T : jT} {xs : List Int} {h : jH}  {o0 : Nat} {v1 : Int} {out : Int} (ho0 : isX12 T o0) (H : M_isAllowed h o0 v1 = some out) : jEm xs 1 227 [(2, Int.ofNat o0), (0, v1)] (T, h) ((0, out), (T, h)) := by
  have hd : 0 ≤ 0 := Nat.le_refl _
  obtain ⟨y, ey⟩ : ∃ y : jV × jS, y = ((0, out), (T, h)) := ⟨_, rfl⟩
  rw [← ey]
  have HY : ykIp T h y out := ey
  refine jEm.ent (n := 2) (by decide +kernel) (Nat.le_of_ble_eq_true rfl) ?_
  show jEv xs 0 (227, 0, [(2, Int.ofNat o0), (0, v1)], []) (T, h) y
  unfold M_isAllowed at H
  refine jEv.blk [(.aload_n 0, 1, [])] (by decide +kernel) (pc' := 1) (ls' := [(2, Int.ofNat o0), (0, v1)]) (st' := [(2, Int.ofNat o0)]) rfl ?_
  refine jEv.gfI (show jfI 227 1 (.getfield 279) 3 [12, 44, 0, 0, 7080] = true by decide +kernel) (isX12_L ho0) (by decide) ?_
  refine jite H (fun c1 H => ?_) (fun c1 H => ?_)
  · refine jEv.lsw (off := 28) (t := 32) (show jfI 227 4 (.lookupswitch 50 #[(0, 28), (1, 39)]) 28 [] = true by decide +kernel) (by rw [c1]; rfl) rfl (by decide) ?_
    refine jEv.blk [(.iload_n 1, 1, []), (.iconst 5, 1, [])] (by decide +kernel) (pc' := 34) (ls' := [(2, Int.ofNat o0), (0, v1)]) (st' := [(0, 5), (0, v1)]) rfl ?_
    refine jEv.ic_ge (t := 41) (show jfI 227 34 (.if_icmp .ge 7) 3 [] = true by decide +kernel) rfl H (fun c2 H => ?_) (fun c2 H => ?_)
    · refine jEv.blk [(.iconst 1, 1, [])] (by decide +kernel) (pc' := 38) (ls' := [(2, Int.ofNat o0), (0, v1)]) (st' := [(0, 1)]) rfl ?_
      refine jEv.goto (t := 42) (show jfI 227 38 (.goto 4) 3 [] = true by decide +kernel) rfl ?_
      exact jEv.retZ (show jfI 227 42 (.ireturn) 1 [] = true by decide +kernel) (by decide +kernel) (by decide) (by cases H; exact HY)
    · refine jEv.blk [(.iconst 0, 1, [])] (by decide +kernel) (pc' := 42) (ls' := [(2, Int.ofNat o0), (0, v1)]) (st' := [(0, 0)]) rfl ?_
      exact jEv.retZ (show jfI 227 42 (.ireturn) 1 [] = true by decide +kernel) (by decide +kernel) (by decide) (by cases H; exact HY)
  · refine jite H (fun c3 H => ?_) (fun c3 H => ?_)
    · refine jEv.lsw (off := 39) (t := 43) (show jfI 227 4 (.lookupswitch 50 #[(0, 28), (1, 39)]) 28 [] = true by decide +kernel) (by rw [c3]; rfl) rfl (by decide) ?_
      refine jEv.blk [(.iload_n 1, 1, []), (.iconst 3, 1, [])] (by decide +kernel) (pc' := 45) (ls' := [(2, Int.ofNat o0), (0, v1)]) (st' := [(0, 3), (0, v1)]) rfl ?_
      refine jEv.ic_ge (t := 52) (show jfI 227 45 (.if_icmp .ge 7) 3 [] = true by decide +kernel) rfl H (fun c4 H => ?_) (fun c4 H => ?_)
      · refine jEv.blk [(.iconst 1, 1, [])] (by decide +kernel) (pc' := 49) (ls' := [(2, Int.ofNat o0), (0, v1)]) (st' := [(0, 1)]) rfl ?_
        refine jEv.goto (t := 53) (show jfI 227 49 (.goto 4) 3 [] = true by decide +kernel) rfl ?_
        exact jEv.retZ (show jfI 227 53 (.ireturn) 1 [] = true by decide +kernel) (by decide +kernel) (by decide) (by cases H; exact HY)
      · refine jEv.blk [(.iconst 0, 1, [])] (by decide +kernel) (pc' := 53) (ls' := [(2, Int.ofNat o0), (0, v1)]) (st' := [(0, 0)]) rfl ?_
        exact jEv.retZ (show jfI 227 53 (.ireturn) 1 [] = true by decide +kernel) (by decide +kernel) (by decide) (by cases H; exact HY)
    · refine jEv.lsw (off := 50) (t := 54) (show jfI 227 4 (.lookupswitch 50 #[(0, 28), (1, 39)]) 28 [] = true by decide +kernel) (by simp [Op.lookupswitch.offset, (Ne.symm c1 : _ ≠ _), (Ne.symm c3 : _ ≠ _)]) rfl (by decide) ?_
      refine jEv.blk [(.iload_n 1, 1, [])] (by decide +kernel) (pc' := 55) (ls' := [(2, Int.ofNat o0), (0, v1)]) (st' := [(0, v1)]) rfl ?_
      refine jEv.if_eq (t := 63) (show jfI 227 55 (.ifCond .eq 8) 3 [] = true by decide +kernel) rfl H (fun c5 H => ?_) (fun c5 H => ?_)
      · exact jEv.weak (a := [(3, 0), (3, 0)]) (jles.c0 (jles.c0 jles.nl)) (t_M_isAllowed_p63 (T := T) (xs := xs) (y := y) hd H HY)
      · refine jEv.blk [(.iload_n 1, 1, []), (.iconst 4, 1, [])] (by decide +kernel) (pc' := 60) (ls' := [(2, Int.ofNat o0), (0, v1)]) (st' := [(0, 4), (0, v1)]) rfl ?_
        refine jEv.ic_le (t := 67) (show jfI 227 60 (.if_icmp .le 7) 3 [] = true by decide +kernel) rfl H (fun c6 H => ?_) (fun c6 H => ?_)
        · exact jEv.weak (a := [(3, 0), (3, 0)]) (jles.c0 (jles.c0 jles.nl)) (t_M_isAllowed_p63 (T := T) (xs := xs) (y := y) hd H HY)
        · refine jEv.blk [(.iconst 0, 1, [])] (by decide +kernel) (pc' := 68) (ls' := [(2, Int.ofNat o0), (0, v1)]) (st' := [(0, 0)]) rfl ?_
          exact jEv.retZ (show jfI 227 68 (.ireturn) 1 [] = true by decide +kernel) (by decide +kernel) (by decide) (by cases H; exact HY)
set_option maxRecDepth 20000 in
noncomputable def M_qWordOf_p27  (h : jH)  : Option (Int × jH) := some ((-1), h)
set_option maxRecDepth 20000 in
theorem t_M_qWordOf_p27 {T : jT} {xs : List Int} {d : Nat} {y : jV × jS} (hd : 3 ≤ d) {h : jH}   {out : (Int × jH)}  (H : M_qWordOf_p27 h = some out) (HY : ykI T y out) : jEv xs d (225, 27, [(3, 0), (3, 0), (3, 0), (3, 0)], []) (T, h) y := by
  unfold M_qWordOf_p27 at H
  refine jEv.blk [(.iconst (-1), 1, [])] (by decide +kernel) (pc' := 28) (ls' := [(3, 0), (3, 0), (3, 0), (3, 0)]) (st' := [(0, (-1))]) rfl ?_
  exact jEv.retI (show jfI 225 28 (.ireturn) 1 [] = true by decide +kernel) (by decide +kernel) (by cases H; exact HY)
set_option maxRecDepth 20000 in
noncomputable def M_qWordOf  (h : jH) (o0 : Nat) (v1 : Int) (v2 : Int) : Option (Int × jH) := Option.bind (M_qWordHere h o0) (fun b1 => (if b1.1 < v1 then M_qWordOf_p27 b1.2 else (if b1.1 < v2 then Option.bind (M_isAllowed b1.2 o0 b1.1) (fun b4 => (if b4 = 0 then M_qWordOf_p27 b1.2 else some (b1.1, b1.2))) else M_qWordOf_p27 b1.2)))
set_option maxRecDepth 20000 in
theorem t_M_qWordOf {T : jT} {xs : List Int} {h : jH}  {o0 : Nat} {v1 : Int} {v2 : Int} {out : (Int × jH)} (ho0 : isX12 T o0) (H : M_qWordOf h o0 v1 v2 = some out) : jEm xs 4 225 [(2, Int.ofNat o0), (0, v1), (0, v2)] (T, h) ((0, out.1), (T, out.2)) := by
  have hd : 3 ≤ 3 := Nat.le_refl _
  obtain ⟨y, ey⟩ : ∃ y : jV × jS, y = ((0, out.1), (T, out.2)) := ⟨_, rfl⟩
  rw [← ey]
  have HY : ykI T y out := ey
  refine jEm.ent (n := 4) (by decide +kernel) (Nat.le_of_ble_eq_true rfl) ?_
  show jEv xs 3 (225, 0, [(2, Int.ofNat o0), (0, v1), (0, v2), (3, 0)], []) (T, h) y
  unfold M_qWordOf at H
  refine jEv.blk [(.aload_n 0, 1, [])] (by decide +kernel) (pc' := 1) (ls' := [(2, Int.ofNat o0), (0, v1), (0, v2), (3, 0)]) (st' := [(2, Int.ofNat o0)]) rfl ?_
  refine jbind H (fun b1 Hb1 H => ?_)
  refine jEv.calV (st' := [(0, b1.1)]) (show jfI 225 1 (.invokevirtual 665) 3 [1, 226, 0, 8227] = true by decide +kernel) rfl (Or.inl rfl) rfl (Nat.le_of_ble_eq_true rfl) (by decide +kernel) (by decide) (isX12_L ho0) ((t_M_qWordHere (T := T) (xs := xs) ho0 Hb1).mono (jKle 3 hd)) rfl ?_
  refine jEv.blk [(.istore_n 3, 1, []), (.iload_n 3, 1, []), (.iload_n 1, 1, [])] (by decide +kernel) (pc' := 7) (ls' := [(2, Int.ofNat o0), (0, v1), (0, v2), (0, b1.1)]) (st' := [(0, v1), (0, b1.1)]) rfl ?_
  refine jEv.ic_lt (t := 27) (show jfI 225 7 (.if_icmp .lt 20) 3 [] = true by decide +kernel) rfl H (fun c2 H => ?_) (fun c2 H => ?_)
  · exact jEv.weak (a := [(3, 0), (3, 0), (3, 0), (3, 0)]) (jles.c0 (jles.c0 (jles.c0 (jles.c0 jles.nl)))) (t_M_qWordOf_p27 (T := T) (xs := xs) (y := y) hd H HY)
  · refine jEv.blk [(.iload_n 3, 1, []), (.iload_n 2, 1, [])] (by decide +kernel) (pc' := 12) (ls' := [(2, Int.ofNat o0), (0, v1), (0, v2), (0, b1.1)]) (st' := [(0, v2), (0, b1.1)]) rfl ?_
    refine jEv.ic_ge (t := 27) (show jfI 225 12 (.if_icmp .ge 15) 3 [] = true by decide +kernel) rfl H (fun c3 H => ?_) (fun c3 H => ?_)
    · refine jEv.blk [(.aload_n 0, 1, []), (.iload_n 3, 1, [])] (by decide +kernel) (pc' := 17) (ls' := [(2, Int.ofNat o0), (0, v1), (0, v2), (0, b1.1)]) (st' := [(0, b1.1), (2, Int.ofNat o0)]) rfl ?_
      refine jbind H (fun b4 Hb4 H => ?_)
      refine jEv.calV (st' := [(0, b4)]) (show jfI 225 17 (.invokevirtual 668) 3 [1, 227, 1, 8231] = true by decide +kernel) rfl (Or.inl rfl) rfl (Nat.le_of_ble_eq_true rfl) (by decide +kernel) (by decide) (isX12_L ho0) ((t_M_isAllowed (T := T) (xs := xs) ho0 Hb4).mono (jKle 1 hd)) rfl ?_
      refine jEv.if_eq (t := 27) (show jfI 225 20 (.ifCond .eq 7) 3 [] = true by decide +kernel) rfl H (fun c5 H => ?_) (fun c5 H => ?_)
      · exact jEv.weak (a := [(3, 0), (3, 0), (3, 0), (3, 0)]) (jles.c0 (jles.c0 (jles.c0 (jles.c0 jles.nl)))) (t_M_qWordOf_p27 (T := T) (xs := xs) (y := y) hd H HY)
      · refine jEv.blk [(.iload_n 3, 1, [])] (by decide +kernel) (pc' := 24) (ls' := [(2, Int.ofNat o0), (0, v1), (0, v2), (0, b1.1)]) (st' := [(0, b1.1)]) rfl ?_
        refine jEv.goto (t := 28) (show jfI 225 24 (.goto 4) 3 [] = true by decide +kernel) rfl ?_
        exact jEv.retI (show jfI 225 28 (.ireturn) 1 [] = true by decide +kernel) (by decide +kernel) (by cases H; exact HY)
    · exact jEv.weak (a := [(3, 0), (3, 0), (3, 0), (3, 0)]) (jles.c0 (jles.c0 (jles.c0 (jles.c0 jles.nl)))) (t_M_qWordOf_p27 (T := T) (xs := xs) (y := y) hd H HY)
set_option maxRecDepth 20000 in
noncomputable def M_qAsksWord  (h : jH) (o0 : Nat) (v1 : Int) : Option jH := (if v1 = 0 then Option.bind (M_asks h o0 (o0 + 55) 4) (fun b2 => some b2) else (if v1 = 1 then Option.bind (M_asks h o0 (o0 + 56) 7) (fun b4 => some b4) else (if v1 = 2 then Option.bind (M_asks h o0 (o0 + 57) 7) (fun b6 => some b6) else (if v1 = 3 then Option.bind (M_asks h o0 (o0 + 58) 3) (fun b8 => some b8) else (if v1 = 4 then Option.bind (M_asks h o0 (o0 + 59) 7) (fun b10 => some b10) else (if v1 = 5 then Option.bind (M_asks h o0 (o0 + 60) 6) (fun b12 => some b12) else (if v1 = 6 then Option.bind (M_asks h o0 (o0 + 61) 6) (fun b14 => some b14) else (if v1 = 7 then Option.bind (M_asks h o0 (o0 + 43) 5) (fun b16 => some b16) else (if v1 = 8 then Option.bind (M_asks h o0 (o0 + 62) 6) (fun b18 => some b18) else (if v1 = 9 then Option.bind (M_asks h o0 (o0 + 63) 5) (fun b20 => some b20) else Option.bind (M_asks h o0 (o0 + 64) 5) (fun b21 => some b21)))))))))))
set_option maxRecDepth 20000 in
theorem t_M_qAsksWord {T : jT} {xs : List Int} {h : jH}  {o0 : Nat} {v1 : Int} {out : jH} (ho0 : isX12 T o0) (H : M_qAsksWord h o0 v1 = some out) : jEm xs 5 228 [(2, Int.ofNat o0), (0, v1)] (T, h) ((3, 0), (T, out)) := by
  have hd : 4 ≤ 4 := Nat.le_refl _
  obtain ⟨y, ey⟩ : ∃ y : jV × jS, y = ((3, 0), (T, out)) := ⟨_, rfl⟩
  rw [← ey]
  have HY : ykV T y out := ey
  refine jEm.ent (n := 2) (by decide +kernel) (Nat.le_of_ble_eq_true rfl) ?_
  show jEv xs 4 (228, 0, [(2, Int.ofNat o0), (0, v1)], []) (T, h) y
  unfold M_qAsksWord at H
  refine jEv.blk [(.iload_n 1, 1, [])] (by decide +kernel) (pc' := 1) (ls' := [(2, Int.ofNat o0), (0, v1)]) (st' := [(0, v1)]) rfl ?_
  refine jite H (fun c1 H => ?_) (fun c1 H => ?_)
  · refine jEv.tsI (v := 0) (off := 55) (t := 56) (show jfI 228 1 (.tableswitch 165 0 9 #[55, 66, 77, 88, 99, 110, 121, 132, 143, 154]) 55 [] = true by decide +kernel) c1 (by decide) (by decide) rfl (by decide) ?_
    refine jEv.blk [(.aload_n 0, 1, []), (.aload_n 0, 1, [])] (by decide +kernel) (pc' := 58) (ls' := [(2, Int.ofNat o0), (0, v1)]) (st' := [(2, Int.ofNat o0), (2, Int.ofNat o0)]) rfl ?_
    refine jEv.gfR (o' := (o0 + 55)) (show jfI 228 58 (.getfield 186) 3 [12, 88, 5, 0, 7124] = true by decide +kernel) (isX12_L ho0) (by decide) (isX12_r88 ho0) ?_
    refine jbind H (fun b2 Hb2 H => ?_)
    refine jEv.calV (st' := []) (show jfI 228 61 (.invokevirtual 282) 3 [1, 205, 1, 8146] = true by decide +kernel) rfl (Or.inl rfl) rfl (Nat.le_of_ble_eq_true rfl) (by decide +kernel) (by decide) (isX12_L ho0) ((t_M_asks (T := T) (xs := xs) ho0 (isX12_a88 ho0) Hb2).mono (jKle 4 hd)) rfl ?_
    refine jEv.goto (t := 174) (show jfI 228 64 (.goto 110) 3 [] = true by decide +kernel) rfl ?_
    exact jEv.retV (show jfI 228 174 (.return_) 1 [] = true by decide +kernel) (by decide +kernel) (by cases H; exact HY)
  · refine jite H (fun c3 H => ?_) (fun c3 H => ?_)
    · refine jEv.tsI (v := 1) (off := 66) (t := 67) (show jfI 228 1 (.tableswitch 165 0 9 #[55, 66, 77, 88, 99, 110, 121, 132, 143, 154]) 55 [] = true by decide +kernel) c3 (by decide) (by decide) rfl (by decide) ?_
      refine jEv.blk [(.aload_n 0, 1, []), (.aload_n 0, 1, [])] (by decide +kernel) (pc' := 69) (ls' := [(2, Int.ofNat o0), (0, v1)]) (st' := [(2, Int.ofNat o0), (2, Int.ofNat o0)]) rfl ?_
      refine jEv.gfR (o' := (o0 + 56)) (show jfI 228 69 (.getfield 189) 3 [12, 89, 5, 0, 7125] = true by decide +kernel) (isX12_L ho0) (by decide) (isX12_r89 ho0) ?_
      refine jbind H (fun b4 Hb4 H => ?_)
      refine jEv.calV (st' := []) (show jfI 228 72 (.invokevirtual 282) 3 [1, 205, 1, 8146] = true by decide +kernel) rfl (Or.inl rfl) rfl (Nat.le_of_ble_eq_true rfl) (by decide +kernel) (by decide) (isX12_L ho0) ((t_M_asks (T := T) (xs := xs) ho0 (isX12_a89 ho0) Hb4).mono (jKle 4 hd)) rfl ?_
      refine jEv.goto (t := 174) (show jfI 228 75 (.goto 99) 3 [] = true by decide +kernel) rfl ?_
      exact jEv.retV (show jfI 228 174 (.return_) 1 [] = true by decide +kernel) (by decide +kernel) (by cases H; exact HY)
    · refine jite H (fun c5 H => ?_) (fun c5 H => ?_)
      · refine jEv.tsI (v := 2) (off := 77) (t := 78) (show jfI 228 1 (.tableswitch 165 0 9 #[55, 66, 77, 88, 99, 110, 121, 132, 143, 154]) 55 [] = true by decide +kernel) c5 (by decide) (by decide) rfl (by decide) ?_
        refine jEv.blk [(.aload_n 0, 1, []), (.aload_n 0, 1, [])] (by decide +kernel) (pc' := 80) (ls' := [(2, Int.ofNat o0), (0, v1)]) (st' := [(2, Int.ofNat o0), (2, Int.ofNat o0)]) rfl ?_
        refine jEv.gfR (o' := (o0 + 57)) (show jfI 228 80 (.getfield 192) 3 [12, 90, 5, 0, 7126] = true by decide +kernel) (isX12_L ho0) (by decide) (isX12_r90 ho0) ?_
        refine jbind H (fun b6 Hb6 H => ?_)
        refine jEv.calV (st' := []) (show jfI 228 83 (.invokevirtual 282) 3 [1, 205, 1, 8146] = true by decide +kernel) rfl (Or.inl rfl) rfl (Nat.le_of_ble_eq_true rfl) (by decide +kernel) (by decide) (isX12_L ho0) ((t_M_asks (T := T) (xs := xs) ho0 (isX12_a90 ho0) Hb6).mono (jKle 4 hd)) rfl ?_
        refine jEv.goto (t := 174) (show jfI 228 86 (.goto 88) 3 [] = true by decide +kernel) rfl ?_
        exact jEv.retV (show jfI 228 174 (.return_) 1 [] = true by decide +kernel) (by decide +kernel) (by cases H; exact HY)
      · refine jite H (fun c7 H => ?_) (fun c7 H => ?_)
        · refine jEv.tsI (v := 3) (off := 88) (t := 89) (show jfI 228 1 (.tableswitch 165 0 9 #[55, 66, 77, 88, 99, 110, 121, 132, 143, 154]) 55 [] = true by decide +kernel) c7 (by decide) (by decide) rfl (by decide) ?_
          refine jEv.blk [(.aload_n 0, 1, []), (.aload_n 0, 1, [])] (by decide +kernel) (pc' := 91) (ls' := [(2, Int.ofNat o0), (0, v1)]) (st' := [(2, Int.ofNat o0), (2, Int.ofNat o0)]) rfl ?_
          refine jEv.gfR (o' := (o0 + 58)) (show jfI 228 91 (.getfield 195) 3 [12, 91, 5, 0, 7127] = true by decide +kernel) (isX12_L ho0) (by decide) (isX12_r91 ho0) ?_
          refine jbind H (fun b8 Hb8 H => ?_)
          refine jEv.calV (st' := []) (show jfI 228 94 (.invokevirtual 282) 3 [1, 205, 1, 8146] = true by decide +kernel) rfl (Or.inl rfl) rfl (Nat.le_of_ble_eq_true rfl) (by decide +kernel) (by decide) (isX12_L ho0) ((t_M_asks (T := T) (xs := xs) ho0 (isX12_a91 ho0) Hb8).mono (jKle 4 hd)) rfl ?_
          refine jEv.goto (t := 174) (show jfI 228 97 (.goto 77) 3 [] = true by decide +kernel) rfl ?_
          exact jEv.retV (show jfI 228 174 (.return_) 1 [] = true by decide +kernel) (by decide +kernel) (by cases H; exact HY)
        · refine jite H (fun c9 H => ?_) (fun c9 H => ?_)
          · refine jEv.tsI (v := 4) (off := 99) (t := 100) (show jfI 228 1 (.tableswitch 165 0 9 #[55, 66, 77, 88, 99, 110, 121, 132, 143, 154]) 55 [] = true by decide +kernel) c9 (by decide) (by decide) rfl (by decide) ?_
            refine jEv.blk [(.aload_n 0, 1, []), (.aload_n 0, 1, [])] (by decide +kernel) (pc' := 102) (ls' := [(2, Int.ofNat o0), (0, v1)]) (st' := [(2, Int.ofNat o0), (2, Int.ofNat o0)]) rfl ?_
            refine jEv.gfR (o' := (o0 + 59)) (show jfI 228 102 (.getfield 198) 3 [12, 92, 5, 0, 7128] = true by decide +kernel) (isX12_L ho0) (by decide) (isX12_r92 ho0) ?_
            refine jbind H (fun b10 Hb10 H => ?_)
            refine jEv.calV (st' := []) (show jfI 228 105 (.invokevirtual 282) 3 [1, 205, 1, 8146] = true by decide +kernel) rfl (Or.inl rfl) rfl (Nat.le_of_ble_eq_true rfl) (by decide +kernel) (by decide) (isX12_L ho0) ((t_M_asks (T := T) (xs := xs) ho0 (isX12_a92 ho0) Hb10).mono (jKle 4 hd)) rfl ?_
            refine jEv.goto (t := 174) (show jfI 228 108 (.goto 66) 3 [] = true by decide +kernel) rfl ?_
            exact jEv.retV (show jfI 228 174 (.return_) 1 [] = true by decide +kernel) (by decide +kernel) (by cases H; exact HY)
          · refine jite H (fun c11 H => ?_) (fun c11 H => ?_)
            · refine jEv.tsI (v := 5) (off := 110) (t := 111) (show jfI 228 1 (.tableswitch 165 0 9 #[55, 66, 77, 88, 99, 110, 121, 132, 143, 154]) 55 [] = true by decide +kernel) c11 (by decide) (by decide) rfl (by decide) ?_
              refine jEv.blk [(.aload_n 0, 1, []), (.aload_n 0, 1, [])] (by decide +kernel) (pc' := 113) (ls' := [(2, Int.ofNat o0), (0, v1)]) (st' := [(2, Int.ofNat o0), (2, Int.ofNat o0)]) rfl ?_
              refine jEv.gfR (o' := (o0 + 60)) (show jfI 228 113 (.getfield 201) 3 [12, 93, 5, 0, 7129] = true by decide +kernel) (isX12_L ho0) (by decide) (isX12_r93 ho0) ?_
              refine jbind H (fun b12 Hb12 H => ?_)
              refine jEv.calV (st' := []) (show jfI 228 116 (.invokevirtual 282) 3 [1, 205, 1, 8146] = true by decide +kernel) rfl (Or.inl rfl) rfl (Nat.le_of_ble_eq_true rfl) (by decide +kernel) (by decide) (isX12_L ho0) ((t_M_asks (T := T) (xs := xs) ho0 (isX12_a93 ho0) Hb12).mono (jKle 4 hd)) rfl ?_
              refine jEv.goto (t := 174) (show jfI 228 119 (.goto 55) 3 [] = true by decide +kernel) rfl ?_
              exact jEv.retV (show jfI 228 174 (.return_) 1 [] = true by decide +kernel) (by decide +kernel) (by cases H; exact HY)
            · refine jite H (fun c13 H => ?_) (fun c13 H => ?_)
              · refine jEv.tsI (v := 6) (off := 121) (t := 122) (show jfI 228 1 (.tableswitch 165 0 9 #[55, 66, 77, 88, 99, 110, 121, 132, 143, 154]) 55 [] = true by decide +kernel) c13 (by decide) (by decide) rfl (by decide) ?_
                refine jEv.blk [(.aload_n 0, 1, []), (.aload_n 0, 1, [])] (by decide +kernel) (pc' := 124) (ls' := [(2, Int.ofNat o0), (0, v1)]) (st' := [(2, Int.ofNat o0), (2, Int.ofNat o0)]) rfl ?_
                refine jEv.gfR (o' := (o0 + 61)) (show jfI 228 124 (.getfield 204) 3 [12, 94, 5, 0, 7130] = true by decide +kernel) (isX12_L ho0) (by decide) (isX12_r94 ho0) ?_
                refine jbind H (fun b14 Hb14 H => ?_)
                refine jEv.calV (st' := []) (show jfI 228 127 (.invokevirtual 282) 3 [1, 205, 1, 8146] = true by decide +kernel) rfl (Or.inl rfl) rfl (Nat.le_of_ble_eq_true rfl) (by decide +kernel) (by decide) (isX12_L ho0) ((t_M_asks (T := T) (xs := xs) ho0 (isX12_a94 ho0) Hb14).mono (jKle 4 hd)) rfl ?_
                refine jEv.goto (t := 174) (show jfI 228 130 (.goto 44) 3 [] = true by decide +kernel) rfl ?_
                exact jEv.retV (show jfI 228 174 (.return_) 1 [] = true by decide +kernel) (by decide +kernel) (by cases H; exact HY)
              · refine jite H (fun c15 H => ?_) (fun c15 H => ?_)
                · refine jEv.tsI (v := 7) (off := 132) (t := 133) (show jfI 228 1 (.tableswitch 165 0 9 #[55, 66, 77, 88, 99, 110, 121, 132, 143, 154]) 55 [] = true by decide +kernel) c15 (by decide) (by decide) rfl (by decide) ?_
                  refine jEv.blk [(.aload_n 0, 1, []), (.aload_n 0, 1, [])] (by decide +kernel) (pc' := 135) (ls' := [(2, Int.ofNat o0), (0, v1)]) (st' := [(2, Int.ofNat o0), (2, Int.ofNat o0)]) rfl ?_
                  refine jEv.gfR (o' := (o0 + 43)) (show jfI 228 135 (.getfield 150) 3 [12, 76, 5, 0, 7112] = true by decide +kernel) (isX12_L ho0) (by decide) (isX12_r76 ho0) ?_
                  refine jbind H (fun b16 Hb16 H => ?_)
                  refine jEv.calV (st' := []) (show jfI 228 138 (.invokevirtual 282) 3 [1, 205, 1, 8146] = true by decide +kernel) rfl (Or.inl rfl) rfl (Nat.le_of_ble_eq_true rfl) (by decide +kernel) (by decide) (isX12_L ho0) ((t_M_asks (T := T) (xs := xs) ho0 (isX12_a76 ho0) Hb16).mono (jKle 4 hd)) rfl ?_
                  refine jEv.goto (t := 174) (show jfI 228 141 (.goto 33) 3 [] = true by decide +kernel) rfl ?_
                  exact jEv.retV (show jfI 228 174 (.return_) 1 [] = true by decide +kernel) (by decide +kernel) (by cases H; exact HY)
                · refine jite H (fun c17 H => ?_) (fun c17 H => ?_)
                  · refine jEv.tsI (v := 8) (off := 143) (t := 144) (show jfI 228 1 (.tableswitch 165 0 9 #[55, 66, 77, 88, 99, 110, 121, 132, 143, 154]) 55 [] = true by decide +kernel) c17 (by decide) (by decide) rfl (by decide) ?_
                    refine jEv.blk [(.aload_n 0, 1, []), (.aload_n 0, 1, [])] (by decide +kernel) (pc' := 146) (ls' := [(2, Int.ofNat o0), (0, v1)]) (st' := [(2, Int.ofNat o0), (2, Int.ofNat o0)]) rfl ?_
                    refine jEv.gfR (o' := (o0 + 62)) (show jfI 228 146 (.getfield 207) 3 [12, 95, 5, 0, 7131] = true by decide +kernel) (isX12_L ho0) (by decide) (isX12_r95 ho0) ?_
                    refine jbind H (fun b18 Hb18 H => ?_)
                    refine jEv.calV (st' := []) (show jfI 228 149 (.invokevirtual 282) 3 [1, 205, 1, 8146] = true by decide +kernel) rfl (Or.inl rfl) rfl (Nat.le_of_ble_eq_true rfl) (by decide +kernel) (by decide) (isX12_L ho0) ((t_M_asks (T := T) (xs := xs) ho0 (isX12_a95 ho0) Hb18).mono (jKle 4 hd)) rfl ?_
                    refine jEv.goto (t := 174) (show jfI 228 152 (.goto 22) 3 [] = true by decide +kernel) rfl ?_
                    exact jEv.retV (show jfI 228 174 (.return_) 1 [] = true by decide +kernel) (by decide +kernel) (by cases H; exact HY)
                  · refine jite H (fun c19 H => ?_) (fun c19 H => ?_)
                    · refine jEv.tsI (v := 9) (off := 154) (t := 155) (show jfI 228 1 (.tableswitch 165 0 9 #[55, 66, 77, 88, 99, 110, 121, 132, 143, 154]) 55 [] = true by decide +kernel) c19 (by decide) (by decide) rfl (by decide) ?_
                      refine jEv.blk [(.aload_n 0, 1, []), (.aload_n 0, 1, [])] (by decide +kernel) (pc' := 157) (ls' := [(2, Int.ofNat o0), (0, v1)]) (st' := [(2, Int.ofNat o0), (2, Int.ofNat o0)]) rfl ?_
                      refine jEv.gfR (o' := (o0 + 63)) (show jfI 228 157 (.getfield 210) 3 [12, 96, 5, 0, 7132] = true by decide +kernel) (isX12_L ho0) (by decide) (isX12_r96 ho0) ?_
                      refine jbind H (fun b20 Hb20 H => ?_)
                      refine jEv.calV (st' := []) (show jfI 228 160 (.invokevirtual 282) 3 [1, 205, 1, 8146] = true by decide +kernel) rfl (Or.inl rfl) rfl (Nat.le_of_ble_eq_true rfl) (by decide +kernel) (by decide) (isX12_L ho0) ((t_M_asks (T := T) (xs := xs) ho0 (isX12_a96 ho0) Hb20).mono (jKle 4 hd)) rfl ?_
                      refine jEv.goto (t := 174) (show jfI 228 163 (.goto 11) 3 [] = true by decide +kernel) rfl ?_
                      exact jEv.retV (show jfI 228 174 (.return_) 1 [] = true by decide +kernel) (by decide +kernel) (by cases H; exact HY)
                    · refine jEv.tsO (t := 166) (show jfI 228 1 (.tableswitch 165 0 9 #[55, 66, 77, 88, 99, 110, 121, 132, 143, 154]) 55 [] = true by decide +kernel) (by omega) rfl (by decide) ?_
                      refine jEv.blk [(.aload_n 0, 1, []), (.aload_n 0, 1, [])] (by decide +kernel) (pc' := 168) (ls' := [(2, Int.ofNat o0), (0, v1)]) (st' := [(2, Int.ofNat o0), (2, Int.ofNat o0)]) rfl ?_
                      refine jEv.gfR (o' := (o0 + 64)) (show jfI 228 168 (.getfield 213) 3 [12, 97, 5, 0, 7133] = true by decide +kernel) (isX12_L ho0) (by decide) (isX12_r97 ho0) ?_
                      refine jbind H (fun b21 Hb21 H => ?_)
                      refine jEv.calV (st' := []) (show jfI 228 171 (.invokevirtual 282) 3 [1, 205, 1, 8146] = true by decide +kernel) rfl (Or.inl rfl) rfl (Nat.le_of_ble_eq_true rfl) (by decide +kernel) (by decide) (isX12_L ho0) ((t_M_asks (T := T) (xs := xs) ho0 (isX12_a97 ho0) Hb21).mono (jKle 4 hd)) rfl ?_
                      exact jEv.retV (show jfI 228 174 (.return_) 1 [] = true by decide +kernel) (by decide +kernel) (by cases H; exact HY)
set_option maxRecDepth 20000 in
noncomputable def M_qDrops  (h : jH) (o0 : Nat) : Option jH := (if (0 : Int) ≤ ((jup h o0 101 (wr ((h o0 101) - 1))) o0 101) ∧ (((jup h o0 101 (wr ((h o0 101) - 1))) o0 101) : Int).toNat < 1700 then Option.bind (M_qCode (jup h o0 101 (wr ((h o0 101) - 1))) o0 ((jup h o0 101 (wr ((h o0 101) - 1))) (o0 + 66) (((jup h o0 101 (wr ((h o0 101) - 1))) o0 101) : Int).toNat)) (fun b2 => some b2) else none)
set_option maxRecDepth 20000 in
theorem t_M_qDrops {T : jT} {xs : List Int} {h : jH}  {o0 : Nat} {out : jH} (ho0 : isX12 T o0) (H : M_qDrops h o0 = some out) : jEm xs 2 230 [(2, Int.ofNat o0)] (T, h) ((3, 0), (T, out)) := by
  have hd : 1 ≤ 1 := Nat.le_refl _
  obtain ⟨y, ey⟩ : ∃ y : jV × jS, y = ((3, 0), (T, out)) := ⟨_, rfl⟩
  rw [← ey]
  have HY : ykV T y out := ey
  refine jEm.ent (n := 1) (by decide +kernel) (Nat.le_of_ble_eq_true rfl) ?_
  show jEv xs 1 (230, 0, [(2, Int.ofNat o0)], []) (T, h) y
  unfold M_qDrops at H
  refine jEv.blk [(.aload_n 0, 1, []), (.dup, 1, [])] (by decide +kernel) (pc' := 2) (ls' := [(2, Int.ofNat o0)]) (st' := [(2, Int.ofNat o0), (2, Int.ofNat o0)]) rfl ?_
  refine jEv.gfI (show jfI 230 2 (.getfield 297) 3 [12, 101, 0, 0, 7137] = true by decide +kernel) (isX12_L ho0) (by decide) ?_
  refine jEv.blk [(.iconst 1, 1, []), (.isub, 1, [])] (by decide +kernel) (pc' := 7) (ls' := [(2, Int.ofNat o0)]) (st' := [(0, (wr ((h o0 101) - 1))), (2, Int.ofNat o0)]) rfl ?_
  refine jEv.pfI (show jfI 230 7 (.putfield 297) 3 [12, 101, 0, 0, 7137] = true by decide +kernel) (isX12_L ho0) (by decide) ?_
  refine jEv.blk [(.aload_n 0, 1, []), (.aload_n 0, 1, [])] (by decide +kernel) (pc' := 12) (ls' := [(2, Int.ofNat o0)]) (st' := [(2, Int.ofNat o0), (2, Int.ofNat o0)]) rfl ?_
  refine jEv.gfR (o' := (o0 + 66)) (show jfI 230 12 (.getfield 219) 3 [12, 100, 5, 0, 7136] = true by decide +kernel) (isX12_L ho0) (by decide) (isX12_r100 ho0) ?_
  refine jEv.blk [(.aload_n 0, 1, [])] (by decide +kernel) (pc' := 16) (ls' := [(2, Int.ofNat o0)]) (st' := [(2, Int.ofNat o0), (2, Int.ofNat (o0 + 66)), (2, Int.ofNat o0)]) rfl ?_
  refine jEv.gfI (show jfI 230 16 (.getfield 297) 3 [12, 101, 0, 0, 7137] = true by decide +kernel) (isX12_L ho0) (by decide) ?_
  refine jEv.ald (Or.inl ⟨rfl, rfl, rfl⟩) (show jfI 230 19 (.iaload) 1 [] = true by decide +kernel) (isX12_a100 ho0) H (fun c1 H => ?_)
  refine jbind H (fun b2 Hb2 H => ?_)
  refine jEv.calV (st' := []) (show jfI 230 20 (.invokevirtual 656) 3 [1, 222, 1, 8211] = true by decide +kernel) rfl (Or.inl rfl) rfl (Nat.le_of_ble_eq_true rfl) (by decide +kernel) (by decide) (isX12_L ho0) ((t_M_qCode (T := T) (xs := xs) ho0 Hb2).mono (jKle 1 hd)) rfl ?_
  exact jEv.retV (show jfI 230 23 (.return_) 1 [] = true by decide +kernel) (by decide +kernel) (by cases H; exact HY)
def yk_M_qEndsPart_L0 (T : jT) (xs : List Int) (d : Nat) (y : jV × jS)  (o0 : Nat) : (jH ⊕ jH) → Prop
  | .inl h => jEv xs d (229, 0, [(2, Int.ofNat o0)], []) (T, h) y
  | .inr o => ykV T y o
set_option maxRecDepth 20000 in
noncomputable def M_qEndsPart_B0  (h : jH) (o0 : Nat) : Option (jH ⊕ jH) := (if (h o0 5) = 0 then (if (h o0 103) < (h o0 101) then (if (0 : Int) ≤ (wr ((h o0 101) - 1)) ∧ ((wr ((h o0 101) - 1)) : Int).toNat < 1700 then (if (h (o0 + 66) ((wr ((h o0 101) - 1)) : Int).toNat) < 60 then Option.map Sum.inr (some h) else Option.bind (M_qDrops (jup h o0 102 (wr ((h o0 102) - 1))) o0) (fun b5 => some (.inl (b5)))) else none) else Option.map Sum.inr (some h)) else Option.map Sum.inr (some h))
noncomputable def M_qEndsPart_L0  (h : jH) (o0 : Nat) : Option jH := jloop (fun s : jH => M_qEndsPart_B0 s o0) (h)
set_option maxRecDepth 20000 in
theorem t_M_qEndsPart_B0 {T : jT} {xs : List Int} {d : Nat} {y : jV × jS} (hd : 2 ≤ d) {h : jH}  {o0 : Nat} {out : (jH ⊕ jH)} (ho0 : isX12 T o0) (H : M_qEndsPart_B0 h o0 = some out) (HY : yk_M_qEndsPart_L0 T xs d y o0 out) : jEv xs d (229, 0, [(2, Int.ofNat o0)], []) (T, h) y := by
  unfold M_qEndsPart_B0 at H
  refine jEv.blk [(.aload_n 0, 1, [])] (by decide +kernel) (pc' := 1) (ls' := [(2, Int.ofNat o0)]) (st' := [(2, Int.ofNat o0)]) rfl ?_
  refine jEv.gfI (show jfI 229 1 (.getfield 232) 3 [12, 5, 0, 0, 7041] = true by decide +kernel) (isX12_L ho0) (by decide) ?_
  refine jEv.if_ne (t := 51) (show jfI 229 4 (.ifCond .ne 47) 3 [] = true by decide +kernel) rfl H (fun c1 H => ?_) (fun c1 H => ?_)
  · refine jEv.blk [(.aload_n 0, 1, [])] (by decide +kernel) (pc' := 8) (ls' := [(2, Int.ofNat o0)]) (st' := [(2, Int.ofNat o0)]) rfl ?_
    refine jEv.gfI (show jfI 229 8 (.getfield 297) 3 [12, 101, 0, 0, 7137] = true by decide +kernel) (isX12_L ho0) (by decide) ?_
    refine jEv.blk [(.aload_n 0, 1, [])] (by decide +kernel) (pc' := 12) (ls' := [(2, Int.ofNat o0)]) (st' := [(2, Int.ofNat o0), (0, (h o0 101))]) rfl ?_
    refine jEv.gfI (show jfI 229 12 (.getfield 303) 3 [12, 103, 0, 0, 7139] = true by decide +kernel) (isX12_L ho0) (by decide) ?_
    refine jEv.ic_le (t := 51) (show jfI 229 15 (.if_icmp .le 36) 3 [] = true by decide +kernel) rfl H (fun c2 H => ?_) (fun c2 H => ?_)
    · refine jEv.blk [(.aload_n 0, 1, [])] (by decide +kernel) (pc' := 19) (ls' := [(2, Int.ofNat o0)]) (st' := [(2, Int.ofNat o0)]) rfl ?_
      refine jEv.gfR (o' := (o0 + 66)) (show jfI 229 19 (.getfield 219) 3 [12, 100, 5, 0, 7136] = true by decide +kernel) (isX12_L ho0) (by decide) (isX12_r100 ho0) ?_
      refine jEv.blk [(.aload_n 0, 1, [])] (by decide +kernel) (pc' := 23) (ls' := [(2, Int.ofNat o0)]) (st' := [(2, Int.ofNat o0), (2, Int.ofNat (o0 + 66))]) rfl ?_
      refine jEv.gfI (show jfI 229 23 (.getfield 297) 3 [12, 101, 0, 0, 7137] = true by decide +kernel) (isX12_L ho0) (by decide) ?_
      refine jEv.blk [(.iconst 1, 1, []), (.isub, 1, [])] (by decide +kernel) (pc' := 28) (ls' := [(2, Int.ofNat o0)]) (st' := [(0, (wr ((h o0 101) - 1))), (2, Int.ofNat (o0 + 66))]) rfl ?_
      refine jEv.ald (Or.inl ⟨rfl, rfl, rfl⟩) (show jfI 229 28 (.iaload) 1 [] = true by decide +kernel) (isX12_a100 ho0) H (fun c3 H => ?_)
      refine jEv.blk [(.bipush 60, 2, [])] (by decide +kernel) (pc' := 31) (ls' := [(2, Int.ofNat o0)]) (st' := [(0, 60), (0, (h (o0 + 66) ((wr ((h o0 101) - 1)) : Int).toNat))]) rfl ?_
      refine jEv.ic_lt (t := 51) (show jfI 229 31 (.if_icmp .lt 20) 3 [] = true by decide +kernel) rfl H (fun c4 H => ?_) (fun c4 H => ?_)
      · refine jmapr H HY (fun out H (HY : ykV T y out) => ?_)
        exact jEv.retV (show jfI 229 51 (.return_) 1 [] = true by decide +kernel) (by decide +kernel) (by cases H; exact HY)
      · refine jEv.blk [(.aload_n 0, 1, []), (.dup, 1, [])] (by decide +kernel) (pc' := 36) (ls' := [(2, Int.ofNat o0)]) (st' := [(2, Int.ofNat o0), (2, Int.ofNat o0)]) rfl ?_
        refine jEv.gfI (show jfI 229 36 (.getfield 300) 3 [12, 102, 0, 0, 7138] = true by decide +kernel) (isX12_L ho0) (by decide) ?_
        refine jEv.blk [(.iconst 1, 1, []), (.isub, 1, [])] (by decide +kernel) (pc' := 41) (ls' := [(2, Int.ofNat o0)]) (st' := [(0, (wr ((h o0 102) - 1))), (2, Int.ofNat o0)]) rfl ?_
        refine jEv.pfI (show jfI 229 41 (.putfield 300) 3 [12, 102, 0, 0, 7138] = true by decide +kernel) (isX12_L ho0) (by decide) ?_
        refine jEv.blk [(.aload_n 0, 1, [])] (by decide +kernel) (pc' := 45) (ls' := [(2, Int.ofNat o0)]) (st' := [(2, Int.ofNat o0)]) rfl ?_
        refine jbind H (fun b5 Hb5 H => ?_)
        refine jEv.calV (st' := []) (show jfI 229 45 (.invokevirtual 662) 3 [1, 230, 0, 9003] = true by decide +kernel) rfl (Or.inl rfl) rfl (Nat.le_of_ble_eq_true rfl) (by decide +kernel) (by decide) (isX12_L ho0) ((t_M_qDrops (T := T) (xs := xs) ho0 Hb5).mono (jKle 2 hd)) rfl ?_
        refine jEv.goto (t := 0) (show jfI 229 48 (.goto (-48)) 3 [] = true by decide +kernel) rfl ?_
        exact (by cases H; exact HY)
    · refine jmapr H HY (fun out H (HY : ykV T y out) => ?_)
      exact jEv.retV (show jfI 229 51 (.return_) 1 [] = true by decide +kernel) (by decide +kernel) (by cases H; exact HY)
  · refine jmapr H HY (fun out H (HY : ykV T y out) => ?_)
    exact jEv.retV (show jfI 229 51 (.return_) 1 [] = true by decide +kernel) (by decide +kernel) (by cases H; exact HY)
theorem t_M_qEndsPart_L0 {T : jT} {xs : List Int} {d : Nat} {y : jV × jS} (hd : 2 ≤ d) {h : jH}  {o0 : Nat} {out : jH} (ho0 : isX12 T o0) (H : M_qEndsPart_L0 h o0 = some out) (HY : ykV T y out) : jEv xs d (229, 0, [(2, Int.ofNat o0)], []) (T, h) y :=
  jloop_sound (G := fun s : jH => jEv xs d (229, 0, [(2, Int.ofNat o0)], []) (T, s) y) (K := yk_M_qEndsPart_L0 T xs d y o0) (fun s out H HY => t_M_qEndsPart_B0 hd ho0 H HY) (fun s' hg => hg) (s := (h)) H HY
set_option maxRecDepth 20000 in
noncomputable def M_qEndsPart  (h : jH) (o0 : Nat) : Option jH := M_qEndsPart_L0 h o0
set_option maxRecDepth 20000 in
theorem t_M_qEndsPart {T : jT} {xs : List Int} {h : jH}  {o0 : Nat} {out : jH} (ho0 : isX12 T o0) (H : M_qEndsPart h o0 = some out) : jEm xs 3 229 [(2, Int.ofNat o0)] (T, h) ((3, 0), (T, out)) := by
  have hd : 2 ≤ 2 := Nat.le_refl _
  obtain ⟨y, ey⟩ : ∃ y : jV × jS, y = ((3, 0), (T, out)) := ⟨_, rfl⟩
  rw [← ey]
  have HY : ykV T y out := ey
  refine jEm.ent (n := 1) (by decide +kernel) (Nat.le_of_ble_eq_true rfl) ?_
  show jEv xs 2 (229, 0, [(2, Int.ofNat o0)], []) (T, h) y
  unfold M_qEndsPart at H
  exact t_M_qEndsPart_L0 (T := T) (xs := xs) (y := y) hd ho0 H HY
def yk_M_qPartTold_L2 (T : jT) (xs : List Int) (d : Nat) (y : jV × jS)  (o0 : Nat) : ((Int × jH) ⊕ jH) → Prop
  | .inl (v1, h) => jEv xs d (224, 2, [(2, Int.ofNat o0), (0, v1), (3, 0), (3, 0), (3, 0), (3, 0)], []) (T, h) y
  | .inr o => ykV T y o
set_option maxRecDepth 20000 in
noncomputable def M_qPartTold_p237  (h : jH) (o0 : Nat) (os0 : Nat) (vs1 : Int) : Option jH := Option.bind (M_qCode h os0 vs1) (fun b20 => Option.bind (M_qEndsPart b20 o0) (fun b21 => some b21))
set_option maxRecDepth 20000 in
theorem t_M_qPartTold_p237 {T : jT} {xs : List Int} {d : Nat} {y : jV × jS} (hd : 5 ≤ d) {h : jH}  {o0 : Nat} {os0 : Nat} {vs1 : Int} {out : jH} (ho0 : isX12 T o0) (hos0 : isX12 T os0) (H : M_qPartTold_p237 h o0 os0 vs1 = some out) (HY : ykV T y out) : jEv xs d (224, 237, [(2, Int.ofNat o0), (3, 0), (3, 0), (3, 0), (3, 0), (3, 0)], [(0, vs1), (2, Int.ofNat os0)]) (T, h) y := by
  unfold M_qPartTold_p237 at H
  refine jbind H (fun b20 Hb20 H => ?_)
  refine jEv.calV (st' := []) (show jfI 224 237 (.invokevirtual 656) 3 [1, 222, 1, 8211] = true by decide +kernel) rfl (Or.inl rfl) rfl (Nat.le_of_ble_eq_true rfl) (by decide +kernel) (by decide) (isX12_L hos0) ((t_M_qCode (T := T) (xs := xs) hos0 Hb20).mono (jKle 1 hd)) rfl ?_
  refine jEv.blk [(.aload_n 0, 1, [])] (by decide +kernel) (pc' := 241) (ls' := [(2, Int.ofNat o0), (3, 0), (3, 0), (3, 0), (3, 0), (3, 0)]) (st' := [(2, Int.ofNat o0)]) rfl ?_
  refine jbind H (fun b21 Hb21 H => ?_)
  refine jEv.calV (st' := []) (show jfI 224 241 (.invokevirtual 680) 3 [1, 229, 0, 8239] = true by decide +kernel) rfl (Or.inl rfl) rfl (Nat.le_of_ble_eq_true rfl) (by decide +kernel) (by decide) (isX12_L ho0) ((t_M_qEndsPart (T := T) (xs := xs) ho0 Hb21).mono (jKle 3 hd)) rfl ?_
  exact jEv.retV (show jfI 224 244 (.return_) 1 [] = true by decide +kernel) (by decide +kernel) (by cases H; exact HY)
set_option maxRecDepth 20000 in
noncomputable def M_qPartTold_p212  (h : jH) (o0 : Nat) (v2 : Int) : Option jH := (if v2 = (-1) then Option.bind (M_number h o0 0 9999) (fun b19 => M_qPartTold_p237 b19.2 o0 o0 (wr (1000 + b19.1))) else M_qPartTold_p237 h o0 o0 (wr (40 + v2)))
set_option maxRecDepth 20000 in
theorem t_M_qPartTold_p212 {T : jT} {xs : List Int} {d : Nat} {y : jV × jS} (hd : 5 ≤ d) {h : jH}  {o0 : Nat} {v2 : Int} {out : jH} (ho0 : isX12 T o0) (H : M_qPartTold_p212 h o0 v2 = some out) (HY : ykV T y out) : jEv xs d (224, 212, [(2, Int.ofNat o0), (3, 0), (0, v2), (3, 0), (3, 0), (3, 0)], []) (T, h) y := by
  unfold M_qPartTold_p212 at H
  refine jEv.blk [(.aload_n 0, 1, []), (.iload_n 2, 1, []), (.iconst (-1), 1, [])] (by decide +kernel) (pc' := 215) (ls' := [(2, Int.ofNat o0), (3, 0), (0, v2), (3, 0), (3, 0), (3, 0)]) (st' := [(0, (-1)), (0, v2), (2, Int.ofNat o0)]) rfl ?_
  refine jEv.ic_eq (t := 225) (show jfI 224 215 (.if_icmp .eq 10) 3 [] = true by decide +kernel) rfl H (fun c18 H => ?_) (fun c18 H => ?_)
  · refine jEv.blk [(.sipush 1000, 3, []), (.aload_n 0, 1, []), (.iconst 0, 1, []), (.sipush 9999, 3, [])] (by decide +kernel) (pc' := 233) (ls' := [(2, Int.ofNat o0), (3, 0), (0, v2), (3, 0), (3, 0), (3, 0)]) (st' := [(0, 9999), (0, 0), (2, Int.ofNat o0), (0, 1000), (2, Int.ofNat o0)]) rfl ?_
    refine jbind H (fun b19 Hb19 H => ?_)
    refine jEv.calV (st' := [(0, b19.1), (0, 1000), (2, Int.ofNat o0)]) (show jfI 224 233 (.invokevirtual 286) 3 [1, 211, 2, 8169] = true by decide +kernel) rfl (Or.inl rfl) rfl (Nat.le_of_ble_eq_true rfl) (by decide +kernel) (by decide) (isX12_L ho0) ((t_M_number (T := T) (xs := xs) ho0 Hb19).mono (jKle 2 hd)) rfl ?_
    refine jEv.blk [(.iadd, 1, [])] (by decide +kernel) (pc' := 237) (ls' := [(2, Int.ofNat o0), (3, 0), (0, v2), (3, 0), (3, 0), (3, 0)]) (st' := [(0, (wr (1000 + b19.1))), (2, Int.ofNat o0)]) rfl ?_
    exact jEv.weak (a := [(2, Int.ofNat o0), (3, 0), (3, 0), (3, 0), (3, 0), (3, 0)]) (jles.c1 (jles.c0 (jles.c0 (jles.c0 (jles.c0 (jles.c0 jles.nl)))))) (t_M_qPartTold_p237 (T := T) (xs := xs) (y := y) hd ho0 ho0 H HY)
  · refine jEv.blk [(.bipush 40, 2, []), (.iload_n 2, 1, []), (.iadd, 1, [])] (by decide +kernel) (pc' := 222) (ls' := [(2, Int.ofNat o0), (3, 0), (0, v2), (3, 0), (3, 0), (3, 0)]) (st' := [(0, (wr (40 + v2))), (2, Int.ofNat o0)]) rfl ?_
    refine jEv.goto (t := 237) (show jfI 224 222 (.goto 15) 3 [] = true by decide +kernel) rfl ?_
    exact jEv.weak (a := [(2, Int.ofNat o0), (3, 0), (3, 0), (3, 0), (3, 0), (3, 0)]) (jles.c1 (jles.c0 (jles.c0 (jles.c0 (jles.c0 (jles.c0 jles.nl)))))) (t_M_qPartTold_p237 (T := T) (xs := xs) (y := y) hd ho0 ho0 H HY)
set_option maxRecDepth 20000 in
noncomputable def M_qPartTold_p186  (h : jH) (o0 : Nat) : Option jH := (if (h o0 5) = 0 then Option.bind (M_qWordOf h o0 0 9) (fun b15 => (if b15.1 = (-1) then M_qPartTold_p212 b15.2 o0 b15.1 else Option.bind (M_qAsksWord b15.2 o0 b15.1) (fun b17 => M_qPartTold_p212 b17 o0 b15.1))) else some h)
set_option maxRecDepth 20000 in
theorem t_M_qPartTold_p186 {T : jT} {xs : List Int} {d : Nat} {y : jV × jS} (hd : 5 ≤ d) {h : jH}  {o0 : Nat} {out : jH} (ho0 : isX12 T o0) (H : M_qPartTold_p186 h o0 = some out) (HY : ykV T y out) : jEv xs d (224, 186, [(2, Int.ofNat o0), (3, 0), (3, 0), (3, 0), (3, 0), (3, 0)], []) (T, h) y := by
  unfold M_qPartTold_p186 at H
  refine jEv.blk [(.aload_n 0, 1, [])] (by decide +kernel) (pc' := 187) (ls' := [(2, Int.ofNat o0), (3, 0), (3, 0), (3, 0), (3, 0), (3, 0)]) (st' := [(2, Int.ofNat o0)]) rfl ?_
  refine jEv.gfI (show jfI 224 187 (.getfield 232) 3 [12, 5, 0, 0, 7041] = true by decide +kernel) (isX12_L ho0) (by decide) ?_
  refine jEv.if_eq (t := 194) (show jfI 224 190 (.ifCond .eq 4) 3 [] = true by decide +kernel) rfl H (fun c14 H => ?_) (fun c14 H => ?_)
  · refine jEv.blk [(.aload_n 0, 1, []), (.iconst 0, 1, []), (.bipush 9, 2, [])] (by decide +kernel) (pc' := 198) (ls' := [(2, Int.ofNat o0), (3, 0), (3, 0), (3, 0), (3, 0), (3, 0)]) (st' := [(0, 9), (0, 0), (2, Int.ofNat o0)]) rfl ?_
    refine jbind H (fun b15 Hb15 H => ?_)
    refine jEv.calV (st' := [(0, b15.1)]) (show jfI 224 198 (.invokevirtual 671) 3 [1, 225, 2, 8223] = true by decide +kernel) rfl (Or.inl rfl) rfl (Nat.le_of_ble_eq_true rfl) (by decide +kernel) (by decide) (isX12_L ho0) ((t_M_qWordOf (T := T) (xs := xs) ho0 Hb15).mono (jKle 4 hd)) rfl ?_
    refine jEv.blk [(.istore_n 2, 1, []), (.iload_n 2, 1, []), (.iconst (-1), 1, [])] (by decide +kernel) (pc' := 204) (ls' := [(2, Int.ofNat o0), (3, 0), (0, b15.1), (3, 0), (3, 0), (3, 0)]) (st' := [(0, (-1)), (0, b15.1)]) rfl ?_
    refine jEv.ic_eq (t := 212) (show jfI 224 204 (.if_icmp .eq 8) 3 [] = true by decide +kernel) rfl H (fun c16 H => ?_) (fun c16 H => ?_)
    · exact t_M_qPartTold_p212 (T := T) (xs := xs) (y := y) hd ho0 H HY
    · refine jEv.blk [(.aload_n 0, 1, []), (.iload_n 2, 1, [])] (by decide +kernel) (pc' := 209) (ls' := [(2, Int.ofNat o0), (3, 0), (0, b15.1), (3, 0), (3, 0), (3, 0)]) (st' := [(0, b15.1), (2, Int.ofNat o0)]) rfl ?_
      refine jbind H (fun b17 Hb17 H => ?_)
      refine jEv.calV (st' := []) (show jfI 224 209 (.invokevirtual 677) 3 [1, 228, 1, 8235] = true by decide +kernel) rfl (Or.inl rfl) rfl (Nat.le_of_ble_eq_true rfl) (by decide +kernel) (by decide) (isX12_L ho0) ((t_M_qAsksWord (T := T) (xs := xs) ho0 Hb17).mono (jKle 5 hd)) rfl ?_
      exact t_M_qPartTold_p212 (T := T) (xs := xs) (y := y) hd ho0 H HY
  · exact jEv.retV (show jfI 224 193 (.return_) 1 [] = true by decide +kernel) (by decide +kernel) (by cases H; exact HY)
set_option maxRecDepth 20000 in
noncomputable def M_qPartTold_p144  (h : jH) (o0 : Nat) (v1 : Int) : Option ((Int × jH) ⊕ jH) := Option.bind (M_asksSign h o0 40) (fun b29 => some (.inl (v1, b29)))
set_option maxRecDepth 20000 in
theorem t_M_qPartTold_p144 {T : jT} {xs : List Int} {d : Nat} {y : jV × jS} (hd : 5 ≤ d) {h : jH}  {o0 : Nat} {v1 : Int} {out : ((Int × jH) ⊕ jH)} (ho0 : isX12 T o0) (H : M_qPartTold_p144 h o0 v1 = some out) (HY : yk_M_qPartTold_L2 T xs d y o0 out) : jEv xs d (224, 144, [(2, Int.ofNat o0), (0, v1), (3, 0), (3, 0), (3, 0), (3, 0)], []) (T, h) y := by
  unfold M_qPartTold_p144 at H
  refine jEv.blk [(.aload_n 0, 1, []), (.bipush 40, 2, [])] (by decide +kernel) (pc' := 147) (ls' := [(2, Int.ofNat o0), (0, v1), (3, 0), (3, 0), (3, 0), (3, 0)]) (st' := [(0, 40), (2, Int.ofNat o0)]) rfl ?_
  refine jbind H (fun b29 Hb29 H => ?_)
  refine jEv.calV (st' := []) (show jfI 224 147 (.invokevirtual 290) 3 [1, 214, 1, 8179] = true by decide +kernel) rfl (Or.inl rfl) rfl (Nat.le_of_ble_eq_true rfl) (by decide +kernel) (by decide) (isX12_L ho0) ((t_M_asksSign (T := T) (xs := xs) ho0 Hb29).mono (jKle 3 hd)) rfl ?_
  refine jEv.goto (t := 183) (show jfI 224 150 (.goto 33) 3 [] = true by decide +kernel) rfl ?_
  refine jEv.goto (t := 2) (show jfI 224 183 (.goto (-181)) 3 [] = true by decide +kernel) rfl ?_
  exact (by cases H; exact HY)
set_option maxRecDepth 20000 in
noncomputable def M_qPartTold_p139  (h : jH) (o0 : Nat) (v1 : Int) (v5 : Int) (os0 : Nat) (vs1 : Int) : Option ((Int × jH) ⊕ jH) := Option.bind (M_qOpens h os0 vs1 v5) (fun b30 => M_qPartTold_p144 b30 o0 v1)
set_option maxRecDepth 20000 in
theorem t_M_qPartTold_p139 {T : jT} {xs : List Int} {d : Nat} {y : jV × jS} (hd : 5 ≤ d) {h : jH}  {o0 : Nat} {v1 : Int} {v5 : Int} {os0 : Nat} {vs1 : Int} {out : ((Int × jH) ⊕ jH)} (ho0 : isX12 T o0) (hos0 : isX12 T os0) (H : M_qPartTold_p139 h o0 v1 v5 os0 vs1 = some out) (HY : yk_M_qPartTold_L2 T xs d y o0 out) : jEv xs d (224, 139, [(2, Int.ofNat o0), (0, v1), (3, 0), (3, 0), (3, 0), (0, v5)], [(0, vs1), (2, Int.ofNat os0)]) (T, h) y := by
  unfold M_qPartTold_p139 at H
  refine jEv.blk [(.iload 5, 2, [])] (by decide +kernel) (pc' := 141) (ls' := [(2, Int.ofNat o0), (0, v1), (3, 0), (3, 0), (3, 0), (0, v5)]) (st' := [(0, v5), (0, vs1), (2, Int.ofNat os0)]) rfl ?_
  refine jbind H (fun b30 Hb30 H => ?_)
  refine jEv.calV (st' := []) (show jfI 224 141 (.invokevirtual 674) 3 [1, 220, 2, 8203] = true by decide +kernel) rfl (Or.inl rfl) rfl (Nat.le_of_ble_eq_true rfl) (by decide +kernel) (by decide) (isX12_L hos0) ((t_M_qOpens (T := T) (xs := xs) hos0 Hb30).mono (jKle 2 hd)) rfl ?_
  exact jEv.weak (a := [(2, Int.ofNat o0), (0, v1), (3, 0), (3, 0), (3, 0), (3, 0)]) (jles.c1 (jles.c1 (jles.c0 (jles.c0 (jles.c0 (jles.c0 jles.nl)))))) (t_M_qPartTold_p144 (T := T) (xs := xs) (y := y) hd ho0 H HY)
set_option maxRecDepth 20000 in
noncomputable def M_qPartTold_p118  (h : jH) (o0 : Nat) (v1 : Int) (v4 : Int) (vs0 : Int) : Option ((Int × jH) ⊕ jH) := (if vs0 = (-1) then M_qPartTold_p144 h o0 v1 else (if v4 = 0 then M_qPartTold_p139 h o0 v1 vs0 o0 22 else M_qPartTold_p139 h o0 v1 vs0 o0 21))
set_option maxRecDepth 20000 in
theorem t_M_qPartTold_p118 {T : jT} {xs : List Int} {d : Nat} {y : jV × jS} (hd : 5 ≤ d) {h : jH}  {o0 : Nat} {v1 : Int} {v4 : Int} {vs0 : Int} {out : ((Int × jH) ⊕ jH)} (ho0 : isX12 T o0) (H : M_qPartTold_p118 h o0 v1 v4 vs0 = some out) (HY : yk_M_qPartTold_L2 T xs d y o0 out) : jEv xs d (224, 118, [(2, Int.ofNat o0), (0, v1), (3, 0), (3, 0), (0, v4), (3, 0)], [(0, vs0)]) (T, h) y := by
  unfold M_qPartTold_p118 at H
  refine jEv.blk [(.istore 5, 2, []), (.iload 5, 2, []), (.iconst (-1), 1, [])] (by decide +kernel) (pc' := 123) (ls' := [(2, Int.ofNat o0), (0, v1), (3, 0), (3, 0), (0, v4), (0, vs0)]) (st' := [(0, (-1)), (0, vs0)]) rfl ?_
  refine jEv.ic_eq (t := 144) (show jfI 224 123 (.if_icmp .eq 21) 3 [] = true by decide +kernel) rfl H (fun c27 H => ?_) (fun c27 H => ?_)
  · exact jEv.weak (a := [(2, Int.ofNat o0), (0, v1), (3, 0), (3, 0), (3, 0), (3, 0)]) (jles.c1 (jles.c1 (jles.c0 (jles.c0 (jles.c0 (jles.c0 jles.nl)))))) (t_M_qPartTold_p144 (T := T) (xs := xs) (y := y) hd ho0 H HY)
  · refine jEv.blk [(.aload_n 0, 1, []), (.iload 4, 2, [])] (by decide +kernel) (pc' := 129) (ls' := [(2, Int.ofNat o0), (0, v1), (3, 0), (3, 0), (0, v4), (0, vs0)]) (st' := [(0, v4), (2, Int.ofNat o0)]) rfl ?_
    refine jEv.if_eq (t := 137) (show jfI 224 129 (.ifCond .eq 8) 3 [] = true by decide +kernel) rfl H (fun c28 H => ?_) (fun c28 H => ?_)
    · refine jEv.blk [(.bipush 22, 2, [])] (by decide +kernel) (pc' := 139) (ls' := [(2, Int.ofNat o0), (0, v1), (3, 0), (3, 0), (0, v4), (0, vs0)]) (st' := [(0, 22), (2, Int.ofNat o0)]) rfl ?_
      exact jEv.weak (a := [(2, Int.ofNat o0), (0, v1), (3, 0), (3, 0), (3, 0), (0, vs0)]) (jles.c1 (jles.c1 (jles.c0 (jles.c0 (jles.c0 (jles.c1 jles.nl)))))) (t_M_qPartTold_p139 (T := T) (xs := xs) (y := y) hd ho0 ho0 H HY)
    · refine jEv.blk [(.bipush 21, 2, [])] (by decide +kernel) (pc' := 134) (ls' := [(2, Int.ofNat o0), (0, v1), (3, 0), (3, 0), (0, v4), (0, vs0)]) (st' := [(0, 21), (2, Int.ofNat o0)]) rfl ?_
      refine jEv.goto (t := 139) (show jfI 224 134 (.goto 5) 3 [] = true by decide +kernel) rfl ?_
      exact jEv.weak (a := [(2, Int.ofNat o0), (0, v1), (3, 0), (3, 0), (3, 0), (0, vs0)]) (jles.c1 (jles.c1 (jles.c0 (jles.c0 (jles.c0 (jles.c1 jles.nl)))))) (t_M_qPartTold_p139 (T := T) (xs := xs) (y := y) hd ho0 ho0 H HY)
set_option maxRecDepth 20000 in
noncomputable def M_qPartTold_p101  (h : jH) (o0 : Nat) (v1 : Int) (v4 : Int) : Option ((Int × jH) ⊕ jH) := Option.bind (M_look h o0) (fun b25 => (if b25.1 = 40 then M_qPartTold_p118 b25.2 o0 v1 v4 (b25.2 o0 2) else M_qPartTold_p118 b25.2 o0 v1 v4 (-1)))
set_option maxRecDepth 20000 in
theorem t_M_qPartTold_p101 {T : jT} {xs : List Int} {d : Nat} {y : jV × jS} (hd : 5 ≤ d) {h : jH}  {o0 : Nat} {v1 : Int} {v4 : Int} {out : ((Int × jH) ⊕ jH)} (ho0 : isX12 T o0) (H : M_qPartTold_p101 h o0 v1 v4 = some out) (HY : yk_M_qPartTold_L2 T xs d y o0 out) : jEv xs d (224, 101, [(2, Int.ofNat o0), (0, v1), (3, 0), (3, 0), (0, v4), (3, 0)], []) (T, h) y := by
  unfold M_qPartTold_p101 at H
  refine jEv.blk [(.aload_n 0, 1, [])] (by decide +kernel) (pc' := 102) (ls' := [(2, Int.ofNat o0), (0, v1), (3, 0), (3, 0), (0, v4), (3, 0)]) (st' := [(2, Int.ofNat o0)]) rfl ?_
  refine jbind H (fun b25 Hb25 H => ?_)
  refine jEv.calV (st' := [(0, b25.1)]) (show jfI 224 102 (.invokevirtual 244) 3 [1, 208, 0, 8158] = true by decide +kernel) rfl (Or.inl rfl) rfl (Nat.le_of_ble_eq_true rfl) (by decide +kernel) (by decide) (isX12_L ho0) ((t_M_look (T := T) (xs := xs) ho0 Hb25).mono (jKle 1 hd)) rfl ?_
  refine jEv.blk [(.bipush 40, 2, [])] (by decide +kernel) (pc' := 107) (ls' := [(2, Int.ofNat o0), (0, v1), (3, 0), (3, 0), (0, v4), (3, 0)]) (st' := [(0, 40), (0, b25.1)]) rfl ?_
  refine jEv.ic_ne (t := 117) (show jfI 224 107 (.if_icmp .ne 10) 3 [] = true by decide +kernel) rfl H (fun c26 H => ?_) (fun c26 H => ?_)
  · refine jEv.blk [(.aload_n 0, 1, [])] (by decide +kernel) (pc' := 111) (ls' := [(2, Int.ofNat o0), (0, v1), (3, 0), (3, 0), (0, v4), (3, 0)]) (st' := [(2, Int.ofNat o0)]) rfl ?_
    refine jEv.gfI (show jfI 224 111 (.getfield 238) 3 [12, 2, 0, 0, 7038] = true by decide +kernel) (isX12_L ho0) (by decide) ?_
    refine jEv.goto (t := 118) (show jfI 224 114 (.goto 4) 3 [] = true by decide +kernel) rfl ?_
    exact t_M_qPartTold_p118 (T := T) (xs := xs) (y := y) hd ho0 H HY
  · refine jEv.blk [(.iconst (-1), 1, [])] (by decide +kernel) (pc' := 118) (ls' := [(2, Int.ofNat o0), (0, v1), (3, 0), (3, 0), (0, v4), (3, 0)]) (st' := [(0, (-1))]) rfl ?_
    exact t_M_qPartTold_p118 (T := T) (xs := xs) (y := y) hd ho0 H HY
set_option maxRecDepth 20000 in
noncomputable def M_qPartTold_p78  (h : jH) (o0 : Nat) (v1 : Int) : Option ((Int × jH) ⊕ jH) := Option.bind (M_takes h o0 (o0 + 53) 3) (fun b22 => (if b22.1 = 0 then Option.bind (M_asks b22.2 o0 (o0 + 54) 3) (fun b24 => M_qPartTold_p101 b24 o0 v1 b22.1) else M_qPartTold_p101 b22.2 o0 v1 b22.1))
set_option maxRecDepth 20000 in
theorem t_M_qPartTold_p78 {T : jT} {xs : List Int} {d : Nat} {y : jV × jS} (hd : 5 ≤ d) {h : jH}  {o0 : Nat} {v1 : Int} {out : ((Int × jH) ⊕ jH)} (ho0 : isX12 T o0) (H : M_qPartTold_p78 h o0 v1 = some out) (HY : yk_M_qPartTold_L2 T xs d y o0 out) : jEv xs d (224, 78, [(2, Int.ofNat o0), (0, v1), (3, 0), (3, 0), (3, 0), (3, 0)], []) (T, h) y := by
  unfold M_qPartTold_p78 at H
  refine jEv.blk [(.aload_n 0, 1, []), (.aload_n 0, 1, [])] (by decide +kernel) (pc' := 80) (ls' := [(2, Int.ofNat o0), (0, v1), (3, 0), (3, 0), (3, 0), (3, 0)]) (st' := [(2, Int.ofNat o0), (2, Int.ofNat o0)]) rfl ?_
  refine jEv.gfR (o' := (o0 + 53)) (show jfI 224 80 (.getfield 180) 3 [12, 86, 5, 0, 7122] = true by decide +kernel) (isX12_L ho0) (by decide) (isX12_r86 ho0) ?_
  refine jbind H (fun b22 Hb22 H => ?_)
  refine jEv.calV (st' := [(0, b22.1)]) (show jfI 224 83 (.invokevirtual 259) 3 [1, 206, 1, 8150] = true by decide +kernel) rfl (Or.inl rfl) rfl (Nat.le_of_ble_eq_true rfl) (by decide +kernel) (by decide) (isX12_L ho0) ((t_M_takes (T := T) (xs := xs) ho0 (isX12_a86 ho0) Hb22).mono (jKle 3 hd)) rfl ?_
  refine jEv.blk [(.istore 4, 2, []), (.iload 4, 2, [])] (by decide +kernel) (pc' := 90) (ls' := [(2, Int.ofNat o0), (0, v1), (3, 0), (3, 0), (0, b22.1), (3, 0)]) (st' := [(0, b22.1)]) rfl ?_
  refine jEv.if_ne (t := 101) (show jfI 224 90 (.ifCond .ne 11) 3 [] = true by decide +kernel) rfl H (fun c23 H => ?_) (fun c23 H => ?_)
  · refine jEv.blk [(.aload_n 0, 1, []), (.aload_n 0, 1, [])] (by decide +kernel) (pc' := 95) (ls' := [(2, Int.ofNat o0), (0, v1), (3, 0), (3, 0), (0, b22.1), (3, 0)]) (st' := [(2, Int.ofNat o0), (2, Int.ofNat o0)]) rfl ?_
    refine jEv.gfR (o' := (o0 + 54)) (show jfI 224 95 (.getfield 183) 3 [12, 87, 5, 0, 7123] = true by decide +kernel) (isX12_L ho0) (by decide) (isX12_r87 ho0) ?_
    refine jbind H (fun b24 Hb24 H => ?_)
    refine jEv.calV (st' := []) (show jfI 224 98 (.invokevirtual 282) 3 [1, 205, 1, 8146] = true by decide +kernel) rfl (Or.inl rfl) rfl (Nat.le_of_ble_eq_true rfl) (by decide +kernel) (by decide) (isX12_L ho0) ((t_M_asks (T := T) (xs := xs) ho0 (isX12_a87 ho0) Hb24).mono (jKle 4 hd)) rfl ?_
    exact t_M_qPartTold_p101 (T := T) (xs := xs) (y := y) hd ho0 H HY
  · exact t_M_qPartTold_p101 (T := T) (xs := xs) (y := y) hd ho0 H HY
set_option maxRecDepth 20000 in
noncomputable def M_qPartTold_B2  (h : jH) (o0 : Nat) (v1 : Int) : Option ((Int × jH) ⊕ jH) := (if v1 = 0 then Option.map Sum.inr (M_qPartTold_p186 h o0) else (if (h o0 5) = 0 then Option.bind (M_look h o0) (fun b3 => Option.bind (M_qWordOf b3.2 o0 9 11) (fun b4 => (if b3.1 = 40 then Option.bind (M_qOpens b4.2 o0 20 (b4.2 o0 2)) (fun b6 => some (.inl (v1, (jup b6 o0 2 (wr ((b6 o0 2) + 1)))))) else Option.bind (M_isHere b4.2 o0 (o0 + 53) 3) (fun b7 => (if b7.1 = 0 then Option.bind (M_isHere b7.2 o0 (o0 + 54) 3) (fun b9 => (if b9.1 = 0 then (if b4.1 = (-1) then some (.inl (0, b9.2)) else Option.bind (M_qOpens b9.2 o0 (wr ((wr (60 + b4.1)) - 9)) (b9.2 o0 2)) (fun b12 => Option.bind (M_qAsksWord b12 o0 b4.1) (fun b13 => some (.inl (v1, b13))))) else M_qPartTold_p78 b9.2 o0 v1)) else M_qPartTold_p78 b7.2 o0 v1))))) else Option.map Sum.inr (M_qPartTold_p186 h o0)))
noncomputable def M_qPartTold_L2  (h : jH) (o0 : Nat) (v1 : Int) : Option jH := jloop (fun s : (Int × jH) => M_qPartTold_B2 s.2 o0 s.1) (v1, h)
set_option maxRecDepth 20000 in
theorem t_M_qPartTold_B2 {T : jT} {xs : List Int} {d : Nat} {y : jV × jS} (hd : 5 ≤ d) {h : jH}  {o0 : Nat} {v1 : Int} {out : ((Int × jH) ⊕ jH)} (ho0 : isX12 T o0) (H : M_qPartTold_B2 h o0 v1 = some out) (HY : yk_M_qPartTold_L2 T xs d y o0 out) : jEv xs d (224, 2, [(2, Int.ofNat o0), (0, v1), (3, 0), (3, 0), (3, 0), (3, 0)], []) (T, h) y := by
  unfold M_qPartTold_B2 at H
  refine jEv.blk [(.iload_n 1, 1, [])] (by decide +kernel) (pc' := 3) (ls' := [(2, Int.ofNat o0), (0, v1), (3, 0), (3, 0), (3, 0), (3, 0)]) (st' := [(0, v1)]) rfl ?_
  refine jEv.if_eq (t := 186) (show jfI 224 3 (.ifCond .eq 183) 3 [] = true by decide +kernel) rfl H (fun c1 H => ?_) (fun c1 H => ?_)
  · refine jmapr H HY (fun out H (HY : ykV T y out) => ?_)
    exact jEv.weak (a := [(2, Int.ofNat o0), (3, 0), (3, 0), (3, 0), (3, 0), (3, 0)]) (jles.c1 (jles.c0 (jles.c0 (jles.c0 (jles.c0 (jles.c0 jles.nl)))))) (t_M_qPartTold_p186 (T := T) (xs := xs) (y := y) hd ho0 H HY)
  · refine jEv.blk [(.aload_n 0, 1, [])] (by decide +kernel) (pc' := 7) (ls' := [(2, Int.ofNat o0), (0, v1), (3, 0), (3, 0), (3, 0), (3, 0)]) (st' := [(2, Int.ofNat o0)]) rfl ?_
    refine jEv.gfI (show jfI 224 7 (.getfield 232) 3 [12, 5, 0, 0, 7041] = true by decide +kernel) (isX12_L ho0) (by decide) ?_
    refine jEv.if_ne (t := 186) (show jfI 224 10 (.ifCond .ne 176) 3 [] = true by decide +kernel) rfl H (fun c2 H => ?_) (fun c2 H => ?_)
    · refine jEv.blk [(.aload_n 0, 1, [])] (by decide +kernel) (pc' := 14) (ls' := [(2, Int.ofNat o0), (0, v1), (3, 0), (3, 0), (3, 0), (3, 0)]) (st' := [(2, Int.ofNat o0)]) rfl ?_
      refine jbind H (fun b3 Hb3 H => ?_)
      refine jEv.calV (st' := [(0, b3.1)]) (show jfI 224 14 (.invokevirtual 244) 3 [1, 208, 0, 8158] = true by decide +kernel) rfl (Or.inl rfl) rfl (Nat.le_of_ble_eq_true rfl) (by decide +kernel) (by decide) (isX12_L ho0) ((t_M_look (T := T) (xs := xs) ho0 Hb3).mono (jKle 1 hd)) rfl ?_
      refine jEv.blk [(.istore_n 2, 1, []), (.aload_n 0, 1, []), (.bipush 9, 2, []), (.bipush 11, 2, [])] (by decide +kernel) (pc' := 23) (ls' := [(2, Int.ofNat o0), (0, v1), (0, b3.1), (3, 0), (3, 0), (3, 0)]) (st' := [(0, 11), (0, 9), (2, Int.ofNat o0)]) rfl ?_
      refine jbind H (fun b4 Hb4 H => ?_)
      refine jEv.calV (st' := [(0, b4.1)]) (show jfI 224 23 (.invokevirtual 671) 3 [1, 225, 2, 8223] = true by decide +kernel) rfl (Or.inl rfl) rfl (Nat.le_of_ble_eq_true rfl) (by decide +kernel) (by decide) (isX12_L ho0) ((t_M_qWordOf (T := T) (xs := xs) ho0 Hb4).mono (jKle 4 hd)) rfl ?_
      refine jEv.blk [(.istore_n 3, 1, []), (.iload_n 2, 1, []), (.bipush 40, 2, [])] (by decide +kernel) (pc' := 30) (ls' := [(2, Int.ofNat o0), (0, v1), (0, b3.1), (0, b4.1), (3, 0), (3, 0)]) (st' := [(0, 40), (0, b3.1)]) rfl ?_
      refine jEv.ic_ne (t := 56) (show jfI 224 30 (.if_icmp .ne 26) 3 [] = true by decide +kernel) rfl H (fun c5 H => ?_) (fun c5 H => ?_)
      · refine jEv.blk [(.aload_n 0, 1, []), (.bipush 20, 2, []), (.aload_n 0, 1, [])] (by decide +kernel) (pc' := 37) (ls' := [(2, Int.ofNat o0), (0, v1), (0, b3.1), (0, b4.1), (3, 0), (3, 0)]) (st' := [(2, Int.ofNat o0), (0, 20), (2, Int.ofNat o0)]) rfl ?_
        refine jEv.gfI (show jfI 224 37 (.getfield 238) 3 [12, 2, 0, 0, 7038] = true by decide +kernel) (isX12_L ho0) (by decide) ?_
        refine jbind H (fun b6 Hb6 H => ?_)
        refine jEv.calV (st' := []) (show jfI 224 40 (.invokevirtual 674) 3 [1, 220, 2, 8203] = true by decide +kernel) rfl (Or.inl rfl) rfl (Nat.le_of_ble_eq_true rfl) (by decide +kernel) (by decide) (isX12_L ho0) ((t_M_qOpens (T := T) (xs := xs) ho0 Hb6).mono (jKle 2 hd)) rfl ?_
        refine jEv.blk [(.aload_n 0, 1, []), (.dup, 1, [])] (by decide +kernel) (pc' := 45) (ls' := [(2, Int.ofNat o0), (0, v1), (0, b3.1), (0, b4.1), (3, 0), (3, 0)]) (st' := [(2, Int.ofNat o0), (2, Int.ofNat o0)]) rfl ?_
        refine jEv.gfI (show jfI 224 45 (.getfield 238) 3 [12, 2, 0, 0, 7038] = true by decide +kernel) (isX12_L ho0) (by decide) ?_
        refine jEv.blk [(.iconst 1, 1, []), (.iadd, 1, [])] (by decide +kernel) (pc' := 50) (ls' := [(2, Int.ofNat o0), (0, v1), (0, b3.1), (0, b4.1), (3, 0), (3, 0)]) (st' := [(0, (wr ((b6 o0 2) + 1))), (2, Int.ofNat o0)]) rfl ?_
        refine jEv.pfI (show jfI 224 50 (.putfield 238) 3 [12, 2, 0, 0, 7038] = true by decide +kernel) (isX12_L ho0) (by decide) ?_
        refine jEv.goto (t := 183) (show jfI 224 53 (.goto 130) 3 [] = true by decide +kernel) rfl ?_
        refine jEv.goto (t := 2) (show jfI 224 183 (.goto (-181)) 3 [] = true by decide +kernel) rfl ?_
        exact jEv.weak (a := [(2, Int.ofNat o0), (0, v1), (3, 0), (3, 0), (3, 0), (3, 0)]) (jles.c1 (jles.c1 (jles.c0 (jles.c0 (jles.c0 (jles.c0 jles.nl)))))) ((by cases H; exact HY))
      · refine jEv.blk [(.aload_n 0, 1, []), (.aload_n 0, 1, [])] (by decide +kernel) (pc' := 58) (ls' := [(2, Int.ofNat o0), (0, v1), (0, b3.1), (0, b4.1), (3, 0), (3, 0)]) (st' := [(2, Int.ofNat o0), (2, Int.ofNat o0)]) rfl ?_
        refine jEv.gfR (o' := (o0 + 53)) (show jfI 224 58 (.getfield 180) 3 [12, 86, 5, 0, 7122] = true by decide +kernel) (isX12_L ho0) (by decide) (isX12_r86 ho0) ?_
        refine jbind H (fun b7 Hb7 H => ?_)
        refine jEv.calV (st' := [(0, b7.1)]) (show jfI 224 61 (.invokevirtual 255) 3 [1, 207, 1, 8154] = true by decide +kernel) rfl (Or.inl rfl) rfl (Nat.le_of_ble_eq_true rfl) (by decide +kernel) (by decide) (isX12_L ho0) ((t_M_isHere (T := T) (xs := xs) ho0 (isX12_a86 ho0) Hb7).mono (jKle 2 hd)) rfl ?_
        refine jEv.if_ne (t := 78) (show jfI 224 64 (.ifCond .ne 14) 3 [] = true by decide +kernel) rfl H (fun c8 H => ?_) (fun c8 H => ?_)
        · refine jEv.blk [(.aload_n 0, 1, []), (.aload_n 0, 1, [])] (by decide +kernel) (pc' := 69) (ls' := [(2, Int.ofNat o0), (0, v1), (0, b3.1), (0, b4.1), (3, 0), (3, 0)]) (st' := [(2, Int.ofNat o0), (2, Int.ofNat o0)]) rfl ?_
          refine jEv.gfR (o' := (o0 + 54)) (show jfI 224 69 (.getfield 183) 3 [12, 87, 5, 0, 7123] = true by decide +kernel) (isX12_L ho0) (by decide) (isX12_r87 ho0) ?_
          refine jbind H (fun b9 Hb9 H => ?_)
          refine jEv.calV (st' := [(0, b9.1)]) (show jfI 224 72 (.invokevirtual 255) 3 [1, 207, 1, 8154] = true by decide +kernel) rfl (Or.inl rfl) rfl (Nat.le_of_ble_eq_true rfl) (by decide +kernel) (by decide) (isX12_L ho0) ((t_M_isHere (T := T) (xs := xs) ho0 (isX12_a87 ho0) Hb9).mono (jKle 2 hd)) rfl ?_
          refine jEv.if_eq (t := 153) (show jfI 224 75 (.ifCond .eq 78) 3 [] = true by decide +kernel) rfl H (fun c10 H => ?_) (fun c10 H => ?_)
          · refine jEv.blk [(.iload_n 3, 1, []), (.iconst (-1), 1, [])] (by decide +kernel) (pc' := 155) (ls' := [(2, Int.ofNat o0), (0, v1), (0, b3.1), (0, b4.1), (3, 0), (3, 0)]) (st' := [(0, (-1)), (0, b4.1)]) rfl ?_
            refine jEv.ic_eq (t := 181) (show jfI 224 155 (.if_icmp .eq 26) 3 [] = true by decide +kernel) rfl H (fun c11 H => ?_) (fun c11 H => ?_)
            · refine jEv.blk [(.iconst 0, 1, []), (.istore_n 1, 1, [])] (by decide +kernel) (pc' := 183) (ls' := [(2, Int.ofNat o0), (0, 0), (0, b3.1), (0, b4.1), (3, 0), (3, 0)]) (st' := []) rfl ?_
              refine jEv.goto (t := 2) (show jfI 224 183 (.goto (-181)) 3 [] = true by decide +kernel) rfl ?_
              exact jEv.weak (a := [(2, Int.ofNat o0), (0, 0), (3, 0), (3, 0), (3, 0), (3, 0)]) (jles.c1 (jles.c1 (jles.c0 (jles.c0 (jles.c0 (jles.c0 jles.nl)))))) ((by cases H; exact HY))
            · refine jEv.blk [(.aload_n 0, 1, []), (.bipush 60, 2, []), (.iload_n 3, 1, []), (.iadd, 1, []), (.bipush 9, 2, []), (.isub, 1, []), (.aload_n 0, 1, [])] (by decide +kernel) (pc' := 167) (ls' := [(2, Int.ofNat o0), (0, v1), (0, b3.1), (0, b4.1), (3, 0), (3, 0)]) (st' := [(2, Int.ofNat o0), (0, (wr ((wr (60 + b4.1)) - 9))), (2, Int.ofNat o0)]) rfl ?_
              refine jEv.gfI (show jfI 224 167 (.getfield 238) 3 [12, 2, 0, 0, 7038] = true by decide +kernel) (isX12_L ho0) (by decide) ?_
              refine jbind H (fun b12 Hb12 H => ?_)
              refine jEv.calV (st' := []) (show jfI 224 170 (.invokevirtual 674) 3 [1, 220, 2, 8203] = true by decide +kernel) rfl (Or.inl rfl) rfl (Nat.le_of_ble_eq_true rfl) (by decide +kernel) (by decide) (isX12_L ho0) ((t_M_qOpens (T := T) (xs := xs) ho0 Hb12).mono (jKle 2 hd)) rfl ?_
              refine jEv.blk [(.aload_n 0, 1, []), (.iload_n 3, 1, [])] (by decide +kernel) (pc' := 175) (ls' := [(2, Int.ofNat o0), (0, v1), (0, b3.1), (0, b4.1), (3, 0), (3, 0)]) (st' := [(0, b4.1), (2, Int.ofNat o0)]) rfl ?_
              refine jbind H (fun b13 Hb13 H => ?_)
              refine jEv.calV (st' := []) (show jfI 224 175 (.invokevirtual 677) 3 [1, 228, 1, 8235] = true by decide +kernel) rfl (Or.inl rfl) rfl (Nat.le_of_ble_eq_true rfl) (by decide +kernel) (by decide) (isX12_L ho0) ((t_M_qAsksWord (T := T) (xs := xs) ho0 Hb13).mono (jKle 5 hd)) rfl ?_
              refine jEv.goto (t := 183) (show jfI 224 178 (.goto 5) 3 [] = true by decide +kernel) rfl ?_
              refine jEv.goto (t := 2) (show jfI 224 183 (.goto (-181)) 3 [] = true by decide +kernel) rfl ?_
              exact jEv.weak (a := [(2, Int.ofNat o0), (0, v1), (3, 0), (3, 0), (3, 0), (3, 0)]) (jles.c1 (jles.c1 (jles.c0 (jles.c0 (jles.c0 (jles.c0 jles.nl)))))) ((by cases H; exact HY))
          · exact jEv.weak (a := [(2, Int.ofNat o0), (0, v1), (3, 0), (3, 0), (3, 0), (3, 0)]) (jles.c1 (jles.c1 (jles.c0 (jles.c0 (jles.c0 (jles.c0 jles.nl)))))) (t_M_qPartTold_p78 (T := T) (xs := xs) (y := y) hd ho0 H HY)
        · exact jEv.weak (a := [(2, Int.ofNat o0), (0, v1), (3, 0), (3, 0), (3, 0), (3, 0)]) (jles.c1 (jles.c1 (jles.c0 (jles.c0 (jles.c0 (jles.c0 jles.nl)))))) (t_M_qPartTold_p78 (T := T) (xs := xs) (y := y) hd ho0 H HY)
    · refine jmapr H HY (fun out H (HY : ykV T y out) => ?_)
      exact jEv.weak (a := [(2, Int.ofNat o0), (3, 0), (3, 0), (3, 0), (3, 0), (3, 0)]) (jles.c1 (jles.c0 (jles.c0 (jles.c0 (jles.c0 (jles.c0 jles.nl)))))) (t_M_qPartTold_p186 (T := T) (xs := xs) (y := y) hd ho0 H HY)
theorem t_M_qPartTold_L2 {T : jT} {xs : List Int} {d : Nat} {y : jV × jS} (hd : 5 ≤ d) {h : jH}  {o0 : Nat} {v1 : Int} {out : jH} (ho0 : isX12 T o0) (H : M_qPartTold_L2 h o0 v1 = some out) (HY : ykV T y out) : jEv xs d (224, 2, [(2, Int.ofNat o0), (0, v1), (3, 0), (3, 0), (3, 0), (3, 0)], []) (T, h) y :=
  jloop_sound (G := fun s : (Int × jH) => jEv xs d (224, 2, [(2, Int.ofNat o0), (0, s.1), (3, 0), (3, 0), (3, 0), (3, 0)], []) (T, s.2) y) (K := yk_M_qPartTold_L2 T xs d y o0) (fun s out H HY => t_M_qPartTold_B2 hd ho0 H HY) (fun s' hg => hg) (s := (v1, h)) H HY
set_option maxRecDepth 20000 in
noncomputable def M_qPartTold  (h : jH) (o0 : Nat) : Option jH := M_qPartTold_L2 h o0 1
set_option maxRecDepth 20000 in
theorem t_M_qPartTold {T : jT} {xs : List Int} {h : jH}  {o0 : Nat} {out : jH} (ho0 : isX12 T o0) (H : M_qPartTold h o0 = some out) : jEm xs 6 224 [(2, Int.ofNat o0)] (T, h) ((3, 0), (T, out)) := by
  have hd : 5 ≤ 5 := Nat.le_refl _
  obtain ⟨y, ey⟩ : ∃ y : jV × jS, y = ((3, 0), (T, out)) := ⟨_, rfl⟩
  rw [← ey]
  have HY : ykV T y out := ey
  refine jEm.ent (n := 6) (by decide +kernel) (Nat.le_of_ble_eq_true rfl) ?_
  show jEv xs 5 (224, 0, [(2, Int.ofNat o0), (3, 0), (3, 0), (3, 0), (3, 0), (3, 0)], []) (T, h) y
  unfold M_qPartTold at H
  refine jEv.blk [(.iconst 1, 1, []), (.istore_n 1, 1, [])] (by decide +kernel) (pc' := 2) (ls' := [(2, Int.ofNat o0), (0, 1), (3, 0), (3, 0), (3, 0), (3, 0)]) (st' := []) rfl ?_
  exact t_M_qPartTold_L2 (T := T) (xs := xs) (y := y) hd ho0 H HY
set_option maxRecDepth 20000 in
noncomputable def M_qIsBracket_p16   : Option Int := some 0
set_option maxRecDepth 20000 in
theorem t_M_qIsBracket_p16 {T : jT} {xs : List Int} {d : Nat} {y : jV × jS} (hd : 0 ≤ d) {h : jH}   {out : Int}  (H : M_qIsBracket_p16 = some out) (HY : ykIp T h y out) : jEv xs d (233, 16, [(3, 0)], []) (T, h) y := by
  unfold M_qIsBracket_p16 at H
  refine jEv.blk [(.iconst 0, 1, [])] (by decide +kernel) (pc' := 17) (ls' := [(3, 0)]) (st' := [(0, 0)]) rfl ?_
  exact jEv.retZ (show jfI 233 17 (.ireturn) 1 [] = true by decide +kernel) (by decide +kernel) (by decide) (by cases H; exact HY)
set_option maxRecDepth 20000 in
noncomputable def M_qIsBracket  (v0 : Int) : Option Int := (if v0 < 20 then M_qIsBracket_p16 else (if 24 < v0 then M_qIsBracket_p16 else some 1))
set_option maxRecDepth 20000 in
theorem t_M_qIsBracket {T : jT} {xs : List Int} {h : jH}  {v0 : Int} {out : Int}  (H : M_qIsBracket v0 = some out) : jEm xs 1 233 [(0, v0)] (T, h) ((0, out), (T, h)) := by
  have hd : 0 ≤ 0 := Nat.le_refl _
  obtain ⟨y, ey⟩ : ∃ y : jV × jS, y = ((0, out), (T, h)) := ⟨_, rfl⟩
  rw [← ey]
  have HY : ykIp T h y out := ey
  refine jEm.ent (n := 1) (by decide +kernel) (Nat.le_of_ble_eq_true rfl) ?_
  show jEv xs 0 (233, 0, [(0, v0)], []) (T, h) y
  unfold M_qIsBracket at H
  refine jEv.blk [(.iload_n 0, 1, []), (.bipush 20, 2, [])] (by decide +kernel) (pc' := 3) (ls' := [(0, v0)]) (st' := [(0, 20), (0, v0)]) rfl ?_
  refine jEv.ic_lt (t := 16) (show jfI 233 3 (.if_icmp .lt 13) 3 [] = true by decide +kernel) rfl H (fun c1 H => ?_) (fun c1 H => ?_)
  · exact jEv.weak (a := [(3, 0)]) (jles.c0 jles.nl) (t_M_qIsBracket_p16 (T := T) (xs := xs) (y := y) hd H HY)
  · refine jEv.blk [(.iload_n 0, 1, []), (.bipush 24, 2, [])] (by decide +kernel) (pc' := 9) (ls' := [(0, v0)]) (st' := [(0, 24), (0, v0)]) rfl ?_
    refine jEv.ic_gt (t := 16) (show jfI 233 9 (.if_icmp .gt 7) 3 [] = true by decide +kernel) rfl H (fun c2 H => ?_) (fun c2 H => ?_)
    · exact jEv.weak (a := [(3, 0)]) (jles.c0 jles.nl) (t_M_qIsBracket_p16 (T := T) (xs := xs) (y := y) hd H HY)
    · refine jEv.blk [(.iconst 1, 1, [])] (by decide +kernel) (pc' := 13) (ls' := [(0, v0)]) (st' := [(0, 1)]) rfl ?_
      refine jEv.goto (t := 17) (show jfI 233 13 (.goto 4) 3 [] = true by decide +kernel) rfl ?_
      exact jEv.retZ (show jfI 233 17 (.ireturn) 1 [] = true by decide +kernel) (by decide +kernel) (by decide) (by cases H; exact HY)
def yk_M_qBracket_L7 (T : jT) (xs : List Int) (d : Nat) (y : jV × jS) (h : jH)  (o0 : Nat) : (Int ⊕ Int) → Prop
  | .inl v1 => jEv xs d (232, 7, [(2, Int.ofNat o0), (0, v1)], []) (T, h) y
  | .inr o => ykIp T h y o
set_option maxRecDepth 20000 in
noncomputable def M_qBracket_p33  (h : jH) (o0 : Nat) (v1 : Int) : Option Int := (if v1 < (h o0 103) then some (-1) else (if (0 : Int) ≤ v1 ∧ (v1 : Int).toNat < 1700 then some (h (o0 + 66) (v1 : Int).toNat) else none))
set_option maxRecDepth 20000 in
theorem t_M_qBracket_p33 {T : jT} {xs : List Int} {d : Nat} {y : jV × jS} (hd : 1 ≤ d) {h : jH}  {o0 : Nat} {v1 : Int} {out : Int} (ho0 : isX12 T o0) (H : M_qBracket_p33 h o0 v1 = some out) (HY : ykIp T h y out) : jEv xs d (232, 33, [(2, Int.ofNat o0), (0, v1)], []) (T, h) y := by
  unfold M_qBracket_p33 at H
  refine jEv.blk [(.iload_n 1, 1, []), (.aload_n 0, 1, [])] (by decide +kernel) (pc' := 35) (ls' := [(2, Int.ofNat o0), (0, v1)]) (st' := [(2, Int.ofNat o0), (0, v1)]) rfl ?_
  refine jEv.gfI (show jfI 232 35 (.getfield 303) 3 [12, 103, 0, 0, 7139] = true by decide +kernel) (isX12_L ho0) (by decide) ?_
  refine jEv.ic_lt (t := 50) (show jfI 232 38 (.if_icmp .lt 12) 3 [] = true by decide +kernel) rfl H (fun c5 H => ?_) (fun c5 H => ?_)
  · refine jEv.blk [(.iconst (-1), 1, [])] (by decide +kernel) (pc' := 51) (ls' := [(2, Int.ofNat o0), (0, v1)]) (st' := [(0, (-1))]) rfl ?_
    exact jEv.retI (show jfI 232 51 (.ireturn) 1 [] = true by decide +kernel) (by decide +kernel) (by cases H; exact HY)
  · refine jEv.blk [(.aload_n 0, 1, [])] (by decide +kernel) (pc' := 42) (ls' := [(2, Int.ofNat o0), (0, v1)]) (st' := [(2, Int.ofNat o0)]) rfl ?_
    refine jEv.gfR (o' := (o0 + 66)) (show jfI 232 42 (.getfield 219) 3 [12, 100, 5, 0, 7136] = true by decide +kernel) (isX12_L ho0) (by decide) (isX12_r100 ho0) ?_
    refine jEv.blk [(.iload_n 1, 1, [])] (by decide +kernel) (pc' := 46) (ls' := [(2, Int.ofNat o0), (0, v1)]) (st' := [(0, v1), (2, Int.ofNat (o0 + 66))]) rfl ?_
    refine jEv.ald (Or.inl ⟨rfl, rfl, rfl⟩) (show jfI 232 46 (.iaload) 1 [] = true by decide +kernel) (isX12_a100 ho0) H (fun c6 H => ?_)
    refine jEv.goto (t := 51) (show jfI 232 47 (.goto 4) 3 [] = true by decide +kernel) rfl ?_
    exact jEv.retI (show jfI 232 51 (.ireturn) 1 [] = true by decide +kernel) (by decide +kernel) (by cases H; exact HY)
set_option maxRecDepth 20000 in
noncomputable def M_qBracket_B7  (h : jH) (o0 : Nat) (v1 : Int) : Option (Int ⊕ Int) := (if v1 < (h o0 103) then Option.map Sum.inr (M_qBracket_p33 h o0 v1) else (if (0 : Int) ≤ v1 ∧ (v1 : Int).toNat < 1700 then Option.bind (M_qIsBracket (h (o0 + 66) (v1 : Int).toNat)) (fun b3 => (if b3 = 0 then some (.inl ((wr (v1 + (-1))))) else Option.map Sum.inr (M_qBracket_p33 h o0 v1))) else none))
noncomputable def M_qBracket_L7  (h : jH) (o0 : Nat) (v1 : Int) : Option Int := jloop (fun s : Int => M_qBracket_B7 h o0 s) (v1)
set_option maxRecDepth 20000 in
theorem t_M_qBracket_B7 {T : jT} {xs : List Int} {d : Nat} {y : jV × jS} (hd : 1 ≤ d) {h : jH}  {o0 : Nat} {v1 : Int} {out : (Int ⊕ Int)} (ho0 : isX12 T o0) (H : M_qBracket_B7 h o0 v1 = some out) (HY : yk_M_qBracket_L7 T xs d y h o0 out) : jEv xs d (232, 7, [(2, Int.ofNat o0), (0, v1)], []) (T, h) y := by
  unfold M_qBracket_B7 at H
  refine jEv.blk [(.iload_n 1, 1, []), (.aload_n 0, 1, [])] (by decide +kernel) (pc' := 9) (ls' := [(2, Int.ofNat o0), (0, v1)]) (st' := [(2, Int.ofNat o0), (0, v1)]) rfl ?_
  refine jEv.gfI (show jfI 232 9 (.getfield 303) 3 [12, 103, 0, 0, 7139] = true by decide +kernel) (isX12_L ho0) (by decide) ?_
  refine jEv.ic_lt (t := 33) (show jfI 232 12 (.if_icmp .lt 21) 3 [] = true by decide +kernel) rfl H (fun c1 H => ?_) (fun c1 H => ?_)
  · refine jmapr H HY (fun out H (HY : ykIp T h y out) => ?_)
    exact t_M_qBracket_p33 (T := T) (xs := xs) (y := y) hd ho0 H HY
  · refine jEv.blk [(.aload_n 0, 1, [])] (by decide +kernel) (pc' := 16) (ls' := [(2, Int.ofNat o0), (0, v1)]) (st' := [(2, Int.ofNat o0)]) rfl ?_
    refine jEv.gfR (o' := (o0 + 66)) (show jfI 232 16 (.getfield 219) 3 [12, 100, 5, 0, 7136] = true by decide +kernel) (isX12_L ho0) (by decide) (isX12_r100 ho0) ?_
    refine jEv.blk [(.iload_n 1, 1, [])] (by decide +kernel) (pc' := 20) (ls' := [(2, Int.ofNat o0), (0, v1)]) (st' := [(0, v1), (2, Int.ofNat (o0 + 66))]) rfl ?_
    refine jEv.ald (Or.inl ⟨rfl, rfl, rfl⟩) (show jfI 232 20 (.iaload) 1 [] = true by decide +kernel) (isX12_a100 ho0) H (fun c2 H => ?_)
    refine jbind H (fun b3 Hb3 H => ?_)
    refine jEv.calS (st' := [(0, b3)]) (show jfI 232 21 (.invokestatic 659) 3 [3, 233, 1, 9015] = true by decide +kernel) rfl (Or.inl rfl) rfl (Nat.le_of_ble_eq_true rfl) ((t_M_qIsBracket (T := T) (xs := xs)  Hb3).mono (jKle 1 hd)) rfl ?_
    refine jEv.if_ne (t := 33) (show jfI 232 24 (.ifCond .ne 9) 3 [] = true by decide +kernel) rfl H (fun c4 H => ?_) (fun c4 H => ?_)
    · refine jEv.blk [(.iinc 1 (-1), 3, [])] (by decide +kernel) (pc' := 30) (ls' := [(2, Int.ofNat o0), (0, (wr (v1 + (-1))))]) (st' := []) rfl ?_
      refine jEv.goto (t := 7) (show jfI 232 30 (.goto (-23)) 3 [] = true by decide +kernel) rfl ?_
      exact (by cases H; exact HY)
    · refine jmapr H HY (fun out H (HY : ykIp T h y out) => ?_)
      exact t_M_qBracket_p33 (T := T) (xs := xs) (y := y) hd ho0 H HY
theorem t_M_qBracket_L7 {T : jT} {xs : List Int} {d : Nat} {y : jV × jS} (hd : 1 ≤ d) {h : jH}  {o0 : Nat} {v1 : Int} {out : Int} (ho0 : isX12 T o0) (H : M_qBracket_L7 h o0 v1 = some out) (HY : ykIp T h y out) : jEv xs d (232, 7, [(2, Int.ofNat o0), (0, v1)], []) (T, h) y :=
  jloop_sound (G := fun s : Int => jEv xs d (232, 7, [(2, Int.ofNat o0), (0, s)], []) (T, h) y) (K := yk_M_qBracket_L7 T xs d y h o0) (fun s out H HY => t_M_qBracket_B7 hd ho0 H HY) (fun s' hg => hg) (s := (v1)) H HY
set_option maxRecDepth 20000 in
noncomputable def M_qBracket  (h : jH) (o0 : Nat) : Option Int := M_qBracket_L7 h o0 (wr ((h o0 101) - 1))
set_option maxRecDepth 20000 in
theorem t_M_qBracket {T : jT} {xs : List Int} {h : jH}  {o0 : Nat} {out : Int} (ho0 : isX12 T o0) (H : M_qBracket h o0 = some out) : jEm xs 2 232 [(2, Int.ofNat o0)] (T, h) ((0, out), (T, h)) := by
  have hd : 1 ≤ 1 := Nat.le_refl _
  obtain ⟨y, ey⟩ : ∃ y : jV × jS, y = ((0, out), (T, h)) := ⟨_, rfl⟩
  rw [← ey]
  have HY : ykIp T h y out := ey
  refine jEm.ent (n := 2) (by decide +kernel) (Nat.le_of_ble_eq_true rfl) ?_
  show jEv xs 1 (232, 0, [(2, Int.ofNat o0), (3, 0)], []) (T, h) y
  unfold M_qBracket at H
  refine jEv.blk [(.aload_n 0, 1, [])] (by decide +kernel) (pc' := 1) (ls' := [(2, Int.ofNat o0), (3, 0)]) (st' := [(2, Int.ofNat o0)]) rfl ?_
  refine jEv.gfI (show jfI 232 1 (.getfield 297) 3 [12, 101, 0, 0, 7137] = true by decide +kernel) (isX12_L ho0) (by decide) ?_
  refine jEv.blk [(.iconst 1, 1, []), (.isub, 1, []), (.istore_n 1, 1, [])] (by decide +kernel) (pc' := 7) (ls' := [(2, Int.ofNat o0), (0, (wr ((h o0 101) - 1)))]) (st' := []) rfl ?_
  exact t_M_qBracket_L7 (T := T) (xs := xs) (y := y) hd ho0 H HY
def yk_M_qDropsToBracket_L0 (T : jT) (xs : List Int) (d : Nat) (y : jV × jS)  (o0 : Nat) : (jH ⊕ jH) → Prop
  | .inl h => jEv xs d (234, 0, [(2, Int.ofNat o0)], []) (T, h) y
  | .inr o => ykV T y o
set_option maxRecDepth 20000 in
noncomputable def M_qDropsToBracket_B0  (h : jH) (o0 : Nat) : Option (jH ⊕ jH) := (if (h o0 103) < (h o0 101) then (if (0 : Int) ≤ (wr ((h o0 101) - 1)) ∧ ((wr ((h o0 101) - 1)) : Int).toNat < 1700 then Option.bind (M_qIsBracket (h (o0 + 66) ((wr ((h o0 101) - 1)) : Int).toNat)) (fun b3 => (if b3 = 0 then Option.bind (M_qDrops h o0) (fun b5 => some (.inl (b5))) else Option.map Sum.inr (some h))) else none) else Option.map Sum.inr (some h))
noncomputable def M_qDropsToBracket_L0  (h : jH) (o0 : Nat) : Option jH := jloop (fun s : jH => M_qDropsToBracket_B0 s o0) (h)
set_option maxRecDepth 20000 in
theorem t_M_qDropsToBracket_B0 {T : jT} {xs : List Int} {d : Nat} {y : jV × jS} (hd : 2 ≤ d) {h : jH}  {o0 : Nat} {out : (jH ⊕ jH)} (ho0 : isX12 T o0) (H : M_qDropsToBracket_B0 h o0 = some out) (HY : yk_M_qDropsToBracket_L0 T xs d y o0 out) : jEv xs d (234, 0, [(2, Int.ofNat o0)], []) (T, h) y := by
  unfold M_qDropsToBracket_B0 at H
  refine jEv.blk [(.aload_n 0, 1, [])] (by decide +kernel) (pc' := 1) (ls' := [(2, Int.ofNat o0)]) (st' := [(2, Int.ofNat o0)]) rfl ?_
  refine jEv.gfI (show jfI 234 1 (.getfield 297) 3 [12, 101, 0, 0, 7137] = true by decide +kernel) (isX12_L ho0) (by decide) ?_
  refine jEv.blk [(.aload_n 0, 1, [])] (by decide +kernel) (pc' := 5) (ls' := [(2, Int.ofNat o0)]) (st' := [(2, Int.ofNat o0), (0, (h o0 101))]) rfl ?_
  refine jEv.gfI (show jfI 234 5 (.getfield 303) 3 [12, 103, 0, 0, 7139] = true by decide +kernel) (isX12_L ho0) (by decide) ?_
  refine jEv.ic_le (t := 35) (show jfI 234 8 (.if_icmp .le 27) 3 [] = true by decide +kernel) rfl H (fun c1 H => ?_) (fun c1 H => ?_)
  · refine jEv.blk [(.aload_n 0, 1, [])] (by decide +kernel) (pc' := 12) (ls' := [(2, Int.ofNat o0)]) (st' := [(2, Int.ofNat o0)]) rfl ?_
    refine jEv.gfR (o' := (o0 + 66)) (show jfI 234 12 (.getfield 219) 3 [12, 100, 5, 0, 7136] = true by decide +kernel) (isX12_L ho0) (by decide) (isX12_r100 ho0) ?_
    refine jEv.blk [(.aload_n 0, 1, [])] (by decide +kernel) (pc' := 16) (ls' := [(2, Int.ofNat o0)]) (st' := [(2, Int.ofNat o0), (2, Int.ofNat (o0 + 66))]) rfl ?_
    refine jEv.gfI (show jfI 234 16 (.getfield 297) 3 [12, 101, 0, 0, 7137] = true by decide +kernel) (isX12_L ho0) (by decide) ?_
    refine jEv.blk [(.iconst 1, 1, []), (.isub, 1, [])] (by decide +kernel) (pc' := 21) (ls' := [(2, Int.ofNat o0)]) (st' := [(0, (wr ((h o0 101) - 1))), (2, Int.ofNat (o0 + 66))]) rfl ?_
    refine jEv.ald (Or.inl ⟨rfl, rfl, rfl⟩) (show jfI 234 21 (.iaload) 1 [] = true by decide +kernel) (isX12_a100 ho0) H (fun c2 H => ?_)
    refine jbind H (fun b3 Hb3 H => ?_)
    refine jEv.calS (st' := [(0, b3)]) (show jfI 234 22 (.invokestatic 659) 3 [3, 233, 1, 9015] = true by decide +kernel) rfl (Or.inl rfl) rfl (Nat.le_of_ble_eq_true rfl) ((t_M_qIsBracket (T := T) (xs := xs)  Hb3).mono (jKle 1 hd)) rfl ?_
    refine jEv.if_ne (t := 35) (show jfI 234 25 (.ifCond .ne 10) 3 [] = true by decide +kernel) rfl H (fun c4 H => ?_) (fun c4 H => ?_)
    · refine jEv.blk [(.aload_n 0, 1, [])] (by decide +kernel) (pc' := 29) (ls' := [(2, Int.ofNat o0)]) (st' := [(2, Int.ofNat o0)]) rfl ?_
      refine jbind H (fun b5 Hb5 H => ?_)
      refine jEv.calV (st' := []) (show jfI 234 29 (.invokevirtual 662) 3 [1, 230, 0, 9003] = true by decide +kernel) rfl (Or.inl rfl) rfl (Nat.le_of_ble_eq_true rfl) (by decide +kernel) (by decide) (isX12_L ho0) ((t_M_qDrops (T := T) (xs := xs) ho0 Hb5).mono (jKle 2 hd)) rfl ?_
      refine jEv.goto (t := 0) (show jfI 234 32 (.goto (-32)) 3 [] = true by decide +kernel) rfl ?_
      exact (by cases H; exact HY)
    · refine jmapr H HY (fun out H (HY : ykV T y out) => ?_)
      exact jEv.retV (show jfI 234 35 (.return_) 1 [] = true by decide +kernel) (by decide +kernel) (by cases H; exact HY)
  · refine jmapr H HY (fun out H (HY : ykV T y out) => ?_)
    exact jEv.retV (show jfI 234 35 (.return_) 1 [] = true by decide +kernel) (by decide +kernel) (by cases H; exact HY)
theorem t_M_qDropsToBracket_L0 {T : jT} {xs : List Int} {d : Nat} {y : jV × jS} (hd : 2 ≤ d) {h : jH}  {o0 : Nat} {out : jH} (ho0 : isX12 T o0) (H : M_qDropsToBracket_L0 h o0 = some out) (HY : ykV T y out) : jEv xs d (234, 0, [(2, Int.ofNat o0)], []) (T, h) y :=
  jloop_sound (G := fun s : jH => jEv xs d (234, 0, [(2, Int.ofNat o0)], []) (T, s) y) (K := yk_M_qDropsToBracket_L0 T xs d y o0) (fun s out H HY => t_M_qDropsToBracket_B0 hd ho0 H HY) (fun s' hg => hg) (s := (h)) H HY
set_option maxRecDepth 20000 in
noncomputable def M_qDropsToBracket  (h : jH) (o0 : Nat) : Option jH := M_qDropsToBracket_L0 h o0
set_option maxRecDepth 20000 in
theorem t_M_qDropsToBracket {T : jT} {xs : List Int} {h : jH}  {o0 : Nat} {out : jH} (ho0 : isX12 T o0) (H : M_qDropsToBracket h o0 = some out) : jEm xs 3 234 [(2, Int.ofNat o0)] (T, h) ((3, 0), (T, out)) := by
  have hd : 2 ≤ 2 := Nat.le_refl _
  obtain ⟨y, ey⟩ : ∃ y : jV × jS, y = ((3, 0), (T, out)) := ⟨_, rfl⟩
  rw [← ey]
  have HY : ykV T y out := ey
  refine jEm.ent (n := 1) (by decide +kernel) (Nat.le_of_ble_eq_true rfl) ?_
  show jEv xs 2 (234, 0, [(2, Int.ofNat o0)], []) (T, h) y
  unfold M_qDropsToBracket at H
  exact t_M_qDropsToBracket_L0 (T := T) (xs := xs) (y := y) hd ho0 H HY
set_option maxRecDepth 20000 in
noncomputable def M_qIsOn_p26  (h : jH)  : Option Int := some 0
set_option maxRecDepth 20000 in
theorem t_M_qIsOn_p26 {T : jT} {xs : List Int} {d : Nat} {y : jV × jS} (hd : 0 ≤ d) {h : jH}   {out : Int}  (H : M_qIsOn_p26 h = some out) (HY : ykIp T h y out) : jEv xs d (235, 26, [(3, 0), (3, 0)], []) (T, h) y := by
  unfold M_qIsOn_p26 at H
  refine jEv.blk [(.iconst 0, 1, [])] (by decide +kernel) (pc' := 27) (ls' := [(3, 0), (3, 0)]) (st' := [(0, 0)]) rfl ?_
  exact jEv.retZ (show jfI 235 27 (.ireturn) 1 [] = true by decide +kernel) (by decide +kernel) (by decide) (by cases H; exact HY)
set_option maxRecDepth 20000 in
noncomputable def M_qIsOn  (h : jH) (o0 : Nat) (v1 : Int) : Option Int := (if 0 < (h o0 101) then (if (0 : Int) ≤ (wr ((h o0 101) - 1)) ∧ ((wr ((h o0 101) - 1)) : Int).toNat < 1700 then (if (h (o0 + 66) ((wr ((h o0 101) - 1)) : Int).toNat) = v1 then some 1 else M_qIsOn_p26 h) else none) else M_qIsOn_p26 h)
set_option maxRecDepth 20000 in
theorem t_M_qIsOn {T : jT} {xs : List Int} {h : jH}  {o0 : Nat} {v1 : Int} {out : Int} (ho0 : isX12 T o0) (H : M_qIsOn h o0 v1 = some out) : jEm xs 1 235 [(2, Int.ofNat o0), (0, v1)] (T, h) ((0, out), (T, h)) := by
  have hd : 0 ≤ 0 := Nat.le_refl _
  obtain ⟨y, ey⟩ : ∃ y : jV × jS, y = ((0, out), (T, h)) := ⟨_, rfl⟩
  rw [← ey]
  have HY : ykIp T h y out := ey
  refine jEm.ent (n := 2) (by decide +kernel) (Nat.le_of_ble_eq_true rfl) ?_
  show jEv xs 0 (235, 0, [(2, Int.ofNat o0), (0, v1)], []) (T, h) y
  unfold M_qIsOn at H
  refine jEv.blk [(.aload_n 0, 1, [])] (by decide +kernel) (pc' := 1) (ls' := [(2, Int.ofNat o0), (0, v1)]) (st' := [(2, Int.ofNat o0)]) rfl ?_
  refine jEv.gfI (show jfI 235 1 (.getfield 297) 3 [12, 101, 0, 0, 7137] = true by decide +kernel) (isX12_L ho0) (by decide) ?_
  refine jEv.if_le (t := 26) (show jfI 235 4 (.ifCond .le 22) 3 [] = true by decide +kernel) rfl H (fun c1 H => ?_) (fun c1 H => ?_)
  · refine jEv.blk [(.aload_n 0, 1, [])] (by decide +kernel) (pc' := 8) (ls' := [(2, Int.ofNat o0), (0, v1)]) (st' := [(2, Int.ofNat o0)]) rfl ?_
    refine jEv.gfR (o' := (o0 + 66)) (show jfI 235 8 (.getfield 219) 3 [12, 100, 5, 0, 7136] = true by decide +kernel) (isX12_L ho0) (by decide) (isX12_r100 ho0) ?_
    refine jEv.blk [(.aload_n 0, 1, [])] (by decide +kernel) (pc' := 12) (ls' := [(2, Int.ofNat o0), (0, v1)]) (st' := [(2, Int.ofNat o0), (2, Int.ofNat (o0 + 66))]) rfl ?_
    refine jEv.gfI (show jfI 235 12 (.getfield 297) 3 [12, 101, 0, 0, 7137] = true by decide +kernel) (isX12_L ho0) (by decide) ?_
    refine jEv.blk [(.iconst 1, 1, []), (.isub, 1, [])] (by decide +kernel) (pc' := 17) (ls' := [(2, Int.ofNat o0), (0, v1)]) (st' := [(0, (wr ((h o0 101) - 1))), (2, Int.ofNat (o0 + 66))]) rfl ?_
    refine jEv.ald (Or.inl ⟨rfl, rfl, rfl⟩) (show jfI 235 17 (.iaload) 1 [] = true by decide +kernel) (isX12_a100 ho0) H (fun c2 H => ?_)
    refine jEv.blk [(.iload_n 1, 1, [])] (by decide +kernel) (pc' := 19) (ls' := [(2, Int.ofNat o0), (0, v1)]) (st' := [(0, v1), (0, (h (o0 + 66) ((wr ((h o0 101) - 1)) : Int).toNat))]) rfl ?_
    refine jEv.ic_ne (t := 26) (show jfI 235 19 (.if_icmp .ne 7) 3 [] = true by decide +kernel) rfl H (fun c3 H => ?_) (fun c3 H => ?_)
    · refine jEv.blk [(.iconst 1, 1, [])] (by decide +kernel) (pc' := 23) (ls' := [(2, Int.ofNat o0), (0, v1)]) (st' := [(0, 1)]) rfl ?_
      refine jEv.goto (t := 27) (show jfI 235 23 (.goto 4) 3 [] = true by decide +kernel) rfl ?_
      exact jEv.retZ (show jfI 235 27 (.ireturn) 1 [] = true by decide +kernel) (by decide +kernel) (by decide) (by cases H; exact HY)
    · exact jEv.weak (a := [(3, 0), (3, 0)]) (jles.c0 (jles.c0 jles.nl)) (t_M_qIsOn_p26 (T := T) (xs := xs) (y := y) hd H HY)
  · exact jEv.weak (a := [(3, 0), (3, 0)]) (jles.c0 (jles.c0 jles.nl)) (t_M_qIsOn_p26 (T := T) (xs := xs) (y := y) hd H HY)
def yk_M_qGoesOn_L247 (T : jT) (xs : List Int) (d : Nat) (y : jV × jS)  (o0 : Nat) (v1 : Int) : (jH ⊕ (Int × jH)) → Prop
  | .inl h => jEv xs d (231, 247, [(2, Int.ofNat o0), (0, v1)], []) (T, h) y
  | .inr o => ykI T y o
def yk_M_qGoesOn_L162 (T : jT) (xs : List Int) (d : Nat) (y : jV × jS)  (o0 : Nat) (v1 : Int) : (jH ⊕ (Int × jH)) → Prop
  | .inl h => jEv xs d (231, 162, [(2, Int.ofNat o0), (0, v1)], []) (T, h) y
  | .inr o => ykI T y o
def yk_M_qGoesOn_L0 (T : jT) (xs : List Int) (d : Nat) (y : jV × jS)  (o0 : Nat) : (jH ⊕ (Int × jH)) → Prop
  | .inl h => jEv xs d (231, 0, [(2, Int.ofNat o0), (3, 0)], []) (T, h) y
  | .inr o => ykI T y o
set_option maxRecDepth 20000 in
noncomputable def M_qGoesOn_p115  (h : jH) (o0 : Nat) : Option (jH ⊕ (Int × jH)) := Option.bind (M_qEndsPart h o0) (fun b15 => some (.inl (b15)))
set_option maxRecDepth 20000 in
theorem t_M_qGoesOn_p115 {T : jT} {xs : List Int} {d : Nat} {y : jV × jS} (hd : 3 ≤ d) {h : jH}  {o0 : Nat} {out : (jH ⊕ (Int × jH))} (ho0 : isX12 T o0) (H : M_qGoesOn_p115 h o0 = some out) (HY : yk_M_qGoesOn_L0 T xs d y o0 out) : jEv xs d (231, 115, [(2, Int.ofNat o0), (3, 0)], []) (T, h) y := by
  unfold M_qGoesOn_p115 at H
  refine jEv.blk [(.aload_n 0, 1, [])] (by decide +kernel) (pc' := 116) (ls' := [(2, Int.ofNat o0), (3, 0)]) (st' := [(2, Int.ofNat o0)]) rfl ?_
  refine jbind H (fun b15 Hb15 H => ?_)
  refine jEv.calV (st' := []) (show jfI 231 116 (.invokevirtual 680) 3 [1, 229, 0, 8239] = true by decide +kernel) rfl (Or.inl rfl) rfl (Nat.le_of_ble_eq_true rfl) (by decide +kernel) (by decide) (isX12_L ho0) ((t_M_qEndsPart (T := T) (xs := xs) ho0 Hb15).mono (jKle 3 hd)) rfl ?_
  refine jEv.goto (t := 0) (show jfI 231 119 (.goto (-119)) 3 [] = true by decide +kernel) rfl ?_
  exact (by cases H; exact HY)
set_option maxRecDepth 20000 in
noncomputable def M_qGoesOn_p112  (h : jH) (o0 : Nat) (os0 : Nat) (vs1 : Int) : Option (jH ⊕ (Int × jH)) := Option.bind (M_qCode h os0 vs1) (fun b16 => M_qGoesOn_p115 b16 o0)
set_option maxRecDepth 20000 in
theorem t_M_qGoesOn_p112 {T : jT} {xs : List Int} {d : Nat} {y : jV × jS} (hd : 3 ≤ d) {h : jH}  {o0 : Nat} {os0 : Nat} {vs1 : Int} {out : (jH ⊕ (Int × jH))} (ho0 : isX12 T o0) (hos0 : isX12 T os0) (H : M_qGoesOn_p112 h o0 os0 vs1 = some out) (HY : yk_M_qGoesOn_L0 T xs d y o0 out) : jEv xs d (231, 112, [(2, Int.ofNat o0), (3, 0)], [(0, vs1), (2, Int.ofNat os0)]) (T, h) y := by
  unfold M_qGoesOn_p112 at H
  refine jbind H (fun b16 Hb16 H => ?_)
  refine jEv.calV (st' := []) (show jfI 231 112 (.invokevirtual 656) 3 [1, 222, 1, 8211] = true by decide +kernel) rfl (Or.inl rfl) rfl (Nat.le_of_ble_eq_true rfl) (by decide +kernel) (by decide) (isX12_L hos0) ((t_M_qCode (T := T) (xs := xs) hos0 Hb16).mono (jKle 1 hd)) rfl ?_
  exact t_M_qGoesOn_p115 (T := T) (xs := xs) (y := y) hd ho0 H HY
set_option maxRecDepth 20000 in
noncomputable def M_qGoesOn_p43  (h : jH) (o0 : Nat) : Option (jH ⊕ (Int × jH)) := Option.bind (M_qDropsToBracket (jup h o0 2 (wr ((h o0 2) + 1))) o0) (fun b10 => (if (0 : Int) ≤ ((jup (jup b10 o0 101 (wr ((b10 o0 101) - 1))) o0 102 (wr (((jup b10 o0 101 (wr ((b10 o0 101) - 1))) o0 102) - 1))) o0 101) ∧ (((jup (jup b10 o0 101 (wr ((b10 o0 101) - 1))) o0 102 (wr (((jup b10 o0 101 (wr ((b10 o0 101) - 1))) o0 102) - 1))) o0 101) : Int).toNat < 1700 then (if ((jup (jup b10 o0 101 (wr ((b10 o0 101) - 1))) o0 102 (wr (((jup b10 o0 101 (wr ((b10 o0 101) - 1))) o0 102) - 1))) (o0 + 66) (((jup (jup b10 o0 101 (wr ((b10 o0 101) - 1))) o0 102 (wr (((jup b10 o0 101 (wr ((b10 o0 101) - 1))) o0 102) - 1))) o0 101) : Int).toNat) = 20 then M_qGoesOn_p115 (jup (jup b10 o0 101 (wr ((b10 o0 101) - 1))) o0 102 (wr (((jup b10 o0 101 (wr ((b10 o0 101) - 1))) o0 102) - 1))) o0 else (if (0 : Int) ≤ ((jup (jup b10 o0 101 (wr ((b10 o0 101) - 1))) o0 102 (wr (((jup b10 o0 101 (wr ((b10 o0 101) - 1))) o0 102) - 1))) o0 101) ∧ (((jup (jup b10 o0 101 (wr ((b10 o0 101) - 1))) o0 102 (wr (((jup b10 o0 101 (wr ((b10 o0 101) - 1))) o0 102) - 1))) o0 101) : Int).toNat < 1700 then (if ((jup (jup b10 o0 101 (wr ((b10 o0 101) - 1))) o0 102 (wr (((jup b10 o0 101 (wr ((b10 o0 101) - 1))) o0 102) - 1))) (o0 + 66) (((jup (jup b10 o0 101 (wr ((b10 o0 101) - 1))) o0 102 (wr (((jup b10 o0 101 (wr ((b10 o0 101) - 1))) o0 102) - 1))) o0 101) : Int).toNat) = 23 then M_qGoesOn_p112 (jup (jup b10 o0 101 (wr ((b10 o0 101) - 1))) o0 102 (wr (((jup b10 o0 101 (wr ((b10 o0 101) - 1))) o0 102) - 1))) o0 o0 5 else M_qGoesOn_p112 (jup (jup b10 o0 101 (wr ((b10 o0 101) - 1))) o0 102 (wr (((jup b10 o0 101 (wr ((b10 o0 101) - 1))) o0 102) - 1))) o0 o0 6) else none)) else none))
set_option maxRecDepth 20000 in
theorem t_M_qGoesOn_p43 {T : jT} {xs : List Int} {d : Nat} {y : jV × jS} (hd : 3 ≤ d) {h : jH}  {o0 : Nat} {out : (jH ⊕ (Int × jH))} (ho0 : isX12 T o0) (H : M_qGoesOn_p43 h o0 = some out) (HY : yk_M_qGoesOn_L0 T xs d y o0 out) : jEv xs d (231, 43, [(2, Int.ofNat o0), (3, 0)], []) (T, h) y := by
  unfold M_qGoesOn_p43 at H
  refine jEv.blk [(.aload_n 0, 1, []), (.dup, 1, [])] (by decide +kernel) (pc' := 45) (ls' := [(2, Int.ofNat o0), (3, 0)]) (st' := [(2, Int.ofNat o0), (2, Int.ofNat o0)]) rfl ?_
  refine jEv.gfI (show jfI 231 45 (.getfield 238) 3 [12, 2, 0, 0, 7038] = true by decide +kernel) (isX12_L ho0) (by decide) ?_
  refine jEv.blk [(.iconst 1, 1, []), (.iadd, 1, [])] (by decide +kernel) (pc' := 50) (ls' := [(2, Int.ofNat o0), (3, 0)]) (st' := [(0, (wr ((h o0 2) + 1))), (2, Int.ofNat o0)]) rfl ?_
  refine jEv.pfI (show jfI 231 50 (.putfield 238) 3 [12, 2, 0, 0, 7038] = true by decide +kernel) (isX12_L ho0) (by decide) ?_
  refine jEv.blk [(.aload_n 0, 1, [])] (by decide +kernel) (pc' := 54) (ls' := [(2, Int.ofNat o0), (3, 0)]) (st' := [(2, Int.ofNat o0)]) rfl ?_
  refine jbind H (fun b10 Hb10 H => ?_)
  refine jEv.calV (st' := []) (show jfI 231 54 (.invokevirtual 686) 3 [1, 234, 0, 9018] = true by decide +kernel) rfl (Or.inl rfl) rfl (Nat.le_of_ble_eq_true rfl) (by decide +kernel) (by decide) (isX12_L ho0) ((t_M_qDropsToBracket (T := T) (xs := xs) ho0 Hb10).mono (jKle 3 hd)) rfl ?_
  refine jEv.blk [(.aload_n 0, 1, []), (.dup, 1, [])] (by decide +kernel) (pc' := 59) (ls' := [(2, Int.ofNat o0), (3, 0)]) (st' := [(2, Int.ofNat o0), (2, Int.ofNat o0)]) rfl ?_
  refine jEv.gfI (show jfI 231 59 (.getfield 297) 3 [12, 101, 0, 0, 7137] = true by decide +kernel) (isX12_L ho0) (by decide) ?_
  refine jEv.blk [(.iconst 1, 1, []), (.isub, 1, [])] (by decide +kernel) (pc' := 64) (ls' := [(2, Int.ofNat o0), (3, 0)]) (st' := [(0, (wr ((b10 o0 101) - 1))), (2, Int.ofNat o0)]) rfl ?_
  refine jEv.pfI (show jfI 231 64 (.putfield 297) 3 [12, 101, 0, 0, 7137] = true by decide +kernel) (isX12_L ho0) (by decide) ?_
  refine jEv.blk [(.aload_n 0, 1, []), (.dup, 1, [])] (by decide +kernel) (pc' := 69) (ls' := [(2, Int.ofNat o0), (3, 0)]) (st' := [(2, Int.ofNat o0), (2, Int.ofNat o0)]) rfl ?_
  refine jEv.gfI (show jfI 231 69 (.getfield 300) 3 [12, 102, 0, 0, 7138] = true by decide +kernel) (isX12_L ho0) (by decide) ?_
  refine jEv.blk [(.iconst 1, 1, []), (.isub, 1, [])] (by decide +kernel) (pc' := 74) (ls' := [(2, Int.ofNat o0), (3, 0)]) (st' := [(0, (wr (((jup b10 o0 101 (wr ((b10 o0 101) - 1))) o0 102) - 1))), (2, Int.ofNat o0)]) rfl ?_
  refine jEv.pfI (show jfI 231 74 (.putfield 300) 3 [12, 102, 0, 0, 7138] = true by decide +kernel) (isX12_L ho0) (by decide) ?_
  refine jEv.blk [(.aload_n 0, 1, [])] (by decide +kernel) (pc' := 78) (ls' := [(2, Int.ofNat o0), (3, 0)]) (st' := [(2, Int.ofNat o0)]) rfl ?_
  refine jEv.gfR (o' := (o0 + 66)) (show jfI 231 78 (.getfield 219) 3 [12, 100, 5, 0, 7136] = true by decide +kernel) (isX12_L ho0) (by decide) (isX12_r100 ho0) ?_
  refine jEv.blk [(.aload_n 0, 1, [])] (by decide +kernel) (pc' := 82) (ls' := [(2, Int.ofNat o0), (3, 0)]) (st' := [(2, Int.ofNat o0), (2, Int.ofNat (o0 + 66))]) rfl ?_
  refine jEv.gfI (show jfI 231 82 (.getfield 297) 3 [12, 101, 0, 0, 7137] = true by decide +kernel) (isX12_L ho0) (by decide) ?_
  refine jEv.ald (Or.inl ⟨rfl, rfl, rfl⟩) (show jfI 231 85 (.iaload) 1 [] = true by decide +kernel) (isX12_a100 ho0) H (fun c11 H => ?_)
  refine jEv.blk [(.bipush 20, 2, [])] (by decide +kernel) (pc' := 88) (ls' := [(2, Int.ofNat o0), (3, 0)]) (st' := [(0, 20), (0, ((jup (jup b10 o0 101 (wr ((b10 o0 101) - 1))) o0 102 (wr (((jup b10 o0 101 (wr ((b10 o0 101) - 1))) o0 102) - 1))) (o0 + 66) (((jup (jup b10 o0 101 (wr ((b10 o0 101) - 1))) o0 102 (wr (((jup b10 o0 101 (wr ((b10 o0 101) - 1))) o0 102) - 1))) o0 101) : Int).toNat))]) rfl ?_
  refine jEv.ic_eq (t := 115) (show jfI 231 88 (.if_icmp .eq 27) 3 [] = true by decide +kernel) rfl H (fun c12 H => ?_) (fun c12 H => ?_)
  · exact t_M_qGoesOn_p115 (T := T) (xs := xs) (y := y) hd ho0 H HY
  · refine jEv.blk [(.aload_n 0, 1, []), (.aload_n 0, 1, [])] (by decide +kernel) (pc' := 93) (ls' := [(2, Int.ofNat o0), (3, 0)]) (st' := [(2, Int.ofNat o0), (2, Int.ofNat o0)]) rfl ?_
    refine jEv.gfR (o' := (o0 + 66)) (show jfI 231 93 (.getfield 219) 3 [12, 100, 5, 0, 7136] = true by decide +kernel) (isX12_L ho0) (by decide) (isX12_r100 ho0) ?_
    refine jEv.blk [(.aload_n 0, 1, [])] (by decide +kernel) (pc' := 97) (ls' := [(2, Int.ofNat o0), (3, 0)]) (st' := [(2, Int.ofNat o0), (2, Int.ofNat (o0 + 66)), (2, Int.ofNat o0)]) rfl ?_
    refine jEv.gfI (show jfI 231 97 (.getfield 297) 3 [12, 101, 0, 0, 7137] = true by decide +kernel) (isX12_L ho0) (by decide) ?_
    refine jEv.ald (Or.inl ⟨rfl, rfl, rfl⟩) (show jfI 231 100 (.iaload) 1 [] = true by decide +kernel) (isX12_a100 ho0) H (fun c13 H => ?_)
    refine jEv.blk [(.bipush 23, 2, [])] (by decide +kernel) (pc' := 103) (ls' := [(2, Int.ofNat o0), (3, 0)]) (st' := [(0, 23), (0, ((jup (jup b10 o0 101 (wr ((b10 o0 101) - 1))) o0 102 (wr (((jup b10 o0 101 (wr ((b10 o0 101) - 1))) o0 102) - 1))) (o0 + 66) (((jup (jup b10 o0 101 (wr ((b10 o0 101) - 1))) o0 102 (wr (((jup b10 o0 101 (wr ((b10 o0 101) - 1))) o0 102) - 1))) o0 101) : Int).toNat)), (2, Int.ofNat o0)]) rfl ?_
    refine jEv.ic_ne (t := 110) (show jfI 231 103 (.if_icmp .ne 7) 3 [] = true by decide +kernel) rfl H (fun c14 H => ?_) (fun c14 H => ?_)
    · refine jEv.blk [(.iconst 5, 1, [])] (by decide +kernel) (pc' := 107) (ls' := [(2, Int.ofNat o0), (3, 0)]) (st' := [(0, 5), (2, Int.ofNat o0)]) rfl ?_
      refine jEv.goto (t := 112) (show jfI 231 107 (.goto 5) 3 [] = true by decide +kernel) rfl ?_
      exact t_M_qGoesOn_p112 (T := T) (xs := xs) (y := y) hd ho0 ho0 H HY
    · refine jEv.blk [(.bipush 6, 2, [])] (by decide +kernel) (pc' := 112) (ls' := [(2, Int.ofNat o0), (3, 0)]) (st' := [(0, 6), (2, Int.ofNat o0)]) rfl ?_
      exact t_M_qGoesOn_p112 (T := T) (xs := xs) (y := y) hd ho0 ho0 H HY
set_option maxRecDepth 20000 in
noncomputable def M_qGoesOn_p326  (h : jH) (o0 : Nat) : Option (Int × jH) := Option.bind (M_asksSign h o0 44) (fun b33 => (if (b33 o0 5) = 0 then Option.bind (M_qDropsToBracket b33 o0) (fun b35 => (if (0 : Int) ≤ (wr ((b35 o0 101) - 1)) ∧ ((wr ((b35 o0 101) - 1)) : Int).toNat < 1700 then (if (0 : Int) ≤ (wr ((b35 o0 101) - 1)) ∧ ((wr ((b35 o0 101) - 1)) : Int).toNat < 1700 then some (1, (jup b35 (o0 + 66) ((wr ((b35 o0 101) - 1)) : Int).toNat (wr ((b35 (o0 + 66) ((wr ((b35 o0 101) - 1)) : Int).toNat) + 2)))) else none) else none)) else some (0, b33)))
set_option maxRecDepth 20000 in
theorem t_M_qGoesOn_p326 {T : jT} {xs : List Int} {d : Nat} {y : jV × jS} (hd : 3 ≤ d) {h : jH}  {o0 : Nat} {out : (Int × jH)} (ho0 : isX12 T o0) (H : M_qGoesOn_p326 h o0 = some out) (HY : ykI T y out) : jEv xs d (231, 326, [(2, Int.ofNat o0), (3, 0)], []) (T, h) y := by
  unfold M_qGoesOn_p326 at H
  refine jEv.blk [(.aload_n 0, 1, []), (.bipush 44, 2, [])] (by decide +kernel) (pc' := 329) (ls' := [(2, Int.ofNat o0), (3, 0)]) (st' := [(0, 44), (2, Int.ofNat o0)]) rfl ?_
  refine jbind H (fun b33 Hb33 H => ?_)
  refine jEv.calV (st' := []) (show jfI 231 329 (.invokevirtual 290) 3 [1, 214, 1, 8179] = true by decide +kernel) rfl (Or.inl rfl) rfl (Nat.le_of_ble_eq_true rfl) (by decide +kernel) (by decide) (isX12_L ho0) ((t_M_asksSign (T := T) (xs := xs) ho0 Hb33).mono (jKle 3 hd)) rfl ?_
  refine jEv.blk [(.aload_n 0, 1, [])] (by decide +kernel) (pc' := 333) (ls' := [(2, Int.ofNat o0), (3, 0)]) (st' := [(2, Int.ofNat o0)]) rfl ?_
  refine jEv.gfI (show jfI 231 333 (.getfield 232) 3 [12, 5, 0, 0, 7041] = true by decide +kernel) (isX12_L ho0) (by decide) ?_
  refine jEv.if_eq (t := 341) (show jfI 231 336 (.ifCond .eq 5) 3 [] = true by decide +kernel) rfl H (fun c34 H => ?_) (fun c34 H => ?_)
  · refine jEv.blk [(.aload_n 0, 1, [])] (by decide +kernel) (pc' := 342) (ls' := [(2, Int.ofNat o0), (3, 0)]) (st' := [(2, Int.ofNat o0)]) rfl ?_
    refine jbind H (fun b35 Hb35 H => ?_)
    refine jEv.calV (st' := []) (show jfI 231 342 (.invokevirtual 686) 3 [1, 234, 0, 9018] = true by decide +kernel) rfl (Or.inl rfl) rfl (Nat.le_of_ble_eq_true rfl) (by decide +kernel) (by decide) (isX12_L ho0) ((t_M_qDropsToBracket (T := T) (xs := xs) ho0 Hb35).mono (jKle 3 hd)) rfl ?_
    refine jEv.blk [(.aload_n 0, 1, [])] (by decide +kernel) (pc' := 346) (ls' := [(2, Int.ofNat o0), (3, 0)]) (st' := [(2, Int.ofNat o0)]) rfl ?_
    refine jEv.gfR (o' := (o0 + 66)) (show jfI 231 346 (.getfield 219) 3 [12, 100, 5, 0, 7136] = true by decide +kernel) (isX12_L ho0) (by decide) (isX12_r100 ho0) ?_
    refine jEv.blk [(.aload_n 0, 1, [])] (by decide +kernel) (pc' := 350) (ls' := [(2, Int.ofNat o0), (3, 0)]) (st' := [(2, Int.ofNat o0), (2, Int.ofNat (o0 + 66))]) rfl ?_
    refine jEv.gfI (show jfI 231 350 (.getfield 297) 3 [12, 101, 0, 0, 7137] = true by decide +kernel) (isX12_L ho0) (by decide) ?_
    refine jEv.blk [(.iconst 1, 1, []), (.isub, 1, []), (.dup2, 1, [])] (by decide +kernel) (pc' := 356) (ls' := [(2, Int.ofNat o0), (3, 0)]) (st' := [(0, (wr ((b35 o0 101) - 1))), (2, Int.ofNat (o0 + 66)), (0, (wr ((b35 o0 101) - 1))), (2, Int.ofNat (o0 + 66))]) rfl ?_
    refine jEv.ald (Or.inl ⟨rfl, rfl, rfl⟩) (show jfI 231 356 (.iaload) 1 [] = true by decide +kernel) (isX12_a100 ho0) H (fun c36 H => ?_)
    refine jEv.blk [(.iconst 2, 1, []), (.iadd, 1, [])] (by decide +kernel) (pc' := 359) (ls' := [(2, Int.ofNat o0), (3, 0)]) (st' := [(0, (wr ((b35 (o0 + 66) ((wr ((b35 o0 101) - 1)) : Int).toNat) + 2))), (0, (wr ((b35 o0 101) - 1))), (2, Int.ofNat (o0 + 66))]) rfl ?_
    refine jEv.ast (Or.inl ⟨rfl, rfl, rfl⟩) (show jfI 231 359 (.iastore) 1 [] = true by decide +kernel) (isX12_a100 ho0) rfl H (fun c37 H => ?_)
    refine jEv.blk [(.iconst 1, 1, [])] (by decide +kernel) (pc' := 361) (ls' := [(2, Int.ofNat o0), (3, 0)]) (st' := [(0, 1)]) rfl ?_
    exact jEv.retZ (show jfI 231 361 (.ireturn) 1 [] = true by decide +kernel) (by decide +kernel) (by decide) (by cases H; exact HY)
  · refine jEv.blk [(.iconst 0, 1, [])] (by decide +kernel) (pc' := 340) (ls' := [(2, Int.ofNat o0), (3, 0)]) (st' := [(0, 0)]) rfl ?_
    exact jEv.retZ (show jfI 231 340 (.ireturn) 1 [] = true by decide +kernel) (by decide +kernel) (by decide) (by cases H; exact HY)
set_option maxRecDepth 20000 in
noncomputable def M_qGoesOn_p279  (h : jH) (o0 : Nat) (v1 : Int) : Option (jH ⊕ (Int × jH)) := Option.bind (M_qDrops h o0) (fun b49 => some (.inl (b49)))
set_option maxRecDepth 20000 in
theorem t_M_qGoesOn_p279 {T : jT} {xs : List Int} {d : Nat} {y : jV × jS} (hd : 3 ≤ d) {h : jH}  {o0 : Nat} {v1 : Int} {out : (jH ⊕ (Int × jH))} (ho0 : isX12 T o0) (H : M_qGoesOn_p279 h o0 v1 = some out) (HY : yk_M_qGoesOn_L247 T xs d y o0 v1 out) : jEv xs d (231, 279, [(2, Int.ofNat o0), (0, v1)], []) (T, h) y := by
  unfold M_qGoesOn_p279 at H
  refine jEv.blk [(.aload_n 0, 1, [])] (by decide +kernel) (pc' := 280) (ls' := [(2, Int.ofNat o0), (0, v1)]) (st' := [(2, Int.ofNat o0)]) rfl ?_
  refine jbind H (fun b49 Hb49 H => ?_)
  refine jEv.calV (st' := []) (show jfI 231 280 (.invokevirtual 662) 3 [1, 230, 0, 9003] = true by decide +kernel) rfl (Or.inl rfl) rfl (Nat.le_of_ble_eq_true rfl) (by decide +kernel) (by decide) (isX12_L ho0) ((t_M_qDrops (T := T) (xs := xs) ho0 Hb49).mono (jKle 2 hd)) rfl ?_
  refine jEv.goto (t := 247) (show jfI 231 283 (.goto (-36)) 3 [] = true by decide +kernel) rfl ?_
  exact (by cases H; exact HY)
set_option maxRecDepth 20000 in
noncomputable def M_qGoesOn_B247  (h : jH) (o0 : Nat) (v1 : Int) : Option (jH ⊕ (Int × jH)) := Option.bind (M_qIsOn h o0 3) (fun b40 => (if b40 = 0 then Option.bind (M_qIsOn h o0 4) (fun b42 => (if b42 = 0 then Option.bind (M_qIsOn h o0 1) (fun b44 => (if b44 = 0 then Option.bind (M_qIsOn h o0 2) (fun b46 => (if b46 = 0 then Option.map Sum.inr ((if (0 : Int) ≤ (h o0 101) ∧ ((h o0 101) : Int).toNat < 1700 then some (1, (jup (jup h (o0 + 66) ((h o0 101) : Int).toNat v1) o0 101 (wr (((jup h (o0 + 66) ((h o0 101) : Int).toNat v1) o0 101) + 1)))) else none)) else M_qGoesOn_p279 h o0 v1)) else M_qGoesOn_p279 h o0 v1)) else M_qGoesOn_p279 h o0 v1)) else M_qGoesOn_p279 h o0 v1))
noncomputable def M_qGoesOn_L247  (h : jH) (o0 : Nat) (v1 : Int) : Option (Int × jH) := jloop (fun s : jH => M_qGoesOn_B247 s o0 v1) (h)
set_option maxRecDepth 20000 in
theorem t_M_qGoesOn_B247 {T : jT} {xs : List Int} {d : Nat} {y : jV × jS} (hd : 3 ≤ d) {h : jH}  {o0 : Nat} {v1 : Int} {out : (jH ⊕ (Int × jH))} (ho0 : isX12 T o0) (H : M_qGoesOn_B247 h o0 v1 = some out) (HY : yk_M_qGoesOn_L247 T xs d y o0 v1 out) : jEv xs d (231, 247, [(2, Int.ofNat o0), (0, v1)], []) (T, h) y := by
  unfold M_qGoesOn_B247 at H
  refine jEv.blk [(.aload_n 0, 1, []), (.iconst 3, 1, [])] (by decide +kernel) (pc' := 249) (ls' := [(2, Int.ofNat o0), (0, v1)]) (st' := [(0, 3), (2, Int.ofNat o0)]) rfl ?_
  refine jbind H (fun b40 Hb40 H => ?_)
  refine jEv.calV (st' := [(0, b40)]) (show jfI 231 249 (.invokevirtual 689) 3 [1, 235, 1, 9022] = true by decide +kernel) rfl (Or.inl rfl) rfl (Nat.le_of_ble_eq_true rfl) (by decide +kernel) (by decide) (isX12_L ho0) ((t_M_qIsOn (T := T) (xs := xs) ho0 Hb40).mono (jKle 1 hd)) rfl ?_
  refine jEv.if_ne (t := 279) (show jfI 231 252 (.ifCond .ne 27) 3 [] = true by decide +kernel) rfl H (fun c41 H => ?_) (fun c41 H => ?_)
  · refine jEv.blk [(.aload_n 0, 1, []), (.iconst 4, 1, [])] (by decide +kernel) (pc' := 257) (ls' := [(2, Int.ofNat o0), (0, v1)]) (st' := [(0, 4), (2, Int.ofNat o0)]) rfl ?_
    refine jbind H (fun b42 Hb42 H => ?_)
    refine jEv.calV (st' := [(0, b42)]) (show jfI 231 257 (.invokevirtual 689) 3 [1, 235, 1, 9022] = true by decide +kernel) rfl (Or.inl rfl) rfl (Nat.le_of_ble_eq_true rfl) (by decide +kernel) (by decide) (isX12_L ho0) ((t_M_qIsOn (T := T) (xs := xs) ho0 Hb42).mono (jKle 1 hd)) rfl ?_
    refine jEv.if_ne (t := 279) (show jfI 231 260 (.ifCond .ne 19) 3 [] = true by decide +kernel) rfl H (fun c43 H => ?_) (fun c43 H => ?_)
    · refine jEv.blk [(.aload_n 0, 1, []), (.iconst 1, 1, [])] (by decide +kernel) (pc' := 265) (ls' := [(2, Int.ofNat o0), (0, v1)]) (st' := [(0, 1), (2, Int.ofNat o0)]) rfl ?_
      refine jbind H (fun b44 Hb44 H => ?_)
      refine jEv.calV (st' := [(0, b44)]) (show jfI 231 265 (.invokevirtual 689) 3 [1, 235, 1, 9022] = true by decide +kernel) rfl (Or.inl rfl) rfl (Nat.le_of_ble_eq_true rfl) (by decide +kernel) (by decide) (isX12_L ho0) ((t_M_qIsOn (T := T) (xs := xs) ho0 Hb44).mono (jKle 1 hd)) rfl ?_
      refine jEv.if_ne (t := 279) (show jfI 231 268 (.ifCond .ne 11) 3 [] = true by decide +kernel) rfl H (fun c45 H => ?_) (fun c45 H => ?_)
      · refine jEv.blk [(.aload_n 0, 1, []), (.iconst 2, 1, [])] (by decide +kernel) (pc' := 273) (ls' := [(2, Int.ofNat o0), (0, v1)]) (st' := [(0, 2), (2, Int.ofNat o0)]) rfl ?_
        refine jbind H (fun b46 Hb46 H => ?_)
        refine jEv.calV (st' := [(0, b46)]) (show jfI 231 273 (.invokevirtual 689) 3 [1, 235, 1, 9022] = true by decide +kernel) rfl (Or.inl rfl) rfl (Nat.le_of_ble_eq_true rfl) (by decide +kernel) (by decide) (isX12_L ho0) ((t_M_qIsOn (T := T) (xs := xs) ho0 Hb46).mono (jKle 1 hd)) rfl ?_
        refine jEv.if_eq (t := 286) (show jfI 231 276 (.ifCond .eq 10) 3 [] = true by decide +kernel) rfl H (fun c47 H => ?_) (fun c47 H => ?_)
        · refine jmapr H HY (fun out H (HY : ykI T y out) => ?_)
          refine jEv.blk [(.aload_n 0, 1, [])] (by decide +kernel) (pc' := 287) (ls' := [(2, Int.ofNat o0), (0, v1)]) (st' := [(2, Int.ofNat o0)]) rfl ?_
          refine jEv.gfR (o' := (o0 + 66)) (show jfI 231 287 (.getfield 219) 3 [12, 100, 5, 0, 7136] = true by decide +kernel) (isX12_L ho0) (by decide) (isX12_r100 ho0) ?_
          refine jEv.blk [(.aload_n 0, 1, [])] (by decide +kernel) (pc' := 291) (ls' := [(2, Int.ofNat o0), (0, v1)]) (st' := [(2, Int.ofNat o0), (2, Int.ofNat (o0 + 66))]) rfl ?_
          refine jEv.gfI (show jfI 231 291 (.getfield 297) 3 [12, 101, 0, 0, 7137] = true by decide +kernel) (isX12_L ho0) (by decide) ?_
          refine jEv.blk [(.iload_n 1, 1, [])] (by decide +kernel) (pc' := 295) (ls' := [(2, Int.ofNat o0), (0, v1)]) (st' := [(0, v1), (0, (h o0 101)), (2, Int.ofNat (o0 + 66))]) rfl ?_
          refine jEv.ast (Or.inl ⟨rfl, rfl, rfl⟩) (show jfI 231 295 (.iastore) 1 [] = true by decide +kernel) (isX12_a100 ho0) rfl H (fun c48 H => ?_)
          refine jEv.blk [(.aload_n 0, 1, []), (.dup, 1, [])] (by decide +kernel) (pc' := 298) (ls' := [(2, Int.ofNat o0), (0, v1)]) (st' := [(2, Int.ofNat o0), (2, Int.ofNat o0)]) rfl ?_
          refine jEv.gfI (show jfI 231 298 (.getfield 297) 3 [12, 101, 0, 0, 7137] = true by decide +kernel) (isX12_L ho0) (by decide) ?_
          refine jEv.blk [(.iconst 1, 1, []), (.iadd, 1, [])] (by decide +kernel) (pc' := 303) (ls' := [(2, Int.ofNat o0), (0, v1)]) (st' := [(0, (wr (((jup h (o0 + 66) ((h o0 101) : Int).toNat v1) o0 101) + 1))), (2, Int.ofNat o0)]) rfl ?_
          refine jEv.pfI (show jfI 231 303 (.putfield 297) 3 [12, 101, 0, 0, 7137] = true by decide +kernel) (isX12_L ho0) (by decide) ?_
          refine jEv.blk [(.iconst 1, 1, [])] (by decide +kernel) (pc' := 307) (ls' := [(2, Int.ofNat o0), (0, v1)]) (st' := [(0, 1)]) rfl ?_
          exact jEv.retZ (show jfI 231 307 (.ireturn) 1 [] = true by decide +kernel) (by decide +kernel) (by decide) (by cases H; exact HY)
        · exact t_M_qGoesOn_p279 (T := T) (xs := xs) (y := y) hd ho0 H HY
      · exact t_M_qGoesOn_p279 (T := T) (xs := xs) (y := y) hd ho0 H HY
    · exact t_M_qGoesOn_p279 (T := T) (xs := xs) (y := y) hd ho0 H HY
  · exact t_M_qGoesOn_p279 (T := T) (xs := xs) (y := y) hd ho0 H HY
theorem t_M_qGoesOn_L247 {T : jT} {xs : List Int} {d : Nat} {y : jV × jS} (hd : 3 ≤ d) {h : jH}  {o0 : Nat} {v1 : Int} {out : (Int × jH)} (ho0 : isX12 T o0) (H : M_qGoesOn_L247 h o0 v1 = some out) (HY : ykI T y out) : jEv xs d (231, 247, [(2, Int.ofNat o0), (0, v1)], []) (T, h) y :=
  jloop_sound (G := fun s : jH => jEv xs d (231, 247, [(2, Int.ofNat o0), (0, v1)], []) (T, s) y) (K := yk_M_qGoesOn_L247 T xs d y o0 v1) (fun s out H HY => t_M_qGoesOn_B247 hd ho0 H HY) (fun s' hg => hg) (s := (h)) H HY
set_option maxRecDepth 20000 in
noncomputable def M_qGoesOn_p246  (h : jH) (o0 : Nat) (vs0 : Int) : Option (Int × jH) := M_qGoesOn_L247 h o0 vs0
set_option maxRecDepth 20000 in
theorem t_M_qGoesOn_p246 {T : jT} {xs : List Int} {d : Nat} {y : jV × jS} (hd : 3 ≤ d) {h : jH}  {o0 : Nat} {vs0 : Int} {out : (Int × jH)} (ho0 : isX12 T o0) (H : M_qGoesOn_p246 h o0 vs0 = some out) (HY : ykI T y out) : jEv xs d (231, 246, [(2, Int.ofNat o0), (3, 0)], [(0, vs0)]) (T, h) y := by
  unfold M_qGoesOn_p246 at H
  refine jEv.blk [(.istore_n 1, 1, [])] (by decide +kernel) (pc' := 247) (ls' := [(2, Int.ofNat o0), (0, vs0)]) (st' := []) rfl ?_
  exact t_M_qGoesOn_L247 (T := T) (xs := xs) (y := y) hd ho0 H HY
set_option maxRecDepth 20000 in
noncomputable def M_qGoesOn_p225  (h : jH) (o0 : Nat) : Option (Int × jH) := (if (0 : Int) ≤ (wr ((h o0 2) - 1)) ∧ ((wr ((h o0 2) - 1)) : Int).toNat < 1600 then (if (h (o0 + 1) ((wr ((h o0 2) - 1)) : Int).toNat) = 43 then M_qGoesOn_p246 h o0 1 else M_qGoesOn_p246 h o0 2) else none)
set_option maxRecDepth 20000 in
theorem t_M_qGoesOn_p225 {T : jT} {xs : List Int} {d : Nat} {y : jV × jS} (hd : 3 ≤ d) {h : jH}  {o0 : Nat} {out : (Int × jH)} (ho0 : isX12 T o0) (H : M_qGoesOn_p225 h o0 = some out) (HY : ykI T y out) : jEv xs d (231, 225, [(2, Int.ofNat o0), (3, 0)], []) (T, h) y := by
  unfold M_qGoesOn_p225 at H
  refine jEv.blk [(.aload_n 0, 1, [])] (by decide +kernel) (pc' := 226) (ls' := [(2, Int.ofNat o0), (3, 0)]) (st' := [(2, Int.ofNat o0)]) rfl ?_
  refine jEv.gfR (o' := (o0 + 1)) (show jfI 231 226 (.getfield 7) 3 [12, 0, 5, 0, 7036] = true by decide +kernel) (isX12_L ho0) (by decide) (isX12_r0 ho0) ?_
  refine jEv.blk [(.aload_n 0, 1, [])] (by decide +kernel) (pc' := 230) (ls' := [(2, Int.ofNat o0), (3, 0)]) (st' := [(2, Int.ofNat o0), (2, Int.ofNat (o0 + 1))]) rfl ?_
  refine jEv.gfI (show jfI 231 230 (.getfield 238) 3 [12, 2, 0, 0, 7038] = true by decide +kernel) (isX12_L ho0) (by decide) ?_
  refine jEv.blk [(.iconst 1, 1, []), (.isub, 1, [])] (by decide +kernel) (pc' := 235) (ls' := [(2, Int.ofNat o0), (3, 0)]) (st' := [(0, (wr ((h o0 2) - 1))), (2, Int.ofNat (o0 + 1))]) rfl ?_
  refine jEv.ald (Or.inl ⟨rfl, rfl, rfl⟩) (show jfI 231 235 (.iaload) 1 [] = true by decide +kernel) (isX12_a0 ho0) H (fun c38 H => ?_)
  refine jEv.blk [(.bipush 43, 2, [])] (by decide +kernel) (pc' := 238) (ls' := [(2, Int.ofNat o0), (3, 0)]) (st' := [(0, 43), (0, (h (o0 + 1) ((wr ((h o0 2) - 1)) : Int).toNat))]) rfl ?_
  refine jEv.ic_ne (t := 245) (show jfI 231 238 (.if_icmp .ne 7) 3 [] = true by decide +kernel) rfl H (fun c39 H => ?_) (fun c39 H => ?_)
  · refine jEv.blk [(.iconst 1, 1, [])] (by decide +kernel) (pc' := 242) (ls' := [(2, Int.ofNat o0), (3, 0)]) (st' := [(0, 1)]) rfl ?_
    refine jEv.goto (t := 246) (show jfI 231 242 (.goto 4) 3 [] = true by decide +kernel) rfl ?_
    exact t_M_qGoesOn_p246 (T := T) (xs := xs) (y := y) hd ho0 H HY
  · refine jEv.blk [(.iconst 2, 1, [])] (by decide +kernel) (pc' := 246) (ls' := [(2, Int.ofNat o0), (3, 0)]) (st' := [(0, 2)]) rfl ?_
    exact t_M_qGoesOn_p246 (T := T) (xs := xs) (y := y) hd ho0 H HY
set_option maxRecDepth 20000 in
noncomputable def M_qGoesOn_p178  (h : jH) (o0 : Nat) (v1 : Int) : Option (jH ⊕ (Int × jH)) := Option.bind (M_qDrops h o0) (fun b57 => some (.inl (b57)))
set_option maxRecDepth 20000 in
theorem t_M_qGoesOn_p178 {T : jT} {xs : List Int} {d : Nat} {y : jV × jS} (hd : 3 ≤ d) {h : jH}  {o0 : Nat} {v1 : Int} {out : (jH ⊕ (Int × jH))} (ho0 : isX12 T o0) (H : M_qGoesOn_p178 h o0 v1 = some out) (HY : yk_M_qGoesOn_L162 T xs d y o0 v1 out) : jEv xs d (231, 178, [(2, Int.ofNat o0), (0, v1)], []) (T, h) y := by
  unfold M_qGoesOn_p178 at H
  refine jEv.blk [(.aload_n 0, 1, [])] (by decide +kernel) (pc' := 179) (ls' := [(2, Int.ofNat o0), (0, v1)]) (st' := [(2, Int.ofNat o0)]) rfl ?_
  refine jbind H (fun b57 Hb57 H => ?_)
  refine jEv.calV (st' := []) (show jfI 231 179 (.invokevirtual 662) 3 [1, 230, 0, 9003] = true by decide +kernel) rfl (Or.inl rfl) rfl (Nat.le_of_ble_eq_true rfl) (by decide +kernel) (by decide) (isX12_L ho0) ((t_M_qDrops (T := T) (xs := xs) ho0 Hb57).mono (jKle 2 hd)) rfl ?_
  refine jEv.goto (t := 162) (show jfI 231 182 (.goto (-20)) 3 [] = true by decide +kernel) rfl ?_
  exact (by cases H; exact HY)
set_option maxRecDepth 20000 in
noncomputable def M_qGoesOn_B162  (h : jH) (o0 : Nat) (v1 : Int) : Option (jH ⊕ (Int × jH)) := Option.bind (M_qIsOn h o0 3) (fun b52 => (if b52 = 0 then Option.bind (M_qIsOn h o0 4) (fun b54 => (if b54 = 0 then Option.map Sum.inr ((if (0 : Int) ≤ (h o0 101) ∧ ((h o0 101) : Int).toNat < 1700 then some (1, (jup (jup h (o0 + 66) ((h o0 101) : Int).toNat v1) o0 101 (wr (((jup h (o0 + 66) ((h o0 101) : Int).toNat v1) o0 101) + 1)))) else none)) else M_qGoesOn_p178 h o0 v1)) else M_qGoesOn_p178 h o0 v1))
noncomputable def M_qGoesOn_L162  (h : jH) (o0 : Nat) (v1 : Int) : Option (Int × jH) := jloop (fun s : jH => M_qGoesOn_B162 s o0 v1) (h)
set_option maxRecDepth 20000 in
theorem t_M_qGoesOn_B162 {T : jT} {xs : List Int} {d : Nat} {y : jV × jS} (hd : 3 ≤ d) {h : jH}  {o0 : Nat} {v1 : Int} {out : (jH ⊕ (Int × jH))} (ho0 : isX12 T o0) (H : M_qGoesOn_B162 h o0 v1 = some out) (HY : yk_M_qGoesOn_L162 T xs d y o0 v1 out) : jEv xs d (231, 162, [(2, Int.ofNat o0), (0, v1)], []) (T, h) y := by
  unfold M_qGoesOn_B162 at H
  refine jEv.blk [(.aload_n 0, 1, []), (.iconst 3, 1, [])] (by decide +kernel) (pc' := 164) (ls' := [(2, Int.ofNat o0), (0, v1)]) (st' := [(0, 3), (2, Int.ofNat o0)]) rfl ?_
  refine jbind H (fun b52 Hb52 H => ?_)
  refine jEv.calV (st' := [(0, b52)]) (show jfI 231 164 (.invokevirtual 689) 3 [1, 235, 1, 9022] = true by decide +kernel) rfl (Or.inl rfl) rfl (Nat.le_of_ble_eq_true rfl) (by decide +kernel) (by decide) (isX12_L ho0) ((t_M_qIsOn (T := T) (xs := xs) ho0 Hb52).mono (jKle 1 hd)) rfl ?_
  refine jEv.if_ne (t := 178) (show jfI 231 167 (.ifCond .ne 11) 3 [] = true by decide +kernel) rfl H (fun c53 H => ?_) (fun c53 H => ?_)
  · refine jEv.blk [(.aload_n 0, 1, []), (.iconst 4, 1, [])] (by decide +kernel) (pc' := 172) (ls' := [(2, Int.ofNat o0), (0, v1)]) (st' := [(0, 4), (2, Int.ofNat o0)]) rfl ?_
    refine jbind H (fun b54 Hb54 H => ?_)
    refine jEv.calV (st' := [(0, b54)]) (show jfI 231 172 (.invokevirtual 689) 3 [1, 235, 1, 9022] = true by decide +kernel) rfl (Or.inl rfl) rfl (Nat.le_of_ble_eq_true rfl) (by decide +kernel) (by decide) (isX12_L ho0) ((t_M_qIsOn (T := T) (xs := xs) ho0 Hb54).mono (jKle 1 hd)) rfl ?_
    refine jEv.if_eq (t := 185) (show jfI 231 175 (.ifCond .eq 10) 3 [] = true by decide +kernel) rfl H (fun c55 H => ?_) (fun c55 H => ?_)
    · refine jmapr H HY (fun out H (HY : ykI T y out) => ?_)
      refine jEv.blk [(.aload_n 0, 1, [])] (by decide +kernel) (pc' := 186) (ls' := [(2, Int.ofNat o0), (0, v1)]) (st' := [(2, Int.ofNat o0)]) rfl ?_
      refine jEv.gfR (o' := (o0 + 66)) (show jfI 231 186 (.getfield 219) 3 [12, 100, 5, 0, 7136] = true by decide +kernel) (isX12_L ho0) (by decide) (isX12_r100 ho0) ?_
      refine jEv.blk [(.aload_n 0, 1, [])] (by decide +kernel) (pc' := 190) (ls' := [(2, Int.ofNat o0), (0, v1)]) (st' := [(2, Int.ofNat o0), (2, Int.ofNat (o0 + 66))]) rfl ?_
      refine jEv.gfI (show jfI 231 190 (.getfield 297) 3 [12, 101, 0, 0, 7137] = true by decide +kernel) (isX12_L ho0) (by decide) ?_
      refine jEv.blk [(.iload_n 1, 1, [])] (by decide +kernel) (pc' := 194) (ls' := [(2, Int.ofNat o0), (0, v1)]) (st' := [(0, v1), (0, (h o0 101)), (2, Int.ofNat (o0 + 66))]) rfl ?_
      refine jEv.ast (Or.inl ⟨rfl, rfl, rfl⟩) (show jfI 231 194 (.iastore) 1 [] = true by decide +kernel) (isX12_a100 ho0) rfl H (fun c56 H => ?_)
      refine jEv.blk [(.aload_n 0, 1, []), (.dup, 1, [])] (by decide +kernel) (pc' := 197) (ls' := [(2, Int.ofNat o0), (0, v1)]) (st' := [(2, Int.ofNat o0), (2, Int.ofNat o0)]) rfl ?_
      refine jEv.gfI (show jfI 231 197 (.getfield 297) 3 [12, 101, 0, 0, 7137] = true by decide +kernel) (isX12_L ho0) (by decide) ?_
      refine jEv.blk [(.iconst 1, 1, []), (.iadd, 1, [])] (by decide +kernel) (pc' := 202) (ls' := [(2, Int.ofNat o0), (0, v1)]) (st' := [(0, (wr (((jup h (o0 + 66) ((h o0 101) : Int).toNat v1) o0 101) + 1))), (2, Int.ofNat o0)]) rfl ?_
      refine jEv.pfI (show jfI 231 202 (.putfield 297) 3 [12, 101, 0, 0, 7137] = true by decide +kernel) (isX12_L ho0) (by decide) ?_
      refine jEv.blk [(.iconst 1, 1, [])] (by decide +kernel) (pc' := 206) (ls' := [(2, Int.ofNat o0), (0, v1)]) (st' := [(0, 1)]) rfl ?_
      exact jEv.retZ (show jfI 231 206 (.ireturn) 1 [] = true by decide +kernel) (by decide +kernel) (by decide) (by cases H; exact HY)
    · exact t_M_qGoesOn_p178 (T := T) (xs := xs) (y := y) hd ho0 H HY
  · exact t_M_qGoesOn_p178 (T := T) (xs := xs) (y := y) hd ho0 H HY
theorem t_M_qGoesOn_L162 {T : jT} {xs : List Int} {d : Nat} {y : jV × jS} (hd : 3 ≤ d) {h : jH}  {o0 : Nat} {v1 : Int} {out : (Int × jH)} (ho0 : isX12 T o0) (H : M_qGoesOn_L162 h o0 v1 = some out) (HY : ykI T y out) : jEv xs d (231, 162, [(2, Int.ofNat o0), (0, v1)], []) (T, h) y :=
  jloop_sound (G := fun s : jH => jEv xs d (231, 162, [(2, Int.ofNat o0), (0, v1)], []) (T, s) y) (K := yk_M_qGoesOn_L162 T xs d y o0 v1) (fun s out H HY => t_M_qGoesOn_B162 hd ho0 H HY) (fun s' hg => hg) (s := (h)) H HY
set_option maxRecDepth 20000 in
noncomputable def M_qGoesOn_p161  (h : jH) (o0 : Nat) (vs0 : Int) : Option (Int × jH) := M_qGoesOn_L162 h o0 vs0
set_option maxRecDepth 20000 in
theorem t_M_qGoesOn_p161 {T : jT} {xs : List Int} {d : Nat} {y : jV × jS} (hd : 3 ≤ d) {h : jH}  {o0 : Nat} {vs0 : Int} {out : (Int × jH)} (ho0 : isX12 T o0) (H : M_qGoesOn_p161 h o0 vs0 = some out) (HY : ykI T y out) : jEv xs d (231, 161, [(2, Int.ofNat o0), (3, 0)], [(0, vs0)]) (T, h) y := by
  unfold M_qGoesOn_p161 at H
  refine jEv.blk [(.istore_n 1, 1, [])] (by decide +kernel) (pc' := 162) (ls' := [(2, Int.ofNat o0), (0, vs0)]) (st' := []) rfl ?_
  exact t_M_qGoesOn_L162 (T := T) (xs := xs) (y := y) hd ho0 H HY
set_option maxRecDepth 20000 in
noncomputable def M_qGoesOn_p140  (h : jH) (o0 : Nat) : Option (Int × jH) := (if (0 : Int) ≤ (wr ((h o0 2) - 1)) ∧ ((wr ((h o0 2) - 1)) : Int).toNat < 1600 then (if (h (o0 + 1) ((wr ((h o0 2) - 1)) : Int).toNat) = 42 then M_qGoesOn_p161 h o0 3 else M_qGoesOn_p161 h o0 4) else none)
set_option maxRecDepth 20000 in
theorem t_M_qGoesOn_p140 {T : jT} {xs : List Int} {d : Nat} {y : jV × jS} (hd : 3 ≤ d) {h : jH}  {o0 : Nat} {out : (Int × jH)} (ho0 : isX12 T o0) (H : M_qGoesOn_p140 h o0 = some out) (HY : ykI T y out) : jEv xs d (231, 140, [(2, Int.ofNat o0), (3, 0)], []) (T, h) y := by
  unfold M_qGoesOn_p140 at H
  refine jEv.blk [(.aload_n 0, 1, [])] (by decide +kernel) (pc' := 141) (ls' := [(2, Int.ofNat o0), (3, 0)]) (st' := [(2, Int.ofNat o0)]) rfl ?_
  refine jEv.gfR (o' := (o0 + 1)) (show jfI 231 141 (.getfield 7) 3 [12, 0, 5, 0, 7036] = true by decide +kernel) (isX12_L ho0) (by decide) (isX12_r0 ho0) ?_
  refine jEv.blk [(.aload_n 0, 1, [])] (by decide +kernel) (pc' := 145) (ls' := [(2, Int.ofNat o0), (3, 0)]) (st' := [(2, Int.ofNat o0), (2, Int.ofNat (o0 + 1))]) rfl ?_
  refine jEv.gfI (show jfI 231 145 (.getfield 238) 3 [12, 2, 0, 0, 7038] = true by decide +kernel) (isX12_L ho0) (by decide) ?_
  refine jEv.blk [(.iconst 1, 1, []), (.isub, 1, [])] (by decide +kernel) (pc' := 150) (ls' := [(2, Int.ofNat o0), (3, 0)]) (st' := [(0, (wr ((h o0 2) - 1))), (2, Int.ofNat (o0 + 1))]) rfl ?_
  refine jEv.ald (Or.inl ⟨rfl, rfl, rfl⟩) (show jfI 231 150 (.iaload) 1 [] = true by decide +kernel) (isX12_a0 ho0) H (fun c50 H => ?_)
  refine jEv.blk [(.bipush 42, 2, [])] (by decide +kernel) (pc' := 153) (ls' := [(2, Int.ofNat o0), (3, 0)]) (st' := [(0, 42), (0, (h (o0 + 1) ((wr ((h o0 2) - 1)) : Int).toNat))]) rfl ?_
  refine jEv.ic_ne (t := 160) (show jfI 231 153 (.if_icmp .ne 7) 3 [] = true by decide +kernel) rfl H (fun c51 H => ?_) (fun c51 H => ?_)
  · refine jEv.blk [(.iconst 3, 1, [])] (by decide +kernel) (pc' := 157) (ls' := [(2, Int.ofNat o0), (3, 0)]) (st' := [(0, 3)]) rfl ?_
    refine jEv.goto (t := 161) (show jfI 231 157 (.goto 4) 3 [] = true by decide +kernel) rfl ?_
    exact t_M_qGoesOn_p161 (T := T) (xs := xs) (y := y) hd ho0 H HY
  · refine jEv.blk [(.iconst 4, 1, [])] (by decide +kernel) (pc' := 161) (ls' := [(2, Int.ofNat o0), (3, 0)]) (st' := [(0, 4)]) rfl ?_
    exact t_M_qGoesOn_p161 (T := T) (xs := xs) (y := y) hd ho0 H HY
set_option maxRecDepth 20000 in
noncomputable def M_qGoesOn_p122  (h : jH) (o0 : Nat) : Option (Int × jH) := Option.bind (M_takesSign h o0 42) (fun b17 => (if b17.1 = 0 then Option.bind (M_takesSign b17.2 o0 47) (fun b19 => (if b19.1 = 0 then Option.bind (M_takesSign b19.2 o0 43) (fun b21 => (if b21.1 = 0 then Option.bind (M_takesSign b21.2 o0 45) (fun b23 => (if b23.1 = 0 then Option.bind (M_qBracket b23.2 o0) (fun b25 => (if b25 = 21 then M_qGoesOn_p326 b23.2 o0 else Option.bind (M_qBracket b23.2 o0) (fun b27 => (if b27 = 22 then M_qGoesOn_p326 b23.2 o0 else Option.bind (M_qBracket b23.2 o0) (fun b29 => (if b29 = (-1) then some (0, b23.2) else (if (b23.2 o0 5) = 0 then Option.bind (M_fail b23.2 o0 1 (b23.2 o0 2)) (fun b32 => some (0, b32)) else some (0, b23.2)))))))) else M_qGoesOn_p225 b23.2 o0)) else M_qGoesOn_p225 b21.2 o0)) else M_qGoesOn_p140 b19.2 o0)) else M_qGoesOn_p140 b17.2 o0))
set_option maxRecDepth 20000 in
theorem t_M_qGoesOn_p122 {T : jT} {xs : List Int} {d : Nat} {y : jV × jS} (hd : 3 ≤ d) {h : jH}  {o0 : Nat} {out : (Int × jH)} (ho0 : isX12 T o0) (H : M_qGoesOn_p122 h o0 = some out) (HY : ykI T y out) : jEv xs d (231, 122, [(2, Int.ofNat o0), (3, 0)], []) (T, h) y := by
  unfold M_qGoesOn_p122 at H
  refine jEv.blk [(.aload_n 0, 1, []), (.bipush 42, 2, [])] (by decide +kernel) (pc' := 125) (ls' := [(2, Int.ofNat o0), (3, 0)]) (st' := [(0, 42), (2, Int.ofNat o0)]) rfl ?_
  refine jbind H (fun b17 Hb17 H => ?_)
  refine jEv.calV (st' := [(0, b17.1)]) (show jfI 231 125 (.invokevirtual 266) 3 [1, 215, 1, 8183] = true by decide +kernel) rfl (Or.inl rfl) rfl (Nat.le_of_ble_eq_true rfl) (by decide +kernel) (by decide) (isX12_L ho0) ((t_M_takesSign (T := T) (xs := xs) ho0 Hb17).mono (jKle 2 hd)) rfl ?_
  refine jEv.if_ne (t := 140) (show jfI 231 128 (.ifCond .ne 12) 3 [] = true by decide +kernel) rfl H (fun c18 H => ?_) (fun c18 H => ?_)
  · refine jEv.blk [(.aload_n 0, 1, []), (.bipush 47, 2, [])] (by decide +kernel) (pc' := 134) (ls' := [(2, Int.ofNat o0), (3, 0)]) (st' := [(0, 47), (2, Int.ofNat o0)]) rfl ?_
    refine jbind H (fun b19 Hb19 H => ?_)
    refine jEv.calV (st' := [(0, b19.1)]) (show jfI 231 134 (.invokevirtual 266) 3 [1, 215, 1, 8183] = true by decide +kernel) rfl (Or.inl rfl) rfl (Nat.le_of_ble_eq_true rfl) (by decide +kernel) (by decide) (isX12_L ho0) ((t_M_takesSign (T := T) (xs := xs) ho0 Hb19).mono (jKle 2 hd)) rfl ?_
    refine jEv.if_eq (t := 207) (show jfI 231 137 (.ifCond .eq 70) 3 [] = true by decide +kernel) rfl H (fun c20 H => ?_) (fun c20 H => ?_)
    · refine jEv.blk [(.aload_n 0, 1, []), (.bipush 43, 2, [])] (by decide +kernel) (pc' := 210) (ls' := [(2, Int.ofNat o0), (3, 0)]) (st' := [(0, 43), (2, Int.ofNat o0)]) rfl ?_
      refine jbind H (fun b21 Hb21 H => ?_)
      refine jEv.calV (st' := [(0, b21.1)]) (show jfI 231 210 (.invokevirtual 266) 3 [1, 215, 1, 8183] = true by decide +kernel) rfl (Or.inl rfl) rfl (Nat.le_of_ble_eq_true rfl) (by decide +kernel) (by decide) (isX12_L ho0) ((t_M_takesSign (T := T) (xs := xs) ho0 Hb21).mono (jKle 2 hd)) rfl ?_
      refine jEv.if_ne (t := 225) (show jfI 231 213 (.ifCond .ne 12) 3 [] = true by decide +kernel) rfl H (fun c22 H => ?_) (fun c22 H => ?_)
      · refine jEv.blk [(.aload_n 0, 1, []), (.bipush 45, 2, [])] (by decide +kernel) (pc' := 219) (ls' := [(2, Int.ofNat o0), (3, 0)]) (st' := [(0, 45), (2, Int.ofNat o0)]) rfl ?_
        refine jbind H (fun b23 Hb23 H => ?_)
        refine jEv.calV (st' := [(0, b23.1)]) (show jfI 231 219 (.invokevirtual 266) 3 [1, 215, 1, 8183] = true by decide +kernel) rfl (Or.inl rfl) rfl (Nat.le_of_ble_eq_true rfl) (by decide +kernel) (by decide) (isX12_L ho0) ((t_M_takesSign (T := T) (xs := xs) ho0 Hb23).mono (jKle 2 hd)) rfl ?_
        refine jEv.if_eq (t := 308) (show jfI 231 222 (.ifCond .eq 86) 3 [] = true by decide +kernel) rfl H (fun c24 H => ?_) (fun c24 H => ?_)
        · refine jEv.blk [(.aload_n 0, 1, [])] (by decide +kernel) (pc' := 309) (ls' := [(2, Int.ofNat o0), (3, 0)]) (st' := [(2, Int.ofNat o0)]) rfl ?_
          refine jbind H (fun b25 Hb25 H => ?_)
          refine jEv.calV (st' := [(0, b25)]) (show jfI 231 309 (.invokevirtual 683) 3 [1, 232, 0, 9011] = true by decide +kernel) rfl (Or.inl rfl) rfl (Nat.le_of_ble_eq_true rfl) (by decide +kernel) (by decide) (isX12_L ho0) ((t_M_qBracket (T := T) (xs := xs) ho0 Hb25).mono (jKle 2 hd)) rfl ?_
          refine jEv.blk [(.bipush 21, 2, [])] (by decide +kernel) (pc' := 314) (ls' := [(2, Int.ofNat o0), (3, 0)]) (st' := [(0, 21), (0, b25)]) rfl ?_
          refine jEv.ic_eq (t := 326) (show jfI 231 314 (.if_icmp .eq 12) 3 [] = true by decide +kernel) rfl H (fun c26 H => ?_) (fun c26 H => ?_)
          · exact t_M_qGoesOn_p326 (T := T) (xs := xs) (y := y) hd ho0 H HY
          · refine jEv.blk [(.aload_n 0, 1, [])] (by decide +kernel) (pc' := 318) (ls' := [(2, Int.ofNat o0), (3, 0)]) (st' := [(2, Int.ofNat o0)]) rfl ?_
            refine jbind H (fun b27 Hb27 H => ?_)
            refine jEv.calV (st' := [(0, b27)]) (show jfI 231 318 (.invokevirtual 683) 3 [1, 232, 0, 9011] = true by decide +kernel) rfl (Or.inl rfl) rfl (Nat.le_of_ble_eq_true rfl) (by decide +kernel) (by decide) (isX12_L ho0) ((t_M_qBracket (T := T) (xs := xs) ho0 Hb27).mono (jKle 2 hd)) rfl ?_
            refine jEv.blk [(.bipush 22, 2, [])] (by decide +kernel) (pc' := 323) (ls' := [(2, Int.ofNat o0), (3, 0)]) (st' := [(0, 22), (0, b27)]) rfl ?_
            refine jEv.ic_ne (t := 362) (show jfI 231 323 (.if_icmp .ne 39) 3 [] = true by decide +kernel) rfl H (fun c28 H => ?_) (fun c28 H => ?_)
            · exact t_M_qGoesOn_p326 (T := T) (xs := xs) (y := y) hd ho0 H HY
            · refine jEv.blk [(.aload_n 0, 1, [])] (by decide +kernel) (pc' := 363) (ls' := [(2, Int.ofNat o0), (3, 0)]) (st' := [(2, Int.ofNat o0)]) rfl ?_
              refine jbind H (fun b29 Hb29 H => ?_)
              refine jEv.calV (st' := [(0, b29)]) (show jfI 231 363 (.invokevirtual 683) 3 [1, 232, 0, 9011] = true by decide +kernel) rfl (Or.inl rfl) rfl (Nat.le_of_ble_eq_true rfl) (by decide +kernel) (by decide) (isX12_L ho0) ((t_M_qBracket (T := T) (xs := xs) ho0 Hb29).mono (jKle 2 hd)) rfl ?_
              refine jEv.blk [(.iconst (-1), 1, [])] (by decide +kernel) (pc' := 367) (ls' := [(2, Int.ofNat o0), (3, 0)]) (st' := [(0, (-1)), (0, b29)]) rfl ?_
              refine jEv.ic_eq (t := 386) (show jfI 231 367 (.if_icmp .eq 19) 3 [] = true by decide +kernel) rfl H (fun c30 H => ?_) (fun c30 H => ?_)
              · refine jEv.blk [(.iconst 0, 1, [])] (by decide +kernel) (pc' := 387) (ls' := [(2, Int.ofNat o0), (3, 0)]) (st' := [(0, 0)]) rfl ?_
                exact jEv.retZ (show jfI 231 387 (.ireturn) 1 [] = true by decide +kernel) (by decide +kernel) (by decide) (by cases H; exact HY)
              · refine jEv.blk [(.aload_n 0, 1, [])] (by decide +kernel) (pc' := 371) (ls' := [(2, Int.ofNat o0), (3, 0)]) (st' := [(2, Int.ofNat o0)]) rfl ?_
                refine jEv.gfI (show jfI 231 371 (.getfield 232) 3 [12, 5, 0, 0, 7041] = true by decide +kernel) (isX12_L ho0) (by decide) ?_
                refine jEv.if_ne (t := 386) (show jfI 231 374 (.ifCond .ne 12) 3 [] = true by decide +kernel) rfl H (fun c31 H => ?_) (fun c31 H => ?_)
                · refine jEv.blk [(.aload_n 0, 1, []), (.iconst 1, 1, []), (.aload_n 0, 1, [])] (by decide +kernel) (pc' := 380) (ls' := [(2, Int.ofNat o0), (3, 0)]) (st' := [(2, Int.ofNat o0), (0, 1), (2, Int.ofNat o0)]) rfl ?_
                  refine jEv.gfI (show jfI 231 380 (.getfield 238) 3 [12, 2, 0, 0, 7038] = true by decide +kernel) (isX12_L ho0) (by decide) ?_
                  refine jbind H (fun b32 Hb32 H => ?_)
                  refine jEv.calV (st' := []) (show jfI 231 383 (.invokevirtual 262) 3 [1, 210, 2, 8165] = true by decide +kernel) rfl (Or.inl rfl) rfl (Nat.le_of_ble_eq_true rfl) (by decide +kernel) (by decide) (isX12_L ho0) ((t_M_fail (T := T) (xs := xs) ho0 Hb32).mono (jKle 1 hd)) rfl ?_
                  refine jEv.blk [(.iconst 0, 1, [])] (by decide +kernel) (pc' := 387) (ls' := [(2, Int.ofNat o0), (3, 0)]) (st' := [(0, 0)]) rfl ?_
                  exact jEv.retZ (show jfI 231 387 (.ireturn) 1 [] = true by decide +kernel) (by decide +kernel) (by decide) (by cases H; exact HY)
                · refine jEv.blk [(.iconst 0, 1, [])] (by decide +kernel) (pc' := 387) (ls' := [(2, Int.ofNat o0), (3, 0)]) (st' := [(0, 0)]) rfl ?_
                  exact jEv.retZ (show jfI 231 387 (.ireturn) 1 [] = true by decide +kernel) (by decide +kernel) (by decide) (by cases H; exact HY)
        · exact t_M_qGoesOn_p225 (T := T) (xs := xs) (y := y) hd ho0 H HY
      · exact t_M_qGoesOn_p225 (T := T) (xs := xs) (y := y) hd ho0 H HY
    · exact t_M_qGoesOn_p140 (T := T) (xs := xs) (y := y) hd ho0 H HY
  · exact t_M_qGoesOn_p140 (T := T) (xs := xs) (y := y) hd ho0 H HY
set_option maxRecDepth 20000 in
noncomputable def M_qGoesOn_B0  (h : jH) (o0 : Nat) : Option (jH ⊕ (Int × jH)) := (if (h o0 5) = 0 then Option.bind (M_look h o0) (fun b2 => (if b2.1 = 41 then Option.bind (M_qBracket b2.2 o0) (fun b4 => (if b4 = 20 then M_qGoesOn_p43 b2.2 o0 else Option.bind (M_qBracket b2.2 o0) (fun b6 => (if b6 = 23 then M_qGoesOn_p43 b2.2 o0 else Option.bind (M_qBracket b2.2 o0) (fun b8 => (if b8 = 24 then M_qGoesOn_p43 b2.2 o0 else Option.map Sum.inr (M_qGoesOn_p122 b2.2 o0))))))) else Option.map Sum.inr (M_qGoesOn_p122 b2.2 o0))) else Option.map Sum.inr (M_qGoesOn_p122 h o0))
noncomputable def M_qGoesOn_L0  (h : jH) (o0 : Nat) : Option (Int × jH) := jloop (fun s : jH => M_qGoesOn_B0 s o0) (h)
set_option maxRecDepth 20000 in
theorem t_M_qGoesOn_B0 {T : jT} {xs : List Int} {d : Nat} {y : jV × jS} (hd : 3 ≤ d) {h : jH}  {o0 : Nat} {out : (jH ⊕ (Int × jH))} (ho0 : isX12 T o0) (H : M_qGoesOn_B0 h o0 = some out) (HY : yk_M_qGoesOn_L0 T xs d y o0 out) : jEv xs d (231, 0, [(2, Int.ofNat o0), (3, 0)], []) (T, h) y := by
  unfold M_qGoesOn_B0 at H
  refine jEv.blk [(.aload_n 0, 1, [])] (by decide +kernel) (pc' := 1) (ls' := [(2, Int.ofNat o0), (3, 0)]) (st' := [(2, Int.ofNat o0)]) rfl ?_
  refine jEv.gfI (show jfI 231 1 (.getfield 232) 3 [12, 5, 0, 0, 7041] = true by decide +kernel) (isX12_L ho0) (by decide) ?_
  refine jEv.if_ne (t := 122) (show jfI 231 4 (.ifCond .ne 118) 3 [] = true by decide +kernel) rfl H (fun c1 H => ?_) (fun c1 H => ?_)
  · refine jEv.blk [(.aload_n 0, 1, [])] (by decide +kernel) (pc' := 8) (ls' := [(2, Int.ofNat o0), (3, 0)]) (st' := [(2, Int.ofNat o0)]) rfl ?_
    refine jbind H (fun b2 Hb2 H => ?_)
    refine jEv.calV (st' := [(0, b2.1)]) (show jfI 231 8 (.invokevirtual 244) 3 [1, 208, 0, 8158] = true by decide +kernel) rfl (Or.inl rfl) rfl (Nat.le_of_ble_eq_true rfl) (by decide +kernel) (by decide) (isX12_L ho0) ((t_M_look (T := T) (xs := xs) ho0 Hb2).mono (jKle 1 hd)) rfl ?_
    refine jEv.blk [(.bipush 41, 2, [])] (by decide +kernel) (pc' := 13) (ls' := [(2, Int.ofNat o0), (3, 0)]) (st' := [(0, 41), (0, b2.1)]) rfl ?_
    refine jEv.ic_ne (t := 122) (show jfI 231 13 (.if_icmp .ne 109) 3 [] = true by decide +kernel) rfl H (fun c3 H => ?_) (fun c3 H => ?_)
    · refine jEv.blk [(.aload_n 0, 1, [])] (by decide +kernel) (pc' := 17) (ls' := [(2, Int.ofNat o0), (3, 0)]) (st' := [(2, Int.ofNat o0)]) rfl ?_
      refine jbind H (fun b4 Hb4 H => ?_)
      refine jEv.calV (st' := [(0, b4)]) (show jfI 231 17 (.invokevirtual 683) 3 [1, 232, 0, 9011] = true by decide +kernel) rfl (Or.inl rfl) rfl (Nat.le_of_ble_eq_true rfl) (by decide +kernel) (by decide) (isX12_L ho0) ((t_M_qBracket (T := T) (xs := xs) ho0 Hb4).mono (jKle 2 hd)) rfl ?_
      refine jEv.blk [(.bipush 20, 2, [])] (by decide +kernel) (pc' := 22) (ls' := [(2, Int.ofNat o0), (3, 0)]) (st' := [(0, 20), (0, b4)]) rfl ?_
      refine jEv.ic_eq (t := 43) (show jfI 231 22 (.if_icmp .eq 21) 3 [] = true by decide +kernel) rfl H (fun c5 H => ?_) (fun c5 H => ?_)
      · exact t_M_qGoesOn_p43 (T := T) (xs := xs) (y := y) hd ho0 H HY
      · refine jEv.blk [(.aload_n 0, 1, [])] (by decide +kernel) (pc' := 26) (ls' := [(2, Int.ofNat o0), (3, 0)]) (st' := [(2, Int.ofNat o0)]) rfl ?_
        refine jbind H (fun b6 Hb6 H => ?_)
        refine jEv.calV (st' := [(0, b6)]) (show jfI 231 26 (.invokevirtual 683) 3 [1, 232, 0, 9011] = true by decide +kernel) rfl (Or.inl rfl) rfl (Nat.le_of_ble_eq_true rfl) (by decide +kernel) (by decide) (isX12_L ho0) ((t_M_qBracket (T := T) (xs := xs) ho0 Hb6).mono (jKle 2 hd)) rfl ?_
        refine jEv.blk [(.bipush 23, 2, [])] (by decide +kernel) (pc' := 31) (ls' := [(2, Int.ofNat o0), (3, 0)]) (st' := [(0, 23), (0, b6)]) rfl ?_
        refine jEv.ic_eq (t := 43) (show jfI 231 31 (.if_icmp .eq 12) 3 [] = true by decide +kernel) rfl H (fun c7 H => ?_) (fun c7 H => ?_)
        · exact t_M_qGoesOn_p43 (T := T) (xs := xs) (y := y) hd ho0 H HY
        · refine jEv.blk [(.aload_n 0, 1, [])] (by decide +kernel) (pc' := 35) (ls' := [(2, Int.ofNat o0), (3, 0)]) (st' := [(2, Int.ofNat o0)]) rfl ?_
          refine jbind H (fun b8 Hb8 H => ?_)
          refine jEv.calV (st' := [(0, b8)]) (show jfI 231 35 (.invokevirtual 683) 3 [1, 232, 0, 9011] = true by decide +kernel) rfl (Or.inl rfl) rfl (Nat.le_of_ble_eq_true rfl) (by decide +kernel) (by decide) (isX12_L ho0) ((t_M_qBracket (T := T) (xs := xs) ho0 Hb8).mono (jKle 2 hd)) rfl ?_
          refine jEv.blk [(.bipush 24, 2, [])] (by decide +kernel) (pc' := 40) (ls' := [(2, Int.ofNat o0), (3, 0)]) (st' := [(0, 24), (0, b8)]) rfl ?_
          refine jEv.ic_ne (t := 122) (show jfI 231 40 (.if_icmp .ne 82) 3 [] = true by decide +kernel) rfl H (fun c9 H => ?_) (fun c9 H => ?_)
          · exact t_M_qGoesOn_p43 (T := T) (xs := xs) (y := y) hd ho0 H HY
          · refine jmapr H HY (fun out H (HY : ykI T y out) => ?_)
            exact t_M_qGoesOn_p122 (T := T) (xs := xs) (y := y) hd ho0 H HY
    · refine jmapr H HY (fun out H (HY : ykI T y out) => ?_)
      exact t_M_qGoesOn_p122 (T := T) (xs := xs) (y := y) hd ho0 H HY
  · refine jmapr H HY (fun out H (HY : ykI T y out) => ?_)
    exact t_M_qGoesOn_p122 (T := T) (xs := xs) (y := y) hd ho0 H HY
theorem t_M_qGoesOn_L0 {T : jT} {xs : List Int} {d : Nat} {y : jV × jS} (hd : 3 ≤ d) {h : jH}  {o0 : Nat} {out : (Int × jH)} (ho0 : isX12 T o0) (H : M_qGoesOn_L0 h o0 = some out) (HY : ykI T y out) : jEv xs d (231, 0, [(2, Int.ofNat o0), (3, 0)], []) (T, h) y :=
  jloop_sound (G := fun s : jH => jEv xs d (231, 0, [(2, Int.ofNat o0), (3, 0)], []) (T, s) y) (K := yk_M_qGoesOn_L0 T xs d y o0) (fun s out H HY => t_M_qGoesOn_B0 hd ho0 H HY) (fun s' hg => hg) (s := (h)) H HY
set_option maxRecDepth 20000 in
noncomputable def M_qGoesOn  (h : jH) (o0 : Nat) : Option (Int × jH) := M_qGoesOn_L0 h o0
set_option maxRecDepth 20000 in
theorem t_M_qGoesOn {T : jT} {xs : List Int} {h : jH}  {o0 : Nat} {out : (Int × jH)} (ho0 : isX12 T o0) (H : M_qGoesOn h o0 = some out) : jEm xs 4 231 [(2, Int.ofNat o0)] (T, h) ((0, out.1), (T, out.2)) := by
  have hd : 3 ≤ 3 := Nat.le_refl _
  obtain ⟨y, ey⟩ : ∃ y : jV × jS, y = ((0, out.1), (T, out.2)) := ⟨_, rfl⟩
  rw [← ey]
  have HY : ykI T y out := ey
  refine jEm.ent (n := 2) (by decide +kernel) (Nat.le_of_ble_eq_true rfl) ?_
  show jEv xs 3 (231, 0, [(2, Int.ofNat o0), (3, 0)], []) (T, h) y
  unfold M_qGoesOn at H
  exact t_M_qGoesOn_L0 (T := T) (xs := xs) (y := y) hd ho0 H HY
