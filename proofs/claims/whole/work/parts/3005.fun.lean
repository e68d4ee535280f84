/-! methods as functions -/
set_option maxRecDepth 20000 in
noncomputable def M_framesOf  (h : jH) (o0 : Nat) (v1 : Int) : Option (Int × jH) := Option.bind (M_isHead h o0 v1) (fun b1 => (if b1 = 0 then some (0, h) else Option.bind (M_walks (jup h o0 65 0) o0 v1) (fun b3 => some ((b3 o0 59), b3))))
set_option maxRecDepth 20000 in
theorem t_M_framesOf {T : jT} {xs : List Int} {h : jH}  {o0 : Nat} {v1 : Int} {out : (Int × jH)} (ho0 : isX12 T o0) (H : M_framesOf h o0 v1 = some out) : jEm xs 5 264 [(2, Int.ofNat o0), (0, v1)] (T, h) ((0, out.1), (T, out.2)) := by
  have hd : 4 ≤ 4 := Nat.le_refl _
  obtain ⟨y, ey⟩ : ∃ y : jV × jS, y = ((0, out.1), (T, out.2)) := ⟨_, rfl⟩
  rw [← ey]
  have HY : ykI T y out := ey
  refine jEm.ent (n := 2) (by decide +kernel) (Nat.le_of_ble_eq_true rfl) ?_
  show jEv xs 4 (264, 0, [(2, Int.ofNat o0), (0, v1)], []) (T, h) y
  unfold M_framesOf at H
  refine jEv.blk [(.aload_n 0, 1, []), (.iload_n 1, 1, [])] (by decide +kernel) (pc' := 2) (ls' := [(2, Int.ofNat o0), (0, v1)]) (st' := [(0, v1), (2, Int.ofNat o0)]) rfl ?_
  refine jbind H (fun b1 Hb1 H => ?_)
  refine jEv.calV (st' := [(0, b1)]) (show jfI 264 2 (.invokevirtual 535) 3 [1, 258, 1, 9112] = true by decide +kernel) rfl (Or.inl rfl) rfl (Nat.le_of_ble_eq_true rfl) (by decide +kernel) (by decide) (isX12_L ho0) ((t_M_isHead (T := T) (xs := xs) ho0 Hb1).mono (jKle 3 hd)) rfl ?_
  refine jEv.if_ne (t := 10) (show jfI 264 5 (.ifCond .ne 5) 3 [] = true by decide +kernel) rfl H (fun c2 H => ?_) (fun c2 H => ?_)
  · refine jEv.blk [(.iconst 0, 1, [])] (by decide +kernel) (pc' := 9) (ls' := [(2, Int.ofNat o0), (0, v1)]) (st' := [(0, 0)]) rfl ?_
    exact jEv.retI (show jfI 264 9 (.ireturn) 1 [] = true by decide +kernel) (by decide +kernel) (by cases H; exact HY)
  · refine jEv.blk [(.aload_n 0, 1, []), (.iconst 0, 1, [])] (by decide +kernel) (pc' := 12) (ls' := [(2, Int.ofNat o0), (0, v1)]) (st' := [(0, 0), (2, Int.ofNat o0)]) rfl ?_
    refine jEv.pfZ (show jfI 264 12 (.putfield 507) 3 [12, 65, 0, 1, 7101] = true by decide +kernel) (isX12_L ho0) (by decide) (by decide) ?_
    refine jEv.blk [(.aload_n 0, 1, []), (.iload_n 1, 1, [])] (by decide +kernel) (pc' := 17) (ls' := [(2, Int.ofNat o0), (0, v1)]) (st' := [(0, v1), (2, Int.ofNat o0)]) rfl ?_
    refine jbind H (fun b3 Hb3 H => ?_)
    refine jEv.calV (st' := []) (show jfI 264 17 (.invokevirtual 538) 3 [1, 265, 1, 9140] = true by decide +kernel) rfl (Or.inl rfl) rfl (Nat.le_of_ble_eq_true rfl) (by decide +kernel) (by decide) (isX12_L ho0) ((t_M_walks (T := T) (xs := xs) ho0 Hb3).mono (jKle 4 hd)) rfl ?_
    refine jEv.blk [(.aload_n 0, 1, [])] (by decide +kernel) (pc' := 21) (ls' := [(2, Int.ofNat o0), (0, v1)]) (st' := [(2, Int.ofNat o0)]) rfl ?_
    refine jEv.gfI (show jfI 264 21 (.getfield 513) 3 [12, 59, 0, 0, 7095] = true by decide +kernel) (isX12_L ho0) (by decide) ?_
    exact jEv.retI (show jfI 264 24 (.ireturn) 1 [] = true by decide +kernel) (by decide +kernel) (by cases H; exact HY)
set_option maxRecDepth 20000 in
noncomputable def M_segment  (h : jH) (o0 : Nat) (v1 : Int) (v2 : Int) : Option (Int × jH) := Option.bind (M_isSegment h o0 v1) (fun b1 => (if b1 = 0 then some ((-1), h) else (if v2 = 0 then Option.bind (M_isHead h o0 v1) (fun b4 => (if b4 = 0 then some ((-1), h) else Option.bind (M_serialOf h o0 v1) (fun b6 => some (b6, h)))) else (if v2 = 1 then Option.bind (M_isHead h o0 v1) (fun b8 => (if b8 = 0 then some ((-1), h) else Option.bind (M_firstOf h o0 v1) (fun b10 => some (b10, h)))) else (if v2 = 2 then Option.bind (M_isFree h o0 v1) (fun b12 => (if b12 = 0 then some (0, h) else some (1, h))) else (if v2 = 3 then Option.bind (M_framesOf h o0 v1) (fun b15 => some (b15.1, b15.2)) else some ((-1), h)))))))
set_option maxRecDepth 20000 in
theorem t_M_segment {T : jT} {xs : List Int} {h : jH}  {o0 : Nat} {v1 : Int} {v2 : Int} {out : (Int × jH)} (ho0 : isX12 T o0) (H : M_segment h o0 v1 v2 = some out) : jEm xs 6 256 [(2, Int.ofNat o0), (0, v1), (0, v2)] (T, h) ((0, out.1), (T, out.2)) := by
  have hd : 5 ≤ 5 := Nat.le_refl _
  obtain ⟨y, ey⟩ : ∃ y : jV × jS, y = ((0, out.1), (T, out.2)) := ⟨_, rfl⟩
  rw [← ey]
  have HY : ykI T y out := ey
  refine jEm.ent (n := 3) (by decide +kernel) (Nat.le_of_ble_eq_true rfl) ?_
  show jEv xs 5 (256, 0, [(2, Int.ofNat o0), (0, v1), (0, v2)], []) (T, h) y
  unfold M_segment at H
  refine jEv.blk [(.aload_n 0, 1, []), (.iload_n 1, 1, [])] (by decide +kernel) (pc' := 2) (ls' := [(2, Int.ofNat o0), (0, v1), (0, v2)]) (st' := [(0, v1), (2, Int.ofNat o0)]) rfl ?_
  refine jbind H (fun b1 Hb1 H => ?_)
  refine jEv.calV (st' := [(0, b1)]) (show jfI 256 2 (.invokevirtual 570) 3 [1, 257, 1, 9108] = true by decide +kernel) rfl (Or.inl rfl) rfl (Nat.le_of_ble_eq_true rfl) (by decide +kernel) (by decide) (isX12_L ho0) ((t_M_isSegment (T := T) (xs := xs) ho0 Hb1).mono (jKle 2 hd)) rfl ?_
  refine jEv.if_ne (t := 10) (show jfI 256 5 (.ifCond .ne 5) 3 [] = true by decide +kernel) rfl H (fun c2 H => ?_) (fun c2 H => ?_)
  · refine jEv.blk [(.iconst (-1), 1, [])] (by decide +kernel) (pc' := 9) (ls' := [(2, Int.ofNat o0), (0, v1), (0, v2)]) (st' := [(0, (-1))]) rfl ?_
    exact jEv.retI (show jfI 256 9 (.ireturn) 1 [] = true by decide +kernel) (by decide +kernel) (by cases H; exact HY)
  · refine jEv.blk [(.iload_n 2, 1, [])] (by decide +kernel) (pc' := 11) (ls' := [(2, Int.ofNat o0), (0, v1), (0, v2)]) (st' := [(0, v2)]) rfl ?_
    refine jite H (fun c3 H => ?_) (fun c3 H => ?_)
    · refine jEv.tsI (v := 0) (off := 29) (t := 40) (show jfI 256 11 (.tableswitch 85 0 3 #[29, 47, 65, 79]) 29 [] = true by decide +kernel) c3 (by decide) (by decide) rfl (by decide) ?_
      refine jEv.blk [(.aload_n 0, 1, []), (.iload_n 1, 1, [])] (by decide +kernel) (pc' := 42) (ls' := [(2, Int.ofNat o0), (0, v1), (0, v2)]) (st' := [(0, v1), (2, Int.ofNat o0)]) rfl ?_
      refine jbind H (fun b4 Hb4 H => ?_)
      refine jEv.calV (st' := [(0, b4)]) (show jfI 256 42 (.invokevirtual 535) 3 [1, 258, 1, 9112] = true by decide +kernel) rfl (Or.inl rfl) rfl (Nat.le_of_ble_eq_true rfl) (by decide +kernel) (by decide) (isX12_L ho0) ((t_M_isHead (T := T) (xs := xs) ho0 Hb4).mono (jKle 3 hd)) rfl ?_
      refine jEv.if_eq (t := 56) (show jfI 256 45 (.ifCond .eq 11) 3 [] = true by decide +kernel) rfl H (fun c5 H => ?_) (fun c5 H => ?_)
      · refine jEv.blk [(.iconst (-1), 1, [])] (by decide +kernel) (pc' := 57) (ls' := [(2, Int.ofNat o0), (0, v1), (0, v2)]) (st' := [(0, (-1))]) rfl ?_
        exact jEv.retI (show jfI 256 57 (.ireturn) 1 [] = true by decide +kernel) (by decide +kernel) (by cases H; exact HY)
      · refine jEv.blk [(.aload_n 0, 1, []), (.iload_n 1, 1, [])] (by decide +kernel) (pc' := 50) (ls' := [(2, Int.ofNat o0), (0, v1), (0, v2)]) (st' := [(0, v1), (2, Int.ofNat o0)]) rfl ?_
        refine jbind H (fun b6 Hb6 H => ?_)
        refine jEv.calV (st' := [(0, b6)]) (show jfI 256 50 (.invokevirtual 497) 3 [1, 260, 1, 9120] = true by decide +kernel) rfl (Or.inl rfl) rfl (Nat.le_of_ble_eq_true rfl) (by decide +kernel) (by decide) (isX12_L ho0) ((t_M_serialOf (T := T) (xs := xs) ho0 Hb6).mono (jKle 2 hd)) rfl ?_
        refine jEv.goto (t := 57) (show jfI 256 53 (.goto 4) 3 [] = true by decide +kernel) rfl ?_
        exact jEv.retI (show jfI 256 57 (.ireturn) 1 [] = true by decide +kernel) (by decide +kernel) (by cases H; exact HY)
    · refine jite H (fun c7 H => ?_) (fun c7 H => ?_)
      · refine jEv.tsI (v := 1) (off := 47) (t := 58) (show jfI 256 11 (.tableswitch 85 0 3 #[29, 47, 65, 79]) 29 [] = true by decide +kernel) c7 (by decide) (by decide) rfl (by decide) ?_
        refine jEv.blk [(.aload_n 0, 1, []), (.iload_n 1, 1, [])] (by decide +kernel) (pc' := 60) (ls' := [(2, Int.ofNat o0), (0, v1), (0, v2)]) (st' := [(0, v1), (2, Int.ofNat o0)]) rfl ?_
        refine jbind H (fun b8 Hb8 H => ?_)
        refine jEv.calV (st' := [(0, b8)]) (show jfI 256 60 (.invokevirtual 535) 3 [1, 258, 1, 9112] = true by decide +kernel) rfl (Or.inl rfl) rfl (Nat.le_of_ble_eq_true rfl) (by decide +kernel) (by decide) (isX12_L ho0) ((t_M_isHead (T := T) (xs := xs) ho0 Hb8).mono (jKle 3 hd)) rfl ?_
        refine jEv.if_eq (t := 74) (show jfI 256 63 (.ifCond .eq 11) 3 [] = true by decide +kernel) rfl H (fun c9 H => ?_) (fun c9 H => ?_)
        · refine jEv.blk [(.iconst (-1), 1, [])] (by decide +kernel) (pc' := 75) (ls' := [(2, Int.ofNat o0), (0, v1), (0, v2)]) (st' := [(0, (-1))]) rfl ?_
          exact jEv.retI (show jfI 256 75 (.ireturn) 1 [] = true by decide +kernel) (by decide +kernel) (by cases H; exact HY)
        · refine jEv.blk [(.aload_n 0, 1, []), (.iload_n 1, 1, [])] (by decide +kernel) (pc' := 68) (ls' := [(2, Int.ofNat o0), (0, v1), (0, v2)]) (st' := [(0, v1), (2, Int.ofNat o0)]) rfl ?_
          refine jbind H (fun b10 Hb10 H => ?_)
          refine jEv.calV (st' := [(0, b10)]) (show jfI 256 68 (.invokevirtual 541) 3 [1, 261, 1, 9124] = true by decide +kernel) rfl (Or.inl rfl) rfl (Nat.le_of_ble_eq_true rfl) (by decide +kernel) (by decide) (isX12_L ho0) ((t_M_firstOf (T := T) (xs := xs) ho0 Hb10).mono (jKle 2 hd)) rfl ?_
          refine jEv.goto (t := 75) (show jfI 256 71 (.goto 4) 3 [] = true by decide +kernel) rfl ?_
          exact jEv.retI (show jfI 256 75 (.ireturn) 1 [] = true by decide +kernel) (by decide +kernel) (by cases H; exact HY)
      · refine jite H (fun c11 H => ?_) (fun c11 H => ?_)
        · refine jEv.tsI (v := 2) (off := 65) (t := 76) (show jfI 256 11 (.tableswitch 85 0 3 #[29, 47, 65, 79]) 29 [] = true by decide +kernel) c11 (by decide) (by decide) rfl (by decide) ?_
          refine jEv.blk [(.aload_n 0, 1, []), (.iload_n 1, 1, [])] (by decide +kernel) (pc' := 78) (ls' := [(2, Int.ofNat o0), (0, v1), (0, v2)]) (st' := [(0, v1), (2, Int.ofNat o0)]) rfl ?_
          refine jbind H (fun b12 Hb12 H => ?_)
          refine jEv.calV (st' := [(0, b12)]) (show jfI 256 78 (.invokevirtual 399) 3 [1, 262, 1, 9128] = true by decide +kernel) rfl (Or.inl rfl) rfl (Nat.le_of_ble_eq_true rfl) (by decide +kernel) (by decide) (isX12_L ho0) ((t_M_isFree (T := T) (xs := xs) ho0 Hb12).mono (jKle 2 hd)) rfl ?_
          refine jEv.if_eq (t := 88) (show jfI 256 81 (.ifCond .eq 7) 3 [] = true by decide +kernel) rfl H (fun c13 H => ?_) (fun c13 H => ?_)
          · refine jEv.blk [(.iconst 0, 1, [])] (by decide +kernel) (pc' := 89) (ls' := [(2, Int.ofNat o0), (0, v1), (0, v2)]) (st' := [(0, 0)]) rfl ?_
            exact jEv.retI (show jfI 256 89 (.ireturn) 1 [] = true by decide +kernel) (by decide +kernel) (by cases H; exact HY)
          · refine jEv.blk [(.iconst 1, 1, [])] (by decide +kernel) (pc' := 85) (ls' := [(2, Int.ofNat o0), (0, v1), (0, v2)]) (st' := [(0, 1)]) rfl ?_
            refine jEv.goto (t := 89) (show jfI 256 85 (.goto 4) 3 [] = true by decide +kernel) rfl ?_
            exact jEv.retI (show jfI 256 89 (.ireturn) 1 [] = true by decide +kernel) (by decide +kernel) (by cases H; exact HY)
        · refine jite H (fun c14 H => ?_) (fun c14 H => ?_)
          · refine jEv.tsI (v := 3) (off := 79) (t := 90) (show jfI 256 11 (.tableswitch 85 0 3 #[29, 47, 65, 79]) 29 [] = true by decide +kernel) c14 (by decide) (by decide) rfl (by decide) ?_
            refine jEv.blk [(.aload_n 0, 1, []), (.iload_n 1, 1, [])] (by decide +kernel) (pc' := 92) (ls' := [(2, Int.ofNat o0), (0, v1), (0, v2)]) (st' := [(0, v1), (2, Int.ofNat o0)]) rfl ?_
            refine jbind H (fun b15 Hb15 H => ?_)
            refine jEv.calV (st' := [(0, b15.1)]) (show jfI 256 92 (.invokevirtual 573) 3 [1, 264, 1, 9136] = true by decide +kernel) rfl (Or.inl rfl) rfl (Nat.le_of_ble_eq_true rfl) (by decide +kernel) (by decide) (isX12_L ho0) ((t_M_framesOf (T := T) (xs := xs) ho0 Hb15).mono (jKle 5 hd)) rfl ?_
            exact jEv.retI (show jfI 256 95 (.ireturn) 1 [] = true by decide +kernel) (by decide +kernel) (by cases H; exact HY)
          · refine jEv.tsO (t := 96) (show jfI 256 11 (.tableswitch 85 0 3 #[29, 47, 65, 79]) 29 [] = true by decide +kernel) (by omega) rfl (by decide) ?_
            refine jEv.blk [(.iconst (-1), 1, [])] (by decide +kernel) (pc' := 97) (ls' := [(2, Int.ofNat o0), (0, v1), (0, v2)]) (st' := [(0, (-1))]) rfl ?_
            exact jEv.retI (show jfI 256 97 (.ireturn) 1 [] = true by decide +kernel) (by decide +kernel) (by cases H; exact HY)
set_option maxRecDepth 20000 in
noncomputable def M_frame  (h : jH) (o0 : Nat) (v1 : Int) (v2 : Int) (v3 : Int) : Option (Int × jH) := Option.bind (M_isSegment h o0 v1) (fun b1 => (if b1 = 0 then some ((-1), h) else Option.bind (M_framesOf h o0 v1) (fun b3 => Option.bind (M_isIn v2 0 (wr (b3.1 - 1))) (fun b4 => (if b4 = 0 then some ((-1), b3.2) else Option.bind (M_isIn v3 0 2) (fun b6 => (if b6 = 0 then some ((-1), b3.2) else (if (0 : Int) ≤ v2 ∧ (v2 : Int).toNat < 128 then (if v3 = 0 then some ((b3.2 (o0 + 37) (v2 : Int).toNat), b3.2) else Option.bind (M_diskAt b3.2 o0 v1 (wr ((b3.2 (o0 + 37) (v2 : Int).toNat) + v3))) (fun b10 => some (b10, b3.2))) else none))))))))
set_option maxRecDepth 20000 in
theorem t_M_frame {T : jT} {xs : List Int} {h : jH}  {o0 : Nat} {v1 : Int} {v2 : Int} {v3 : Int} {out : (Int × jH)} (ho0 : isX12 T o0) (H : M_frame h o0 v1 v2 v3 = some out) : jEm xs 6 270 [(2, Int.ofNat o0), (0, v1), (0, v2), (0, v3)] (T, h) ((0, out.1), (T, out.2)) := by
  have hd : 5 ≤ 5 := Nat.le_refl _
  obtain ⟨y, ey⟩ : ∃ y : jV × jS, y = ((0, out.1), (T, out.2)) := ⟨_, rfl⟩
  rw [← ey]
  have HY : ykI T y out := ey
  refine jEm.ent (n := 5) (by decide +kernel) (Nat.le_of_ble_eq_true rfl) ?_
  show jEv xs 5 (270, 0, [(2, Int.ofNat o0), (0, v1), (0, v2), (0, v3), (3, 0)], []) (T, h) y
  unfold M_frame at H
  refine jEv.blk [(.aload_n 0, 1, []), (.iload_n 1, 1, [])] (by decide +kernel) (pc' := 2) (ls' := [(2, Int.ofNat o0), (0, v1), (0, v2), (0, v3), (3, 0)]) (st' := [(0, v1), (2, Int.ofNat o0)]) rfl ?_
  refine jbind H (fun b1 Hb1 H => ?_)
  refine jEv.calV (st' := [(0, b1)]) (show jfI 270 2 (.invokevirtual 570) 3 [1, 257, 1, 9108] = true by decide +kernel) rfl (Or.inl rfl) rfl (Nat.le_of_ble_eq_true rfl) (by decide +kernel) (by decide) (isX12_L ho0) ((t_M_isSegment (T := T) (xs := xs) ho0 Hb1).mono (jKle 2 hd)) rfl ?_
  refine jEv.if_eq (t := 37) (show jfI 270 5 (.ifCond .eq 32) 3 [] = true by decide +kernel) rfl H (fun c2 H => ?_) (fun c2 H => ?_)
  · refine jEv.blk [(.iconst (-1), 1, [])] (by decide +kernel) (pc' := 38) (ls' := [(2, Int.ofNat o0), (0, v1), (0, v2), (0, v3), (3, 0)]) (st' := [(0, (-1))]) rfl ?_
    exact jEv.retI (show jfI 270 38 (.ireturn) 1 [] = true by decide +kernel) (by decide +kernel) (by cases H; exact HY)
  · refine jEv.blk [(.iload_n 2, 1, []), (.i2l, 1, []), (.lconst 0, 1, []), (.aload_n 0, 1, []), (.iload_n 1, 1, [])] (by decide +kernel) (pc' := 13) (ls' := [(2, Int.ofNat o0), (0, v1), (0, v2), (0, v3), (3, 0)]) (st' := [(0, v1), (2, Int.ofNat o0), (1, 0), (1, v2)]) rfl ?_
    refine jbind H (fun b3 Hb3 H => ?_)
    refine jEv.calV (st' := [(0, b3.1), (1, 0), (1, v2)]) (show jfI 270 13 (.invokevirtual 573) 3 [1, 264, 1, 9136] = true by decide +kernel) rfl (Or.inl rfl) rfl (Nat.le_of_ble_eq_true rfl) (by decide +kernel) (by decide) (isX12_L ho0) ((t_M_framesOf (T := T) (xs := xs) ho0 Hb3).mono (jKle 5 hd)) rfl ?_
    refine jEv.blk [(.iconst 1, 1, []), (.isub, 1, []), (.i2l, 1, [])] (by decide +kernel) (pc' := 19) (ls' := [(2, Int.ofNat o0), (0, v1), (0, v2), (0, v3), (3, 0)]) (st' := [(1, (wr (b3.1 - 1))), (1, 0), (1, v2)]) rfl ?_
    refine jbind H (fun b4 Hb4 H => ?_)
    refine jEv.calS (st' := [(0, b4)]) (show jfI 270 19 (.invokestatic 275) 3 [3, 213, 3, 8176] = true by decide +kernel) rfl (Or.inl rfl) rfl (Nat.le_of_ble_eq_true rfl) ((t_M_isIn (T := T) (xs := xs)  Hb4).mono (jKle 1 hd)) rfl ?_
    refine jEv.if_eq (t := 37) (show jfI 270 22 (.ifCond .eq 15) 3 [] = true by decide +kernel) rfl H (fun c5 H => ?_) (fun c5 H => ?_)
    · refine jEv.blk [(.iconst (-1), 1, [])] (by decide +kernel) (pc' := 38) (ls' := [(2, Int.ofNat o0), (0, v1), (0, v2), (0, v3), (3, 0)]) (st' := [(0, (-1))]) rfl ?_
      exact jEv.retI (show jfI 270 38 (.ireturn) 1 [] = true by decide +kernel) (by decide +kernel) (by cases H; exact HY)
    · refine jEv.blk [(.iload_n 3, 1, []), (.i2l, 1, []), (.lconst 0, 1, []), (.ldc2_w 576, 3, [1, 0, 2, 9165])] (by decide +kernel) (pc' := 31) (ls' := [(2, Int.ofNat o0), (0, v1), (0, v2), (0, v3), (3, 0)]) (st' := [(1, 2), (1, 0), (1, v3)]) rfl ?_
      refine jbind H (fun b6 Hb6 H => ?_)
      refine jEv.calS (st' := [(0, b6)]) (show jfI 270 31 (.invokestatic 275) 3 [3, 213, 3, 8176] = true by decide +kernel) rfl (Or.inl rfl) rfl (Nat.le_of_ble_eq_true rfl) ((t_M_isIn (T := T) (xs := xs)  Hb6).mono (jKle 1 hd)) rfl ?_
      refine jEv.if_ne (t := 39) (show jfI 270 34 (.ifCond .ne 5) 3 [] = true by decide +kernel) rfl H (fun c7 H => ?_) (fun c7 H => ?_)
      · refine jEv.blk [(.iconst (-1), 1, [])] (by decide +kernel) (pc' := 38) (ls' := [(2, Int.ofNat o0), (0, v1), (0, v2), (0, v3), (3, 0)]) (st' := [(0, (-1))]) rfl ?_
        exact jEv.retI (show jfI 270 38 (.ireturn) 1 [] = true by decide +kernel) (by decide +kernel) (by cases H; exact HY)
      · refine jEv.blk [(.aload_n 0, 1, [])] (by decide +kernel) (pc' := 40) (ls' := [(2, Int.ofNat o0), (0, v1), (0, v2), (0, v3), (3, 0)]) (st' := [(2, Int.ofNat o0)]) rfl ?_
        refine jEv.gfR (o' := (o0 + 37)) (show jfI 270 40 (.getfield 126) 3 [12, 58, 5, 0, 7094] = true by decide +kernel) (isX12_L ho0) (by decide) (isX12_r58 ho0) ?_
        refine jEv.blk [(.iload_n 2, 1, [])] (by decide +kernel) (pc' := 44) (ls' := [(2, Int.ofNat o0), (0, v1), (0, v2), (0, v3), (3, 0)]) (st' := [(0, v2), (2, Int.ofNat (o0 + 37))]) rfl ?_
        refine jEv.ald (Or.inl ⟨rfl, rfl, rfl⟩) (show jfI 270 44 (.iaload) 1 [] = true by decide +kernel) (isX12_a58 ho0) H (fun c8 H => ?_)
        refine jEv.blk [(.istore 4, 2, []), (.iload_n 3, 1, [])] (by decide +kernel) (pc' := 48) (ls' := [(2, Int.ofNat o0), (0, v1), (0, v2), (0, v3), (0, (b3.2 (o0 + 37) (v2 : Int).toNat))]) (st' := [(0, v3)]) rfl ?_
        refine jEv.if_ne (t := 56) (show jfI 270 48 (.ifCond .ne 8) 3 [] = true by decide +kernel) rfl H (fun c9 H => ?_) (fun c9 H => ?_)
        · refine jEv.blk [(.iload 4, 2, [])] (by decide +kernel) (pc' := 53) (ls' := [(2, Int.ofNat o0), (0, v1), (0, v2), (0, v3), (0, (b3.2 (o0 + 37) (v2 : Int).toNat))]) (st' := [(0, (b3.2 (o0 + 37) (v2 : Int).toNat))]) rfl ?_
          refine jEv.goto (t := 65) (show jfI 270 53 (.goto 12) 3 [] = true by decide +kernel) rfl ?_
          exact jEv.retI (show jfI 270 65 (.ireturn) 1 [] = true by decide +kernel) (by decide +kernel) (by cases H; exact HY)
        · refine jEv.blk [(.aload_n 0, 1, []), (.iload_n 1, 1, []), (.iload 4, 2, []), (.iload_n 3, 1, []), (.iadd, 1, [])] (by decide +kernel) (pc' := 62) (ls' := [(2, Int.ofNat o0), (0, v1), (0, v2), (0, v3), (0, (b3.2 (o0 + 37) (v2 : Int).toNat))]) (st' := [(0, (wr ((b3.2 (o0 + 37) (v2 : Int).toNat) + v3))), (0, v1), (2, Int.ofNat o0)]) rfl ?_
          refine jbind H (fun b10 Hb10 H => ?_)
          refine jEv.calV (st' := [(0, b10)]) (show jfI 270 62 (.invokevirtual 494) 3 [1, 259, 2, 9116] = true by decide +kernel) rfl (Or.inl rfl) rfl (Nat.le_of_ble_eq_true rfl) (by decide +kernel) (by decide) (isX12_L ho0) ((t_M_diskAt (T := T) (xs := xs) ho0 Hb10).mono (jKle 1 hd)) rfl ?_
          exact jEv.retI (show jfI 270 65 (.ireturn) 1 [] = true by decide +kernel) (by decide +kernel) (by cases H; exact HY)
set_option maxRecDepth 20000 in
noncomputable def M_octetOf_p33  (h : jH)  : Option Int := some (-1)
set_option maxRecDepth 20000 in
theorem t_M_octetOf_p33 {T : jT} {xs : List Int} {d : Nat} {y : jV × jS} (hd : 2 ≤ d) {h : jH}   {out : Int}  (H : M_octetOf_p33 h = some out) (HY : ykIp T h y out) : jEv xs d (271, 33, [(3, 0), (3, 0), (3, 0)], []) (T, h) y := by
  unfold M_octetOf_p33 at H
  refine jEv.blk [(.iconst (-1), 1, [])] (by decide +kernel) (pc' := 34) (ls' := [(3, 0), (3, 0), (3, 0)]) (st' := [(0, (-1))]) rfl ?_
  exact jEv.retI (show jfI 271 34 (.ireturn) 1 [] = true by decide +kernel) (by decide +kernel) (by cases H; exact HY)
set_option maxRecDepth 20000 in
noncomputable def M_octetOf  (h : jH) (o0 : Nat) (v1 : Int) (v2 : Int) : Option Int := Option.bind (M_isSegment h o0 v1) (fun b1 => (if b1 = 0 then M_octetOf_p33 h else Option.bind (M_length h o0) (fun b3 => Option.bind (M_isIn v2 0 (wr (b3 - 1))) (fun b4 => (if b4 = 0 then M_octetOf_p33 h else Option.bind (M_diskAt h o0 v1 v2) (fun b6 => some b6))))))
set_option maxRecDepth 20000 in
theorem t_M_octetOf {T : jT} {xs : List Int} {h : jH}  {o0 : Nat} {v1 : Int} {v2 : Int} {out : Int} (ho0 : isX12 T o0) (H : M_octetOf h o0 v1 v2 = some out) : jEm xs 3 271 [(2, Int.ofNat o0), (0, v1), (0, v2)] (T, h) ((0, out), (T, h)) := by
  have hd : 2 ≤ 2 := Nat.le_refl _
  obtain ⟨y, ey⟩ : ∃ y : jV × jS, y = ((0, out), (T, h)) := ⟨_, rfl⟩
  rw [← ey]
  have HY : ykIp T h y out := ey
  refine jEm.ent (n := 3) (by decide +kernel) (Nat.le_of_ble_eq_true rfl) ?_
  show jEv xs 2 (271, 0, [(2, Int.ofNat o0), (0, v1), (0, v2)], []) (T, h) y
  unfold M_octetOf at H
  refine jEv.blk [(.aload_n 0, 1, []), (.iload_n 1, 1, [])] (by decide +kernel) (pc' := 2) (ls' := [(2, Int.ofNat o0), (0, v1), (0, v2)]) (st' := [(0, v1), (2, Int.ofNat o0)]) rfl ?_
  refine jbind H (fun b1 Hb1 H => ?_)
  refine jEv.calV (st' := [(0, b1)]) (show jfI 271 2 (.invokevirtual 570) 3 [1, 257, 1, 9108] = true by decide +kernel) rfl (Or.inl rfl) rfl (Nat.le_of_ble_eq_true rfl) (by decide +kernel) (by decide) (isX12_L ho0) ((t_M_isSegment (T := T) (xs := xs) ho0 Hb1).mono (jKle 2 hd)) rfl ?_
  refine jEv.if_eq (t := 33) (show jfI 271 5 (.ifCond .eq 28) 3 [] = true by decide +kernel) rfl H (fun c2 H => ?_) (fun c2 H => ?_)
  · exact jEv.weak (a := [(3, 0), (3, 0), (3, 0)]) (jles.c0 (jles.c0 (jles.c0 jles.nl))) (t_M_octetOf_p33 (T := T) (xs := xs) (y := y) hd H HY)
  · refine jEv.blk [(.iload_n 2, 1, []), (.i2l, 1, []), (.lconst 0, 1, []), (.aload_n 0, 1, [])] (by decide +kernel) (pc' := 12) (ls' := [(2, Int.ofNat o0), (0, v1), (0, v2)]) (st' := [(2, Int.ofNat o0), (1, 0), (1, v2)]) rfl ?_
    refine jbind H (fun b3 Hb3 H => ?_)
    refine jEv.calV (st' := [(0, b3), (1, 0), (1, v2)]) (show jfI 271 12 (.invokevirtual 402) 3 [1, 249, 0, 9076] = true by decide +kernel) rfl (Or.inl rfl) rfl (Nat.le_of_ble_eq_true rfl) (by decide +kernel) (by decide) (isX12_L ho0) ((t_M_length (T := T) (xs := xs) ho0 Hb3).mono (jKle 1 hd)) rfl ?_
    refine jEv.blk [(.iconst 1, 1, []), (.isub, 1, []), (.i2l, 1, [])] (by decide +kernel) (pc' := 18) (ls' := [(2, Int.ofNat o0), (0, v1), (0, v2)]) (st' := [(1, (wr (b3 - 1))), (1, 0), (1, v2)]) rfl ?_
    refine jbind H (fun b4 Hb4 H => ?_)
    refine jEv.calS (st' := [(0, b4)]) (show jfI 271 18 (.invokestatic 275) 3 [3, 213, 3, 8176] = true by decide +kernel) rfl (Or.inl rfl) rfl (Nat.le_of_ble_eq_true rfl) ((t_M_isIn (T := T) (xs := xs)  Hb4).mono (jKle 1 hd)) rfl ?_
    refine jEv.if_eq (t := 33) (show jfI 271 21 (.ifCond .eq 12) 3 [] = true by decide +kernel) rfl H (fun c5 H => ?_) (fun c5 H => ?_)
    · exact jEv.weak (a := [(3, 0), (3, 0), (3, 0)]) (jles.c0 (jles.c0 (jles.c0 jles.nl))) (t_M_octetOf_p33 (T := T) (xs := xs) (y := y) hd H HY)
    · refine jEv.blk [(.aload_n 0, 1, []), (.iload_n 1, 1, []), (.iload_n 2, 1, [])] (by decide +kernel) (pc' := 27) (ls' := [(2, Int.ofNat o0), (0, v1), (0, v2)]) (st' := [(0, v2), (0, v1), (2, Int.ofNat o0)]) rfl ?_
      refine jbind H (fun b6 Hb6 H => ?_)
      refine jEv.calV (st' := [(0, b6)]) (show jfI 271 27 (.invokevirtual 494) 3 [1, 259, 2, 9116] = true by decide +kernel) rfl (Or.inl rfl) rfl (Nat.le_of_ble_eq_true rfl) (by decide +kernel) (by decide) (isX12_L ho0) ((t_M_diskAt (T := T) (xs := xs) ho0 Hb6).mono (jKle 1 hd)) rfl ?_
      refine jEv.goto (t := 34) (show jfI 271 30 (.goto 4) 3 [] = true by decide +kernel) rfl ?_
      exact jEv.retI (show jfI 271 34 (.ireturn) 1 [] = true by decide +kernel) (by decide +kernel) (by cases H; exact HY)
set_option maxRecDepth 20000 in
noncomputable def M_place_p30  (h : jH)  : Option Int := some (-1)
set_option maxRecDepth 20000 in
theorem t_M_place_p30 {T : jT} {xs : List Int} {d : Nat} {y : jV × jS} (hd : 1 ≤ d) {h : jH}   {out : Int}  (H : M_place_p30 h = some out) (HY : ykIp T h y out) : jEv xs d (272, 30, [(3, 0), (3, 0)], []) (T, h) y := by
  unfold M_place_p30 at H
  refine jEv.blk [(.iconst (-1), 1, [])] (by decide +kernel) (pc' := 31) (ls' := [(3, 0), (3, 0)]) (st' := [(0, (-1))]) rfl ?_
  exact jEv.retI (show jfI 272 31 (.ireturn) 1 [] = true by decide +kernel) (by decide +kernel) (by cases H; exact HY)
set_option maxRecDepth 20000 in
noncomputable def M_place  (h : jH) (o0 : Nat) (v1 : Int) : Option Int := (if (h o0 43) = 0 then M_place_p30 h else Option.bind (M_isIn v1 0 2) (fun b2 => (if b2 = 0 then M_place_p30 h else (if (0 : Int) ≤ (wr (5 + v1)) ∧ ((wr (5 + v1)) : Int).toNat < 2365 then some (h (o0 + 33) ((wr (5 + v1)) : Int).toNat) else none))))
set_option maxRecDepth 20000 in
theorem t_M_place {T : jT} {xs : List Int} {h : jH}  {o0 : Nat} {v1 : Int} {out : Int} (ho0 : isX12 T o0) (H : M_place h o0 v1 = some out) : jEm xs 2 272 [(2, Int.ofNat o0), (0, v1)] (T, h) ((0, out), (T, h)) := by
  have hd : 1 ≤ 1 := Nat.le_refl _
  obtain ⟨y, ey⟩ : ∃ y : jV × jS, y = ((0, out), (T, h)) := ⟨_, rfl⟩
  rw [← ey]
  have HY : ykIp T h y out := ey
  refine jEm.ent (n := 2) (by decide +kernel) (Nat.le_of_ble_eq_true rfl) ?_
  show jEv xs 1 (272, 0, [(2, Int.ofNat o0), (0, v1)], []) (T, h) y
  unfold M_place at H
  refine jEv.blk [(.aload_n 0, 1, [])] (by decide +kernel) (pc' := 1) (ls' := [(2, Int.ofNat o0), (0, v1)]) (st' := [(2, Int.ofNat o0)]) rfl ?_
  refine jEv.gfI (show jfI 272 1 (.getfield 340) 3 [12, 43, 0, 1, 7079] = true by decide +kernel) (isX12_L ho0) (by decide) ?_
  refine jEv.if_eq (t := 30) (show jfI 272 4 (.ifCond .eq 26) 3 [] = true by decide +kernel) rfl H (fun c1 H => ?_) (fun c1 H => ?_)
  · exact jEv.weak (a := [(3, 0), (3, 0)]) (jles.c0 (jles.c0 jles.nl)) (t_M_place_p30 (T := T) (xs := xs) (y := y) hd H HY)
  · refine jEv.blk [(.iload_n 1, 1, []), (.i2l, 1, []), (.lconst 0, 1, []), (.ldc2_w 576, 3, [1, 0, 2, 9165])] (by decide +kernel) (pc' := 13) (ls' := [(2, Int.ofNat o0), (0, v1)]) (st' := [(1, 2), (1, 0), (1, v1)]) rfl ?_
    refine jbind H (fun b2 Hb2 H => ?_)
    refine jEv.calS (st' := [(0, b2)]) (show jfI 272 13 (.invokestatic 275) 3 [3, 213, 3, 8176] = true by decide +kernel) rfl (Or.inl rfl) rfl (Nat.le_of_ble_eq_true rfl) ((t_M_isIn (T := T) (xs := xs)  Hb2).mono (jKle 1 hd)) rfl ?_
    refine jEv.if_eq (t := 30) (show jfI 272 16 (.ifCond .eq 14) 3 [] = true by decide +kernel) rfl H (fun c3 H => ?_) (fun c3 H => ?_)
    · exact jEv.weak (a := [(3, 0), (3, 0)]) (jles.c0 (jles.c0 jles.nl)) (t_M_place_p30 (T := T) (xs := xs) (y := y) hd H HY)
    · refine jEv.blk [(.aload_n 0, 1, [])] (by decide +kernel) (pc' := 20) (ls' := [(2, Int.ofNat o0), (0, v1)]) (st' := [(2, Int.ofNat o0)]) rfl ?_
      refine jEv.gfR (o' := (o0 + 33)) (show jfI 272 20 (.getfield 111) 3 [12, 45, 5, 0, 7081] = true by decide +kernel) (isX12_L ho0) (by decide) (isX12_r45 ho0) ?_
      refine jEv.blk [(.iconst 5, 1, []), (.iload_n 1, 1, []), (.iadd, 1, [])] (by decide +kernel) (pc' := 26) (ls' := [(2, Int.ofNat o0), (0, v1)]) (st' := [(0, (wr (5 + v1))), (2, Int.ofNat (o0 + 33))]) rfl ?_
      refine jEv.ald (Or.inl ⟨rfl, rfl, rfl⟩) (show jfI 272 26 (.iaload) 1 [] = true by decide +kernel) (isX12_a45 ho0) H (fun c4 H => ?_)
      refine jEv.goto (t := 31) (show jfI 272 27 (.goto 4) 3 [] = true by decide +kernel) rfl ?_
      exact jEv.retI (show jfI 272 31 (.ireturn) 1 [] = true by decide +kernel) (by decide +kernel) (by cases H; exact HY)
set_option maxRecDepth 20000 in
noncomputable def M_value_p32  (h : jH)  : Option Int := some (-1)
set_option maxRecDepth 20000 in
theorem t_M_value_p32 {T : jT} {xs : List Int} {d : Nat} {y : jV × jS} (hd : 1 ≤ d) {h : jH}   {out : Int}  (H : M_value_p32 h = some out) (HY : ykIp T h y out) : jEv xs d (273, 32, [(3, 0), (3, 0)], []) (T, h) y := by
  unfold M_value_p32 at H
  refine jEv.blk [(.iconst (-1), 1, [])] (by decide +kernel) (pc' := 33) (ls' := [(3, 0), (3, 0)]) (st' := [(0, (-1))]) rfl ?_
  exact jEv.retI (show jfI 273 33 (.ireturn) 1 [] = true by decide +kernel) (by decide +kernel) (by cases H; exact HY)
set_option maxRecDepth 20000 in
noncomputable def M_value  (h : jH) (o0 : Nat) (v1 : Int) : Option Int := (if (h o0 43) = 0 then M_value_p32 h else Option.bind (M_isIn v1 0 15) (fun b2 => (if b2 = 0 then M_value_p32 h else (if (0 : Int) ≤ (wr (144 + v1)) ∧ ((wr (144 + v1)) : Int).toNat < 2365 then some (h (o0 + 33) ((wr (144 + v1)) : Int).toNat) else none))))
set_option maxRecDepth 20000 in
theorem t_M_value {T : jT} {xs : List Int} {h : jH}  {o0 : Nat} {v1 : Int} {out : Int} (ho0 : isX12 T o0) (H : M_value h o0 v1 = some out) : jEm xs 2 273 [(2, Int.ofNat o0), (0, v1)] (T, h) ((0, out), (T, h)) := by
  have hd : 1 ≤ 1 := Nat.le_refl _
  obtain ⟨y, ey⟩ : ∃ y : jV × jS, y = ((0, out), (T, h)) := ⟨_, rfl⟩
  rw [← ey]
  have HY : ykIp T h y out := ey
  refine jEm.ent (n := 2) (by decide +kernel) (Nat.le_of_ble_eq_true rfl) ?_
  show jEv xs 1 (273, 0, [(2, Int.ofNat o0), (0, v1)], []) (T, h) y
  unfold M_value at H
  refine jEv.blk [(.aload_n 0, 1, [])] (by decide +kernel) (pc' := 1) (ls' := [(2, Int.ofNat o0), (0, v1)]) (st' := [(2, Int.ofNat o0)]) rfl ?_
  refine jEv.gfI (show jfI 273 1 (.getfield 340) 3 [12, 43, 0, 1, 7079] = true by decide +kernel) (isX12_L ho0) (by decide) ?_
  refine jEv.if_eq (t := 32) (show jfI 273 4 (.ifCond .eq 28) 3 [] = true by decide +kernel) rfl H (fun c1 H => ?_) (fun c1 H => ?_)
  · exact jEv.weak (a := [(3, 0), (3, 0)]) (jles.c0 (jles.c0 jles.nl)) (t_M_value_p32 (T := T) (xs := xs) (y := y) hd H HY)
  · refine jEv.blk [(.iload_n 1, 1, []), (.i2l, 1, []), (.lconst 0, 1, []), (.ldc2_w 578, 3, [1, 0, 15, 9178])] (by decide +kernel) (pc' := 13) (ls' := [(2, Int.ofNat o0), (0, v1)]) (st' := [(1, 15), (1, 0), (1, v1)]) rfl ?_
    refine jbind H (fun b2 Hb2 H => ?_)
    refine jEv.calS (st' := [(0, b2)]) (show jfI 273 13 (.invokestatic 275) 3 [3, 213, 3, 8176] = true by decide +kernel) rfl (Or.inl rfl) rfl (Nat.le_of_ble_eq_true rfl) ((t_M_isIn (T := T) (xs := xs)  Hb2).mono (jKle 1 hd)) rfl ?_
    refine jEv.if_eq (t := 32) (show jfI 273 16 (.ifCond .eq 16) 3 [] = true by decide +kernel) rfl H (fun c3 H => ?_) (fun c3 H => ?_)
    · exact jEv.weak (a := [(3, 0), (3, 0)]) (jles.c0 (jles.c0 jles.nl)) (t_M_value_p32 (T := T) (xs := xs) (y := y) hd H HY)
    · refine jEv.blk [(.aload_n 0, 1, [])] (by decide +kernel) (pc' := 20) (ls' := [(2, Int.ofNat o0), (0, v1)]) (st' := [(2, Int.ofNat o0)]) rfl ?_
      refine jEv.gfR (o' := (o0 + 33)) (show jfI 273 20 (.getfield 111) 3 [12, 45, 5, 0, 7081] = true by decide +kernel) (isX12_L ho0) (by decide) (isX12_r45 ho0) ?_
      refine jEv.blk [(.sipush 144, 3, []), (.iload_n 1, 1, []), (.iadd, 1, [])] (by decide +kernel) (pc' := 28) (ls' := [(2, Int.ofNat o0), (0, v1)]) (st' := [(0, (wr (144 + v1))), (2, Int.ofNat (o0 + 33))]) rfl ?_
      refine jEv.ald (Or.inl ⟨rfl, rfl, rfl⟩) (show jfI 273 28 (.iaload) 1 [] = true by decide +kernel) (isX12_a45 ho0) H (fun c4 H => ?_)
      refine jEv.goto (t := 33) (show jfI 273 29 (.goto 4) 3 [] = true by decide +kernel) rfl ?_
      exact jEv.retI (show jfI 273 33 (.ireturn) 1 [] = true by decide +kernel) (by decide +kernel) (by cases H; exact HY)
set_option maxRecDepth 20000 in
noncomputable def M_recordOf  (h : jH) (o0 : Nat) (v1 : Int) (v2 : Int) : Option Int := (if (0 : Int) ≤ (wr ((wr (16 + (wr (4 * (jand v1 31))))) + v2)) ∧ ((wr ((wr (16 + (wr (4 * (jand v1 31))))) + v2)) : Int).toNat < 2365 then some (h (o0 + 33) ((wr ((wr (16 + (wr (4 * (jand v1 31))))) + v2)) : Int).toNat) else none)
set_option maxRecDepth 20000 in
theorem t_M_recordOf {T : jT} {xs : List Int} {h : jH}  {o0 : Nat} {v1 : Int} {v2 : Int} {out : Int} (ho0 : isX12 T o0) (H : M_recordOf h o0 v1 v2 = some out) : jEm xs 1 275 [(2, Int.ofNat o0), (0, v1), (0, v2)] (T, h) ((0, out), (T, h)) := by
  have hd : 0 ≤ 0 := Nat.le_refl _
  obtain ⟨y, ey⟩ : ∃ y : jV × jS, y = ((0, out), (T, h)) := ⟨_, rfl⟩
  rw [← ey]
  have HY : ykIp T h y out := ey
  refine jEm.ent (n := 3) (by decide +kernel) (Nat.le_of_ble_eq_true rfl) ?_
  show jEv xs 0 (275, 0, [(2, Int.ofNat o0), (0, v1), (0, v2)], []) (T, h) y
  unfold M_recordOf at H
  refine jEv.blk [(.aload_n 0, 1, [])] (by decide +kernel) (pc' := 1) (ls' := [(2, Int.ofNat o0), (0, v1), (0, v2)]) (st' := [(2, Int.ofNat o0)]) rfl ?_
  refine jEv.gfR (o' := (o0 + 33)) (show jfI 275 1 (.getfield 111) 3 [12, 45, 5, 0, 7081] = true by decide +kernel) (isX12_L ho0) (by decide) (isX12_r45 ho0) ?_
  refine jEv.blk [(.bipush 16, 2, []), (.iconst 4, 1, []), (.iload_n 1, 1, []), (.bipush 31, 2, []), (.iand, 1, []), (.imul, 1, []), (.iadd, 1, []), (.iload_n 2, 1, []), (.iadd, 1, [])] (by decide +kernel) (pc' := 15) (ls' := [(2, Int.ofNat o0), (0, v1), (0, v2)]) (st' := [(0, (wr ((wr (16 + (wr (4 * (jand v1 31))))) + v2))), (2, Int.ofNat (o0 + 33))]) rfl ?_
  refine jEv.ald (Or.inl ⟨rfl, rfl, rfl⟩) (show jfI 275 15 (.iaload) 1 [] = true by decide +kernel) (isX12_a45 ho0) H (fun c1 H => ?_)
  exact jEv.retI (show jfI 275 16 (.ireturn) 1 [] = true by decide +kernel) (by decide +kernel) (by cases H; exact HY)
def yk_M_soon_L13 (T : jT) (xs : List Int) (d : Nat) (y : jV × jS) (h : jH)  (o0 : Nat) (v1 : Int) : ((Int × Int) ⊕ Int) → Prop
  | .inl (v2, v3) => jEv xs d (274, 13, [(2, Int.ofNat o0), (0, v1), (0, v2), (0, v3)], []) (T, h) y
  | .inr o => ykIp T h y o
set_option maxRecDepth 20000 in
noncomputable def M_soon_B13  (h : jH) (o0 : Nat) (v1 : Int) (v2 : Int) (v3 : Int) : Option ((Int × Int) ⊕ Int) := (if (0 : Int) ≤ 1 ∧ (1 : Int).toNat < 2365 then (if v3 < (h (o0 + 33) (1 : Int).toNat) then Option.bind (M_recordOf h o0 v3 0) (fun b5 => (if b5 = v1 then Option.bind (M_recordOf h o0 v3 1) (fun b7 => some (.inl (b7, (wr (v3 + 1))))) else some (.inl (v2, (wr (v3 + 1)))))) else Option.map Sum.inr (some v2)) else none)
noncomputable def M_soon_L13  (h : jH) (o0 : Nat) (v1 : Int) (v2 : Int) (v3 : Int) : Option Int := jloop (fun s : (Int × Int) => M_soon_B13 h o0 v1 s.1 s.2) (v2, v3)
set_option maxRecDepth 20000 in
theorem t_M_soon_B13 {T : jT} {xs : List Int} {d : Nat} {y : jV × jS} (hd : 2 ≤ d) {h : jH}  {o0 : Nat} {v1 : Int} {v2 : Int} {v3 : Int} {out : ((Int × Int) ⊕ Int)} (ho0 : isX12 T o0) (H : M_soon_B13 h o0 v1 v2 v3 = some out) (HY : yk_M_soon_L13 T xs d y h o0 v1 out) : jEv xs d (274, 13, [(2, Int.ofNat o0), (0, v1), (0, v2), (0, v3)], []) (T, h) y := by
  unfold M_soon_B13 at H
  refine jEv.blk [(.iload_n 3, 1, []), (.aload_n 0, 1, [])] (by decide +kernel) (pc' := 15) (ls' := [(2, Int.ofNat o0), (0, v1), (0, v2), (0, v3)]) (st' := [(2, Int.ofNat o0), (0, v3)]) rfl ?_
  refine jEv.gfR (o' := (o0 + 33)) (show jfI 274 15 (.getfield 111) 3 [12, 45, 5, 0, 7081] = true by decide +kernel) (isX12_L ho0) (by decide) (isX12_r45 ho0) ?_
  refine jEv.blk [(.iconst 1, 1, [])] (by decide +kernel) (pc' := 19) (ls' := [(2, Int.ofNat o0), (0, v1), (0, v2), (0, v3)]) (st' := [(0, 1), (2, Int.ofNat (o0 + 33)), (0, v3)]) rfl ?_
  refine jEv.ald (Or.inl ⟨rfl, rfl, rfl⟩) (show jfI 274 19 (.iaload) 1 [] = true by decide +kernel) (isX12_a45 ho0) H (fun c3 H => ?_)
  refine jEv.ic_ge (t := 46) (show jfI 274 20 (.if_icmp .ge 26) 3 [] = true by decide +kernel) rfl H (fun c4 H => ?_) (fun c4 H => ?_)
  · refine jEv.blk [(.aload_n 0, 1, []), (.iload_n 3, 1, []), (.iconst 0, 1, [])] (by decide +kernel) (pc' := 26) (ls' := [(2, Int.ofNat o0), (0, v1), (0, v2), (0, v3)]) (st' := [(0, 0), (0, v3), (2, Int.ofNat o0)]) rfl ?_
    refine jbind H (fun b5 Hb5 H => ?_)
    refine jEv.calV (st' := [(0, b5)]) (show jfI 274 26 (.invokevirtual 363) 3 [1, 275, 2, 9184] = true by decide +kernel) rfl (Or.inl rfl) rfl (Nat.le_of_ble_eq_true rfl) (by decide +kernel) (by decide) (isX12_L ho0) ((t_M_recordOf (T := T) (xs := xs) ho0 Hb5).mono (jKle 1 hd)) rfl ?_
    refine jEv.blk [(.iload_n 1, 1, [])] (by decide +kernel) (pc' := 30) (ls' := [(2, Int.ofNat o0), (0, v1), (0, v2), (0, v3)]) (st' := [(0, v1), (0, b5)]) rfl ?_
    refine jEv.ic_ne (t := 40) (show jfI 274 30 (.if_icmp .ne 10) 3 [] = true by decide +kernel) rfl H (fun c6 H => ?_) (fun c6 H => ?_)
    · refine jEv.blk [(.aload_n 0, 1, []), (.iload_n 3, 1, []), (.iconst 1, 1, [])] (by decide +kernel) (pc' := 36) (ls' := [(2, Int.ofNat o0), (0, v1), (0, v2), (0, v3)]) (st' := [(0, 1), (0, v3), (2, Int.ofNat o0)]) rfl ?_
      refine jbind H (fun b7 Hb7 H => ?_)
      refine jEv.calV (st' := [(0, b7)]) (show jfI 274 36 (.invokevirtual 363) 3 [1, 275, 2, 9184] = true by decide +kernel) rfl (Or.inl rfl) rfl (Nat.le_of_ble_eq_true rfl) (by decide +kernel) (by decide) (isX12_L ho0) ((t_M_recordOf (T := T) (xs := xs) ho0 Hb7).mono (jKle 1 hd)) rfl ?_
      refine jEv.blk [(.istore_n 2, 1, [])] (by decide +kernel) (pc' := 40) (ls' := [(2, Int.ofNat o0), (0, v1), (0, b7), (0, v3)]) (st' := []) rfl ?_
      refine jEv.blk [(.iinc 3 1, 3, [])] (by decide +kernel) (pc' := 43) (ls' := [(2, Int.ofNat o0), (0, v1), (0, b7), (0, (wr (v3 + 1)))]) (st' := []) rfl ?_
      refine jEv.goto (t := 13) (show jfI 274 43 (.goto (-30)) 3 [] = true by decide +kernel) rfl ?_
      exact (by cases H; exact HY)
    · refine jEv.blk [(.iinc 3 1, 3, [])] (by decide +kernel) (pc' := 43) (ls' := [(2, Int.ofNat o0), (0, v1), (0, v2), (0, (wr (v3 + 1)))]) (st' := []) rfl ?_
      refine jEv.goto (t := 13) (show jfI 274 43 (.goto (-30)) 3 [] = true by decide +kernel) rfl ?_
      exact (by cases H; exact HY)
  · refine jmapr H HY (fun out H (HY : ykIp T h y out) => ?_)
    refine jEv.blk [(.iload_n 2, 1, [])] (by decide +kernel) (pc' := 47) (ls' := [(2, Int.ofNat o0), (0, v1), (0, v2), (0, v3)]) (st' := [(0, v2)]) rfl ?_
    exact jEv.retI (show jfI 274 47 (.ireturn) 1 [] = true by decide +kernel) (by decide +kernel) (by cases H; exact HY)
theorem t_M_soon_L13 {T : jT} {xs : List Int} {d : Nat} {y : jV × jS} (hd : 2 ≤ d) {h : jH}  {o0 : Nat} {v1 : Int} {v2 : Int} {v3 : Int} {out : Int} (ho0 : isX12 T o0) (H : M_soon_L13 h o0 v1 v2 v3 = some out) (HY : ykIp T h y out) : jEv xs d (274, 13, [(2, Int.ofNat o0), (0, v1), (0, v2), (0, v3)], []) (T, h) y :=
  jloop_sound (G := fun s : (Int × Int) => jEv xs d (274, 13, [(2, Int.ofNat o0), (0, v1), (0, s.1), (0, s.2)], []) (T, h) y) (K := yk_M_soon_L13 T xs d y h o0 v1) (fun s out H HY => t_M_soon_B13 hd ho0 H HY) (fun s' hg => hg) (s := (v2, v3)) H HY
set_option maxRecDepth 20000 in
noncomputable def M_soon  (h : jH) (o0 : Nat) (v1 : Int) : Option Int := Option.bind (M_value h o0 v1) (fun b1 => (if (0 : Int) ≤ 2 ∧ (2 : Int).toNat < 2365 then M_soon_L13 h o0 v1 b1 (h (o0 + 33) (2 : Int).toNat) else none))
set_option maxRecDepth 20000 in
theorem t_M_soon {T : jT} {xs : List Int} {h : jH}  {o0 : Nat} {v1 : Int} {out : Int} (ho0 : isX12 T o0) (H : M_soon h o0 v1 = some out) : jEm xs 3 274 [(2, Int.ofNat o0), (0, v1)] (T, h) ((0, out), (T, h)) := by
  have hd : 2 ≤ 2 := Nat.le_refl _
  obtain ⟨y, ey⟩ : ∃ y : jV × jS, y = ((0, out), (T, h)) := ⟨_, rfl⟩
  rw [← ey]
  have HY : ykIp T h y out := ey
  refine jEm.ent (n := 4) (by decide +kernel) (Nat.le_of_ble_eq_true rfl) ?_
  show jEv xs 2 (274, 0, [(2, Int.ofNat o0), (0, v1), (3, 0), (3, 0)], []) (T, h) y
  unfold M_soon at H
  refine jEv.blk [(.aload_n 0, 1, []), (.iload_n 1, 1, [])] (by decide +kernel) (pc' := 2) (ls' := [(2, Int.ofNat o0), (0, v1), (3, 0), (3, 0)]) (st' := [(0, v1), (2, Int.ofNat o0)]) rfl ?_
  refine jbind H (fun b1 Hb1 H => ?_)
  refine jEv.calV (st' := [(0, b1)]) (show jfI 274 2 (.invokevirtual 580) 3 [1, 273, 1, 9183] = true by decide +kernel) rfl (Or.inl rfl) rfl (Nat.le_of_ble_eq_true rfl) (by decide +kernel) (by decide) (isX12_L ho0) ((t_M_value (T := T) (xs := xs) ho0 Hb1).mono (jKle 2 hd)) rfl ?_
  refine jEv.blk [(.istore_n 2, 1, []), (.aload_n 0, 1, [])] (by decide +kernel) (pc' := 7) (ls' := [(2, Int.ofNat o0), (0, v1), (0, b1), (3, 0)]) (st' := [(2, Int.ofNat o0)]) rfl ?_
  refine jEv.gfR (o' := (o0 + 33)) (show jfI 274 7 (.getfield 111) 3 [12, 45, 5, 0, 7081] = true by decide +kernel) (isX12_L ho0) (by decide) (isX12_r45 ho0) ?_
  refine jEv.blk [(.iconst 2, 1, [])] (by decide +kernel) (pc' := 11) (ls' := [(2, Int.ofNat o0), (0, v1), (0, b1), (3, 0)]) (st' := [(0, 2), (2, Int.ofNat (o0 + 33))]) rfl ?_
  refine jEv.ald (Or.inl ⟨rfl, rfl, rfl⟩) (show jfI 274 11 (.iaload) 1 [] = true by decide +kernel) (isX12_a45 ho0) H (fun c2 H => ?_)
  refine jEv.blk [(.istore_n 3, 1, [])] (by decide +kernel) (pc' := 13) (ls' := [(2, Int.ofNat o0), (0, v1), (0, b1), (0, (h (o0 + 33) (2 : Int).toNat))]) (st' := []) rfl ?_
  exact t_M_soon_L13 (T := T) (xs := xs) (y := y) hd ho0 H HY
set_option maxRecDepth 20000 in
noncomputable def M_waiting  (h : jH) (o0 : Nat) (v1 : Int) (v2 : Int) : Option Int := (if (0 : Int) ≤ 11 ∧ (11 : Int).toNat < 2365 then Option.bind (M_isIn v1 0 (wr ((h (o0 + 33) (11 : Int).toNat) - 1))) (fun b2 => (if b2 = 0 then some (-1) else Option.bind (M_isIn v2 0 3) (fun b4 => (if b4 = 0 then some (-1) else (if (0 : Int) ≤ 1 ∧ (1 : Int).toNat < 2365 then (if (0 : Int) ≤ 11 ∧ (11 : Int).toNat < 2365 then (if v2 = 0 then some (wr ((wr ((h (o0 + 33) (1 : Int).toNat) - (h (o0 + 33) (11 : Int).toNat))) + v1)) else Option.bind (M_recordOf h o0 (wr ((wr ((h (o0 + 33) (1 : Int).toNat) - (h (o0 + 33) (11 : Int).toNat))) + v1)) (wr (v2 - 1))) (fun b9 => some b9)) else none) else none))))) else none)
set_option maxRecDepth 20000 in
theorem t_M_waiting {T : jT} {xs : List Int} {h : jH}  {o0 : Nat} {v1 : Int} {v2 : Int} {out : Int} (ho0 : isX12 T o0) (H : M_waiting h o0 v1 v2 = some out) : jEm xs 2 276 [(2, Int.ofNat o0), (0, v1), (0, v2)] (T, h) ((0, out), (T, h)) := by
  have hd : 1 ≤ 1 := Nat.le_refl _
  obtain ⟨y, ey⟩ : ∃ y : jV × jS, y = ((0, out), (T, h)) := ⟨_, rfl⟩
  rw [← ey]
  have HY : ykIp T h y out := ey
  refine jEm.ent (n := 4) (by decide +kernel) (Nat.le_of_ble_eq_true rfl) ?_
  show jEv xs 1 (276, 0, [(2, Int.ofNat o0), (0, v1), (0, v2), (3, 0)], []) (T, h) y
  unfold M_waiting at H
  refine jEv.blk [(.iload_n 1, 1, []), (.i2l, 1, []), (.lconst 0, 1, []), (.aload_n 0, 1, [])] (by decide +kernel) (pc' := 4) (ls' := [(2, Int.ofNat o0), (0, v1), (0, v2), (3, 0)]) (st' := [(2, Int.ofNat o0), (1, 0), (1, v1)]) rfl ?_
  refine jEv.gfR (o' := (o0 + 33)) (show jfI 276 4 (.getfield 111) 3 [12, 45, 5, 0, 7081] = true by decide +kernel) (isX12_L ho0) (by decide) (isX12_r45 ho0) ?_
  refine jEv.blk [(.bipush 11, 2, [])] (by decide +kernel) (pc' := 9) (ls' := [(2, Int.ofNat o0), (0, v1), (0, v2), (3, 0)]) (st' := [(0, 11), (2, Int.ofNat (o0 + 33)), (1, 0), (1, v1)]) rfl ?_
  refine jEv.ald (Or.inl ⟨rfl, rfl, rfl⟩) (show jfI 276 9 (.iaload) 1 [] = true by decide +kernel) (isX12_a45 ho0) H (fun c1 H => ?_)
  refine jEv.blk [(.iconst 1, 1, []), (.isub, 1, []), (.i2l, 1, [])] (by decide +kernel) (pc' := 13) (ls' := [(2, Int.ofNat o0), (0, v1), (0, v2), (3, 0)]) (st' := [(1, (wr ((h (o0 + 33) (11 : Int).toNat) - 1))), (1, 0), (1, v1)]) rfl ?_
  refine jbind H (fun b2 Hb2 H => ?_)
  refine jEv.calS (st' := [(0, b2)]) (show jfI 276 13 (.invokestatic 275) 3 [3, 213, 3, 8176] = true by decide +kernel) rfl (Or.inl rfl) rfl (Nat.le_of_ble_eq_true rfl) ((t_M_isIn (T := T) (xs := xs)  Hb2).mono (jKle 1 hd)) rfl ?_
  refine jEv.if_eq (t := 31) (show jfI 276 16 (.ifCond .eq 15) 3 [] = true by decide +kernel) rfl H (fun c3 H => ?_) (fun c3 H => ?_)
  · refine jEv.blk [(.iconst (-1), 1, [])] (by decide +kernel) (pc' := 32) (ls' := [(2, Int.ofNat o0), (0, v1), (0, v2), (3, 0)]) (st' := [(0, (-1))]) rfl ?_
    exact jEv.retI (show jfI 276 32 (.ireturn) 1 [] = true by decide +kernel) (by decide +kernel) (by cases H; exact HY)
  · refine jEv.blk [(.iload_n 2, 1, []), (.i2l, 1, []), (.lconst 0, 1, []), (.ldc2_w 583, 3, [1, 0, 3, 9192])] (by decide +kernel) (pc' := 25) (ls' := [(2, Int.ofNat o0), (0, v1), (0, v2), (3, 0)]) (st' := [(1, 3), (1, 0), (1, v2)]) rfl ?_
    refine jbind H (fun b4 Hb4 H => ?_)
    refine jEv.calS (st' := [(0, b4)]) (show jfI 276 25 (.invokestatic 275) 3 [3, 213, 3, 8176] = true by decide +kernel) rfl (Or.inl rfl) rfl (Nat.le_of_ble_eq_true rfl) ((t_M_isIn (T := T) (xs := xs)  Hb4).mono (jKle 1 hd)) rfl ?_
    refine jEv.if_ne (t := 33) (show jfI 276 28 (.ifCond .ne 5) 3 [] = true by decide +kernel) rfl H (fun c5 H => ?_) (fun c5 H => ?_)
    · refine jEv.blk [(.iconst (-1), 1, [])] (by decide +kernel) (pc' := 32) (ls' := [(2, Int.ofNat o0), (0, v1), (0, v2), (3, 0)]) (st' := [(0, (-1))]) rfl ?_
      exact jEv.retI (show jfI 276 32 (.ireturn) 1 [] = true by decide +kernel) (by decide +kernel) (by cases H; exact HY)
    · refine jEv.blk [(.aload_n 0, 1, [])] (by decide +kernel) (pc' := 34) (ls' := [(2, Int.ofNat o0), (0, v1), (0, v2), (3, 0)]) (st' := [(2, Int.ofNat o0)]) rfl ?_
      refine jEv.gfR (o' := (o0 + 33)) (show jfI 276 34 (.getfield 111) 3 [12, 45, 5, 0, 7081] = true by decide +kernel) (isX12_L ho0) (by decide) (isX12_r45 ho0) ?_
      refine jEv.blk [(.iconst 1, 1, [])] (by decide +kernel) (pc' := 38) (ls' := [(2, Int.ofNat o0), (0, v1), (0, v2), (3, 0)]) (st' := [(0, 1), (2, Int.ofNat (o0 + 33))]) rfl ?_
      refine jEv.ald (Or.inl ⟨rfl, rfl, rfl⟩) (show jfI 276 38 (.iaload) 1 [] = true by decide +kernel) (isX12_a45 ho0) H (fun c6 H => ?_)
      refine jEv.blk [(.aload_n 0, 1, [])] (by decide +kernel) (pc' := 40) (ls' := [(2, Int.ofNat o0), (0, v1), (0, v2), (3, 0)]) (st' := [(2, Int.ofNat o0), (0, (h (o0 + 33) (1 : Int).toNat))]) rfl ?_
      refine jEv.gfR (o' := (o0 + 33)) (show jfI 276 40 (.getfield 111) 3 [12, 45, 5, 0, 7081] = true by decide +kernel) (isX12_L ho0) (by decide) (isX12_r45 ho0) ?_
      refine jEv.blk [(.bipush 11, 2, [])] (by decide +kernel) (pc' := 45) (ls' := [(2, Int.ofNat o0), (0, v1), (0, v2), (3, 0)]) (st' := [(0, 11), (2, Int.ofNat (o0 + 33)), (0, (h (o0 + 33) (1 : Int).toNat))]) rfl ?_
      refine jEv.ald (Or.inl ⟨rfl, rfl, rfl⟩) (show jfI 276 45 (.iaload) 1 [] = true by decide +kernel) (isX12_a45 ho0) H (fun c7 H => ?_)
      refine jEv.blk [(.isub, 1, []), (.iload_n 1, 1, []), (.iadd, 1, []), (.istore_n 3, 1, []), (.iload_n 2, 1, [])] (by decide +kernel) (pc' := 51) (ls' := [(2, Int.ofNat o0), (0, v1), (0, v2), (0, (wr ((wr ((h (o0 + 33) (1 : Int).toNat) - (h (o0 + 33) (11 : Int).toNat))) + v1)))]) (st' := [(0, v2)]) rfl ?_
      refine jEv.if_ne (t := 58) (show jfI 276 51 (.ifCond .ne 7) 3 [] = true by decide +kernel) rfl H (fun c8 H => ?_) (fun c8 H => ?_)
      · refine jEv.blk [(.iload_n 3, 1, [])] (by decide +kernel) (pc' := 55) (ls' := [(2, Int.ofNat o0), (0, v1), (0, v2), (0, (wr ((wr ((h (o0 + 33) (1 : Int).toNat) - (h (o0 + 33) (11 : Int).toNat))) + v1)))]) (st' := [(0, (wr ((wr ((h (o0 + 33) (1 : Int).toNat) - (h (o0 + 33) (11 : Int).toNat))) + v1)))]) rfl ?_
        refine jEv.goto (t := 66) (show jfI 276 55 (.goto 11) 3 [] = true by decide +kernel) rfl ?_
        exact jEv.retI (show jfI 276 66 (.ireturn) 1 [] = true by decide +kernel) (by decide +kernel) (by cases H; exact HY)
      · refine jEv.blk [(.aload_n 0, 1, []), (.iload_n 3, 1, []), (.iload_n 2, 1, []), (.iconst 1, 1, []), (.isub, 1, [])] (by decide +kernel) (pc' := 63) (ls' := [(2, Int.ofNat o0), (0, v1), (0, v2), (0, (wr ((wr ((h (o0 + 33) (1 : Int).toNat) - (h (o0 + 33) (11 : Int).toNat))) + v1)))]) (st' := [(0, (wr (v2 - 1))), (0, (wr ((wr ((h (o0 + 33) (1 : Int).toNat) - (h (o0 + 33) (11 : Int).toNat))) + v1))), (2, Int.ofNat o0)]) rfl ?_
        refine jbind H (fun b9 Hb9 H => ?_)
        refine jEv.calV (st' := [(0, b9)]) (show jfI 276 63 (.invokevirtual 363) 3 [1, 275, 2, 9184] = true by decide +kernel) rfl (Or.inl rfl) rfl (Nat.le_of_ble_eq_true rfl) (by decide +kernel) (by decide) (isX12_L ho0) ((t_M_recordOf (T := T) (xs := xs) ho0 Hb9).mono (jKle 1 hd)) rfl ?_
        exact jEv.retI (show jfI 276 66 (.ireturn) 1 [] = true by decide +kernel) (by decide +kernel) (by cases H; exact HY)
set_option maxRecDepth 20000 in
noncomputable def M_waiter_p32  (h : jH)  : Option Int := some (-1)
set_option maxRecDepth 20000 in
theorem t_M_waiter_p32 {T : jT} {xs : List Int} {d : Nat} {y : jV × jS} (hd : 1 ≤ d) {h : jH}   {out : Int}  (H : M_waiter_p32 h = some out) (HY : ykIp T h y out) : jEv xs d (277, 32, [(3, 0), (3, 0)], []) (T, h) y := by
  unfold M_waiter_p32 at H
  refine jEv.blk [(.iconst (-1), 1, [])] (by decide +kernel) (pc' := 33) (ls' := [(3, 0), (3, 0)]) (st' := [(0, (-1))]) rfl ?_
  exact jEv.retI (show jfI 277 33 (.ireturn) 1 [] = true by decide +kernel) (by decide +kernel) (by cases H; exact HY)
set_option maxRecDepth 20000 in
noncomputable def M_waiter  (h : jH) (o0 : Nat) (v1 : Int) : Option Int := (if (h o0 43) = 0 then M_waiter_p32 h else Option.bind (M_isIn v1 0 7) (fun b2 => (if b2 = 0 then M_waiter_p32 h else (if (0 : Int) ≤ (wr (184 + v1)) ∧ ((wr (184 + v1)) : Int).toNat < 2365 then some (h (o0 + 33) ((wr (184 + v1)) : Int).toNat) else none))))
set_option maxRecDepth 20000 in
theorem t_M_waiter {T : jT} {xs : List Int} {h : jH}  {o0 : Nat} {v1 : Int} {out : Int} (ho0 : isX12 T o0) (H : M_waiter h o0 v1 = some out) : jEm xs 2 277 [(2, Int.ofNat o0), (0, v1)] (T, h) ((0, out), (T, h)) := by
  have hd : 1 ≤ 1 := Nat.le_refl _
  obtain ⟨y, ey⟩ : ∃ y : jV × jS, y = ((0, out), (T, h)) := ⟨_, rfl⟩
  rw [← ey]
  have HY : ykIp T h y out := ey
  refine jEm.ent (n := 2) (by decide +kernel) (Nat.le_of_ble_eq_true rfl) ?_
  show jEv xs 1 (277, 0, [(2, Int.ofNat o0), (0, v1)], []) (T, h) y
  unfold M_waiter at H
  refine jEv.blk [(.aload_n 0, 1, [])] (by decide +kernel) (pc' := 1) (ls' := [(2, Int.ofNat o0), (0, v1)]) (st' := [(2, Int.ofNat o0)]) rfl ?_
  refine jEv.gfI (show jfI 277 1 (.getfield 340) 3 [12, 43, 0, 1, 7079] = true by decide +kernel) (isX12_L ho0) (by decide) ?_
  refine jEv.if_eq (t := 32) (show jfI 277 4 (.ifCond .eq 28) 3 [] = true by decide +kernel) rfl H (fun c1 H => ?_) (fun c1 H => ?_)
  · exact jEv.weak (a := [(3, 0), (3, 0)]) (jles.c0 (jles.c0 jles.nl)) (t_M_waiter_p32 (T := T) (xs := xs) (y := y) hd H HY)
  · refine jEv.blk [(.iload_n 1, 1, []), (.i2l, 1, []), (.lconst 0, 1, []), (.ldc2_w 585, 3, [1, 0, 7, 9197])] (by decide +kernel) (pc' := 13) (ls' := [(2, Int.ofNat o0), (0, v1)]) (st' := [(1, 7), (1, 0), (1, v1)]) rfl ?_
    refine jbind H (fun b2 Hb2 H => ?_)
    refine jEv.calS (st' := [(0, b2)]) (show jfI 277 13 (.invokestatic 275) 3 [3, 213, 3, 8176] = true by decide +kernel) rfl (Or.inl rfl) rfl (Nat.le_of_ble_eq_true rfl) ((t_M_isIn (T := T) (xs := xs)  Hb2).mono (jKle 1 hd)) rfl ?_
    refine jEv.if_eq (t := 32) (show jfI 277 16 (.ifCond .eq 16) 3 [] = true by decide +kernel) rfl H (fun c3 H => ?_) (fun c3 H => ?_)
    · exact jEv.weak (a := [(3, 0), (3, 0)]) (jles.c0 (jles.c0 jles.nl)) (t_M_waiter_p32 (T := T) (xs := xs) (y := y) hd H HY)
    · refine jEv.blk [(.aload_n 0, 1, [])] (by decide +kernel) (pc' := 20) (ls' := [(2, Int.ofNat o0), (0, v1)]) (st' := [(2, Int.ofNat o0)]) rfl ?_
      refine jEv.gfR (o' := (o0 + 33)) (show jfI 277 20 (.getfield 111) 3 [12, 45, 5, 0, 7081] = true by decide +kernel) (isX12_L ho0) (by decide) (isX12_r45 ho0) ?_
      refine jEv.blk [(.sipush 184, 3, []), (.iload_n 1, 1, []), (.iadd, 1, [])] (by decide +kernel) (pc' := 28) (ls' := [(2, Int.ofNat o0), (0, v1)]) (st' := [(0, (wr (184 + v1))), (2, Int.ofNat (o0 + 33))]) rfl ?_
      refine jEv.ald (Or.inl ⟨rfl, rfl, rfl⟩) (show jfI 277 28 (.iaload) 1 [] = true by decide +kernel) (isX12_a45 ho0) H (fun c4 H => ?_)
      refine jEv.goto (t := 33) (show jfI 277 29 (.goto 4) 3 [] = true by decide +kernel) rfl ?_
      exact jEv.retI (show jfI 277 33 (.ireturn) 1 [] = true by decide +kernel) (by decide +kernel) (by cases H; exact HY)
set_option maxRecDepth 20000 in
noncomputable def M_kept_p49  (h : jH)  : Option Int := some (-1)
set_option maxRecDepth 20000 in
theorem t_M_kept_p49 {T : jT} {xs : List Int} {d : Nat} {y : jV × jS} (hd : 1 ≤ d) {h : jH}   {out : Int}  (H : M_kept_p49 h = some out) (HY : ykIp T h y out) : jEv xs d (278, 49, [(3, 0), (3, 0), (3, 0)], []) (T, h) y := by
  unfold M_kept_p49 at H
  refine jEv.blk [(.iconst (-1), 1, [])] (by decide +kernel) (pc' := 50) (ls' := [(3, 0), (3, 0), (3, 0)]) (st' := [(0, (-1))]) rfl ?_
  exact jEv.retI (show jfI 278 50 (.ireturn) 1 [] = true by decide +kernel) (by decide +kernel) (by cases H; exact HY)
set_option maxRecDepth 20000 in
noncomputable def M_kept  (h : jH) (o0 : Nat) (v1 : Int) (v2 : Int) : Option Int := (if (0 : Int) ≤ 2244 ∧ (2244 : Int).toNat < 2365 then Option.bind (M_isIn v1 0 (wr ((h (o0 + 33) (2244 : Int).toNat) - 1))) (fun b2 => (if b2 = 0 then M_kept_p49 h else Option.bind (M_isIn v2 0 2) (fun b4 => (if b4 = 0 then M_kept_p49 h else (if (0 : Int) ≤ (wr ((wr (2245 + (wr (3 * v1)))) + v2)) ∧ ((wr ((wr (2245 + (wr (3 * v1)))) + v2)) : Int).toNat < 2365 then some (h (o0 + 33) ((wr ((wr (2245 + (wr (3 * v1)))) + v2)) : Int).toNat) else none))))) else none)
set_option maxRecDepth 20000 in
theorem t_M_kept {T : jT} {xs : List Int} {h : jH}  {o0 : Nat} {v1 : Int} {v2 : Int} {out : Int} (ho0 : isX12 T o0) (H : M_kept h o0 v1 v2 = some out) : jEm xs 2 278 [(2, Int.ofNat o0), (0, v1), (0, v2)] (T, h) ((0, out), (T, h)) := by
  have hd : 1 ≤ 1 := Nat.le_refl _
  obtain ⟨y, ey⟩ : ∃ y : jV × jS, y = ((0, out), (T, h)) := ⟨_, rfl⟩
  rw [← ey]
  have HY : ykIp T h y out := ey
  refine jEm.ent (n := 3) (by decide +kernel) (Nat.le_of_ble_eq_true rfl) ?_
  show jEv xs 1 (278, 0, [(2, Int.ofNat o0), (0, v1), (0, v2)], []) (T, h) y
  unfold M_kept at H
  refine jEv.blk [(.iload_n 1, 1, []), (.i2l, 1, []), (.lconst 0, 1, []), (.aload_n 0, 1, [])] (by decide +kernel) (pc' := 4) (ls' := [(2, Int.ofNat o0), (0, v1), (0, v2)]) (st' := [(2, Int.ofNat o0), (1, 0), (1, v1)]) rfl ?_
  refine jEv.gfR (o' := (o0 + 33)) (show jfI 278 4 (.getfield 111) 3 [12, 45, 5, 0, 7081] = true by decide +kernel) (isX12_L ho0) (by decide) (isX12_r45 ho0) ?_
  refine jEv.blk [(.sipush 2244, 3, [])] (by decide +kernel) (pc' := 10) (ls' := [(2, Int.ofNat o0), (0, v1), (0, v2)]) (st' := [(0, 2244), (2, Int.ofNat (o0 + 33)), (1, 0), (1, v1)]) rfl ?_
  refine jEv.ald (Or.inl ⟨rfl, rfl, rfl⟩) (show jfI 278 10 (.iaload) 1 [] = true by decide +kernel) (isX12_a45 ho0) H (fun c1 H => ?_)
  refine jEv.blk [(.iconst 1, 1, []), (.isub, 1, []), (.i2l, 1, [])] (by decide +kernel) (pc' := 14) (ls' := [(2, Int.ofNat o0), (0, v1), (0, v2)]) (st' := [(1, (wr ((h (o0 + 33) (2244 : Int).toNat) - 1))), (1, 0), (1, v1)]) rfl ?_
  refine jbind H (fun b2 Hb2 H => ?_)
  refine jEv.calS (st' := [(0, b2)]) (show jfI 278 14 (.invokestatic 275) 3 [3, 213, 3, 8176] = true by decide +kernel) rfl (Or.inl rfl) rfl (Nat.le_of_ble_eq_true rfl) ((t_M_isIn (T := T) (xs := xs)  Hb2).mono (jKle 1 hd)) rfl ?_
  refine jEv.if_eq (t := 49) (show jfI 278 17 (.ifCond .eq 32) 3 [] = true by decide +kernel) rfl H (fun c3 H => ?_) (fun c3 H => ?_)
  · exact jEv.weak (a := [(3, 0), (3, 0), (3, 0)]) (jles.c0 (jles.c0 (jles.c0 jles.nl))) (t_M_kept_p49 (T := T) (xs := xs) (y := y) hd H HY)
  · refine jEv.blk [(.iload_n 2, 1, []), (.i2l, 1, []), (.lconst 0, 1, []), (.ldc2_w 576, 3, [1, 0, 2, 9165])] (by decide +kernel) (pc' := 26) (ls' := [(2, Int.ofNat o0), (0, v1), (0, v2)]) (st' := [(1, 2), (1, 0), (1, v2)]) rfl ?_
    refine jbind H (fun b4 Hb4 H => ?_)
    refine jEv.calS (st' := [(0, b4)]) (show jfI 278 26 (.invokestatic 275) 3 [3, 213, 3, 8176] = true by decide +kernel) rfl (Or.inl rfl) rfl (Nat.le_of_ble_eq_true rfl) ((t_M_isIn (T := T) (xs := xs)  Hb4).mono (jKle 1 hd)) rfl ?_
    refine jEv.if_eq (t := 49) (show jfI 278 29 (.ifCond .eq 20) 3 [] = true by decide +kernel) rfl H (fun c5 H => ?_) (fun c5 H => ?_)
    · exact jEv.weak (a := [(3, 0), (3, 0), (3, 0)]) (jles.c0 (jles.c0 (jles.c0 jles.nl))) (t_M_kept_p49 (T := T) (xs := xs) (y := y) hd H HY)
    · refine jEv.blk [(.aload_n 0, 1, [])] (by decide +kernel) (pc' := 33) (ls' := [(2, Int.ofNat o0), (0, v1), (0, v2)]) (st' := [(2, Int.ofNat o0)]) rfl ?_
      refine jEv.gfR (o' := (o0 + 33)) (show jfI 278 33 (.getfield 111) 3 [12, 45, 5, 0, 7081] = true by decide +kernel) (isX12_L ho0) (by decide) (isX12_r45 ho0) ?_
      refine jEv.blk [(.sipush 2245, 3, []), (.iconst 3, 1, []), (.iload_n 1, 1, []), (.imul, 1, []), (.iadd, 1, []), (.iload_n 2, 1, []), (.iadd, 1, [])] (by decide +kernel) (pc' := 45) (ls' := [(2, Int.ofNat o0), (0, v1), (0, v2)]) (st' := [(0, (wr ((wr (2245 + (wr (3 * v1)))) + v2))), (2, Int.ofNat (o0 + 33))]) rfl ?_
      refine jEv.ald (Or.inl ⟨rfl, rfl, rfl⟩) (show jfI 278 45 (.iaload) 1 [] = true by decide +kernel) (isX12_a45 ho0) H (fun c6 H => ?_)
      refine jEv.goto (t := 50) (show jfI 278 46 (.goto 4) 3 [] = true by decide +kernel) rfl ?_
      exact jEv.retI (show jfI 278 50 (.ireturn) 1 [] = true by decide +kernel) (by decide +kernel) (by cases H; exact HY)
set_option maxRecDepth 20000 in
noncomputable def M_isAhead_p37  (h : jH)  : Option Int := some 0
set_option maxRecDepth 20000 in
theorem t_M_isAhead_p37 {T : jT} {xs : List Int} {d : Nat} {y : jV × jS} (hd : 1 ≤ d) {h : jH}   {out : Int}  (H : M_isAhead_p37 h = some out) (HY : ykIp T h y out) : jEv xs d (280, 37, [(3, 0), (3, 0), (3, 0), (3, 0)], []) (T, h) y := by
  unfold M_isAhead_p37 at H
  refine jEv.blk [(.iconst 0, 1, [])] (by decide +kernel) (pc' := 38) (ls' := [(3, 0), (3, 0), (3, 0), (3, 0)]) (st' := [(0, 0)]) rfl ?_
  exact jEv.retZ (show jfI 280 38 (.ireturn) 1 [] = true by decide +kernel) (by decide +kernel) (by decide) (by cases H; exact HY)
set_option maxRecDepth 20000 in
noncomputable def M_isAhead  (h : jH) (o0 : Nat) (v1 : Int) (v2 : Int) (v3 : Int) : Option Int := (if (h o0 43) = 0 then M_isAhead_p37 h else Option.bind (M_isIn v1 v2 v3) (fun b2 => (if b2 = 0 then M_isAhead_p37 h else (if (0 : Int) ≤ 0 ∧ (0 : Int).toNat < 2365 then (if 999 < (wr ((h (o0 + 33) (0 : Int).toNat) + v1)) then M_isAhead_p37 h else some 1) else none))))
set_option maxRecDepth 20000 in
theorem t_M_isAhead {T : jT} {xs : List Int} {h : jH}  {o0 : Nat} {v1 : Int} {v2 : Int} {v3 : Int} {out : Int} (ho0 : isX12 T o0) (H : M_isAhead h o0 v1 v2 v3 = some out) : jEm xs 2 280 [(2, Int.ofNat o0), (0, v1), (0, v2), (0, v3)] (T, h) ((0, out), (T, h)) := by
  have hd : 1 ≤ 1 := Nat.le_refl _
  obtain ⟨y, ey⟩ : ∃ y : jV × jS, y = ((0, out), (T, h)) := ⟨_, rfl⟩
  rw [← ey]
  have HY : ykIp T h y out := ey
  refine jEm.ent (n := 4) (by decide +kernel) (Nat.le_of_ble_eq_true rfl) ?_
  show jEv xs 1 (280, 0, [(2, Int.ofNat o0), (0, v1), (0, v2), (0, v3)], []) (T, h) y
  unfold M_isAhead at H
  refine jEv.blk [(.aload_n 0, 1, [])] (by decide +kernel) (pc' := 1) (ls' := [(2, Int.ofNat o0), (0, v1), (0, v2), (0, v3)]) (st' := [(2, Int.ofNat o0)]) rfl ?_
  refine jEv.gfI (show jfI 280 1 (.getfield 340) 3 [12, 43, 0, 1, 7079] = true by decide +kernel) (isX12_L ho0) (by decide) ?_
  refine jEv.if_eq (t := 37) (show jfI 280 4 (.ifCond .eq 33) 3 [] = true by decide +kernel) rfl H (fun c1 H => ?_) (fun c1 H => ?_)
  · exact jEv.weak (a := [(3, 0), (3, 0), (3, 0), (3, 0)]) (jles.c0 (jles.c0 (jles.c0 (jles.c0 jles.nl)))) (t_M_isAhead_p37 (T := T) (xs := xs) (y := y) hd H HY)
  · refine jEv.blk [(.iload_n 1, 1, []), (.i2l, 1, []), (.iload_n 2, 1, []), (.i2l, 1, []), (.iload_n 3, 1, []), (.i2l, 1, [])] (by decide +kernel) (pc' := 13) (ls' := [(2, Int.ofNat o0), (0, v1), (0, v2), (0, v3)]) (st' := [(1, v3), (1, v2), (1, v1)]) rfl ?_
    refine jbind H (fun b2 Hb2 H => ?_)
    refine jEv.calS (st' := [(0, b2)]) (show jfI 280 13 (.invokestatic 275) 3 [3, 213, 3, 8176] = true by decide +kernel) rfl (Or.inl rfl) rfl (Nat.le_of_ble_eq_true rfl) ((t_M_isIn (T := T) (xs := xs)  Hb2).mono (jKle 1 hd)) rfl ?_
    refine jEv.if_eq (t := 37) (show jfI 280 16 (.ifCond .eq 21) 3 [] = true by decide +kernel) rfl H (fun c3 H => ?_) (fun c3 H => ?_)
    · exact jEv.weak (a := [(3, 0), (3, 0), (3, 0), (3, 0)]) (jles.c0 (jles.c0 (jles.c0 (jles.c0 jles.nl)))) (t_M_isAhead_p37 (T := T) (xs := xs) (y := y) hd H HY)
    · refine jEv.blk [(.aload_n 0, 1, [])] (by decide +kernel) (pc' := 20) (ls' := [(2, Int.ofNat o0), (0, v1), (0, v2), (0, v3)]) (st' := [(2, Int.ofNat o0)]) rfl ?_
      refine jEv.gfR (o' := (o0 + 33)) (show jfI 280 20 (.getfield 111) 3 [12, 45, 5, 0, 7081] = true by decide +kernel) (isX12_L ho0) (by decide) (isX12_r45 ho0) ?_
      refine jEv.blk [(.iconst 0, 1, [])] (by decide +kernel) (pc' := 24) (ls' := [(2, Int.ofNat o0), (0, v1), (0, v2), (0, v3)]) (st' := [(0, 0), (2, Int.ofNat (o0 + 33))]) rfl ?_
      refine jEv.ald (Or.inl ⟨rfl, rfl, rfl⟩) (show jfI 280 24 (.iaload) 1 [] = true by decide +kernel) (isX12_a45 ho0) H (fun c4 H => ?_)
      refine jEv.blk [(.iload_n 1, 1, []), (.iadd, 1, []), (.sipush 999, 3, [])] (by decide +kernel) (pc' := 30) (ls' := [(2, Int.ofNat o0), (0, v1), (0, v2), (0, v3)]) (st' := [(0, 999), (0, (wr ((h (o0 + 33) (0 : Int).toNat) + v1)))]) rfl ?_
      refine jEv.ic_gt (t := 37) (show jfI 280 30 (.if_icmp .gt 7) 3 [] = true by decide +kernel) rfl H (fun c5 H => ?_) (fun c5 H => ?_)
      · exact jEv.weak (a := [(3, 0), (3, 0), (3, 0), (3, 0)]) (jles.c0 (jles.c0 (jles.c0 (jles.c0 jles.nl)))) (t_M_isAhead_p37 (T := T) (xs := xs) (y := y) hd H HY)
      · refine jEv.blk [(.iconst 1, 1, [])] (by decide +kernel) (pc' := 34) (ls' := [(2, Int.ofNat o0), (0, v1), (0, v2), (0, v3)]) (st' := [(0, 1)]) rfl ?_
        refine jEv.goto (t := 38) (show jfI 280 34 (.goto 4) 3 [] = true by decide +kernel) rfl ?_
        exact jEv.retZ (show jfI 280 38 (.ireturn) 1 [] = true by decide +kernel) (by decide +kernel) (by decide) (by cases H; exact HY)
def yk_M_putsAside_L7 (T : jT) (xs : List Int) (d : Nat) (y : jV × jS)  (o0 : Nat) : ((Int × jH) ⊕ jH) → Prop
  | .inl (v1, h) => jEv xs d (281, 7, [(2, Int.ofNat o0), (0, v1)], []) (T, h) y
  | .inr o => ykV T y o
set_option maxRecDepth 20000 in
noncomputable def M_putsAside_B7  (h : jH) (o0 : Nat) (v1 : Int) : Option ((Int × jH) ⊕ jH) := (if v1 < 2244 then (if (0 : Int) ≤ v1 ∧ (v1 : Int).toNat < 2365 then (if (0 : Int) ≤ v1 ∧ (v1 : Int).toNat < 2244 then some (.inl ((wr (v1 + 1)), (jup h (o0 + 36) (v1 : Int).toNat (h (o0 + 33) (v1 : Int).toNat)))) else none) else none) else Option.map Sum.inr (some h))
noncomputable def M_putsAside_L7  (h : jH) (o0 : Nat) (v1 : Int) : Option jH := jloop (fun s : (Int × jH) => M_putsAside_B7 s.2 o0 s.1) (v1, h)
set_option maxRecDepth 20000 in
theorem t_M_putsAside_B7 {T : jT} {xs : List Int} {d : Nat} {y : jV × jS} (hd : 0 ≤ d) {h : jH}  {o0 : Nat} {v1 : Int} {out : ((Int × jH) ⊕ jH)} (ho0 : isX12 T o0) (H : M_putsAside_B7 h o0 v1 = some out) (HY : yk_M_putsAside_L7 T xs d y o0 out) : jEv xs d (281, 7, [(2, Int.ofNat o0), (0, v1)], []) (T, h) y := by
  unfold M_putsAside_B7 at H
  refine jEv.blk [(.iload_n 1, 1, []), (.sipush 2244, 3, [])] (by decide +kernel) (pc' := 11) (ls' := [(2, Int.ofNat o0), (0, v1)]) (st' := [(0, 2244), (0, v1)]) rfl ?_
  refine jEv.ic_ge (t := 32) (show jfI 281 11 (.if_icmp .ge 21) 3 [] = true by decide +kernel) rfl H (fun c1 H => ?_) (fun c1 H => ?_)
  · refine jEv.blk [(.aload_n 0, 1, [])] (by decide +kernel) (pc' := 15) (ls' := [(2, Int.ofNat o0), (0, v1)]) (st' := [(2, Int.ofNat o0)]) rfl ?_
    refine jEv.gfR (o' := (o0 + 36)) (show jfI 281 15 (.getfield 123) 3 [12, 57, 5, 0, 7093] = true by decide +kernel) (isX12_L ho0) (by decide) (isX12_r57 ho0) ?_
    refine jEv.blk [(.iload_n 1, 1, []), (.aload_n 0, 1, [])] (by decide +kernel) (pc' := 20) (ls' := [(2, Int.ofNat o0), (0, v1)]) (st' := [(2, Int.ofNat o0), (0, v1), (2, Int.ofNat (o0 + 36))]) rfl ?_
    refine jEv.gfR (o' := (o0 + 33)) (show jfI 281 20 (.getfield 111) 3 [12, 45, 5, 0, 7081] = true by decide +kernel) (isX12_L ho0) (by decide) (isX12_r45 ho0) ?_
    refine jEv.blk [(.iload_n 1, 1, [])] (by decide +kernel) (pc' := 24) (ls' := [(2, Int.ofNat o0), (0, v1)]) (st' := [(0, v1), (2, Int.ofNat (o0 + 33)), (0, v1), (2, Int.ofNat (o0 + 36))]) rfl ?_
    refine jEv.ald (Or.inl ⟨rfl, rfl, rfl⟩) (show jfI 281 24 (.iaload) 1 [] = true by decide +kernel) (isX12_a45 ho0) H (fun c2 H => ?_)
    refine jEv.ast (Or.inl ⟨rfl, rfl, rfl⟩) (show jfI 281 25 (.iastore) 1 [] = true by decide +kernel) (isX12_a57 ho0) rfl H (fun c3 H => ?_)
    refine jEv.blk [(.iinc 1 1, 3, [])] (by decide +kernel) (pc' := 29) (ls' := [(2, Int.ofNat o0), (0, (wr (v1 + 1)))]) (st' := []) rfl ?_
    refine jEv.goto (t := 7) (show jfI 281 29 (.goto (-22)) 3 [] = true by decide +kernel) rfl ?_
    exact (by cases H; exact HY)
  · refine jmapr H HY (fun out H (HY : ykV T y out) => ?_)
    exact jEv.retV (show jfI 281 32 (.return_) 1 [] = true by decide +kernel) (by decide +kernel) (by cases H; exact HY)
theorem t_M_putsAside_L7 {T : jT} {xs : List Int} {d : Nat} {y : jV × jS} (hd : 0 ≤ d) {h : jH}  {o0 : Nat} {v1 : Int} {out : jH} (ho0 : isX12 T o0) (H : M_putsAside_L7 h o0 v1 = some out) (HY : ykV T y out) : jEv xs d (281, 7, [(2, Int.ofNat o0), (0, v1)], []) (T, h) y :=
  jloop_sound (G := fun s : (Int × jH) => jEv xs d (281, 7, [(2, Int.ofNat o0), (0, s.1)], []) (T, s.2) y) (K := yk_M_putsAside_L7 T xs d y o0) (fun s out H HY => t_M_putsAside_B7 hd ho0 H HY) (fun s' hg => hg) (s := (v1, h)) H HY
set_option maxRecDepth 20000 in
noncomputable def M_putsAside  (h : jH) (o0 : Nat) : Option jH := M_putsAside_L7 (jup h o0 56 1) o0 0
set_option maxRecDepth 20000 in
theorem t_M_putsAside {T : jT} {xs : List Int} {h : jH}  {o0 : Nat} {out : jH} (ho0 : isX12 T o0) (H : M_putsAside h o0 = some out) : jEm xs 1 281 [(2, Int.ofNat o0)] (T, h) ((3, 0), (T, out)) := by
  have hd : 0 ≤ 0 := Nat.le_refl _
  obtain ⟨y, ey⟩ : ∃ y : jV × jS, y = ((3, 0), (T, out)) := ⟨_, rfl⟩
  rw [← ey]
  have HY : ykV T y out := ey
  refine jEm.ent (n := 2) (by decide +kernel) (Nat.le_of_ble_eq_true rfl) ?_
  show jEv xs 0 (281, 0, [(2, Int.ofNat o0), (3, 0)], []) (T, h) y
  unfold M_putsAside at H
  refine jEv.blk [(.aload_n 0, 1, []), (.iconst 1, 1, [])] (by decide +kernel) (pc' := 2) (ls' := [(2, Int.ofNat o0), (3, 0)]) (st' := [(0, 1), (2, Int.ofNat o0)]) rfl ?_
  refine jEv.pfZ (show jfI 281 2 (.putfield 467) 3 [12, 56, 0, 1, 7092] = true by decide +kernel) (isX12_L ho0) (by decide) (by decide) ?_
  refine jEv.blk [(.iconst 0, 1, []), (.istore_n 1, 1, [])] (by decide +kernel) (pc' := 7) (ls' := [(2, Int.ofNat o0), (0, 0)]) (st' := []) rfl ?_
  exact t_M_putsAside_L7 (T := T) (xs := xs) (y := y) hd ho0 H HY
def yk_M_arrives_L2 (T : jT) (xs : List Int) (d : Nat) (y : jV × jS)  (o0 : Nat) (v1 : Int) : ((Int × jH) ⊕ jH) → Prop
  | .inl (v2, h) => jEv xs d (284, 2, [(2, Int.ofNat o0), (0, v1), (0, v2)], []) (T, h) y
  | .inr o => ykV T y o
set_option maxRecDepth 20000 in
noncomputable def M_arrives_B2  (h : jH) (o0 : Nat) (v1 : Int) (v2 : Int) : Option ((Int × jH) ⊕ jH) := (if v2 < v1 then (if (0 : Int) ≤ (wr (1220 + v2)) ∧ ((wr (1220 + v2)) : Int).toNat < 2365 then (if (0 : Int) ≤ (wr (1732 + v2)) ∧ ((wr (1732 + v2)) : Int).toNat < 2365 then Option.bind (M_lands h o0 (h (o0 + 33) ((wr (1220 + v2)) : Int).toNat) (h (o0 + 33) ((wr (1732 + v2)) : Int).toNat)) (fun b4 => some (.inl ((wr (v2 + 1)), b4))) else none) else none) else Option.map Sum.inr ((if (0 : Int) ≤ 4 ∧ (4 : Int).toNat < 2365 then (if (0 : Int) ≤ 3 ∧ (3 : Int).toNat < 2365 then some (jup (jup h (o0 + 33) (4 : Int).toNat 0) (o0 + 33) (3 : Int).toNat 0) else none) else none)))
noncomputable def M_arrives_L2  (h : jH) (o0 : Nat) (v1 : Int) (v2 : Int) : Option jH := jloop (fun s : (Int × jH) => M_arrives_B2 s.2 o0 v1 s.1) (v2, h)
set_option maxRecDepth 20000 in
theorem t_M_arrives_B2 {T : jT} {xs : List Int} {d : Nat} {y : jV × jS} (hd : 1 ≤ d) {h : jH}  {o0 : Nat} {v1 : Int} {v2 : Int} {out : ((Int × jH) ⊕ jH)} (ho0 : isX12 T o0) (H : M_arrives_B2 h o0 v1 v2 = some out) (HY : yk_M_arrives_L2 T xs d y o0 v1 out) : jEv xs d (284, 2, [(2, Int.ofNat o0), (0, v1), (0, v2)], []) (T, h) y := by
  unfold M_arrives_B2 at H
  refine jEv.blk [(.iload_n 2, 1, []), (.iload_n 1, 1, [])] (by decide +kernel) (pc' := 4) (ls' := [(2, Int.ofNat o0), (0, v1), (0, v2)]) (st' := [(0, v1), (0, v2)]) rfl ?_
  refine jEv.ic_ge (t := 37) (show jfI 284 4 (.if_icmp .ge 33) 3 [] = true by decide +kernel) rfl H (fun c1 H => ?_) (fun c1 H => ?_)
  · refine jEv.blk [(.aload_n 0, 1, []), (.aload_n 0, 1, [])] (by decide +kernel) (pc' := 9) (ls' := [(2, Int.ofNat o0), (0, v1), (0, v2)]) (st' := [(2, Int.ofNat o0), (2, Int.ofNat o0)]) rfl ?_
    refine jEv.gfR (o' := (o0 + 33)) (show jfI 284 9 (.getfield 111) 3 [12, 45, 5, 0, 7081] = true by decide +kernel) (isX12_L ho0) (by decide) (isX12_r45 ho0) ?_
    refine jEv.blk [(.sipush 1220, 3, []), (.iload_n 2, 1, []), (.iadd, 1, [])] (by decide +kernel) (pc' := 17) (ls' := [(2, Int.ofNat o0), (0, v1), (0, v2)]) (st' := [(0, (wr (1220 + v2))), (2, Int.ofNat (o0 + 33)), (2, Int.ofNat o0)]) rfl ?_
    refine jEv.ald (Or.inl ⟨rfl, rfl, rfl⟩) (show jfI 284 17 (.iaload) 1 [] = true by decide +kernel) (isX12_a45 ho0) H (fun c2 H => ?_)
    refine jEv.blk [(.aload_n 0, 1, [])] (by decide +kernel) (pc' := 19) (ls' := [(2, Int.ofNat o0), (0, v1), (0, v2)]) (st' := [(2, Int.ofNat o0), (0, (h (o0 + 33) ((wr (1220 + v2)) : Int).toNat)), (2, Int.ofNat o0)]) rfl ?_
    refine jEv.gfR (o' := (o0 + 33)) (show jfI 284 19 (.getfield 111) 3 [12, 45, 5, 0, 7081] = true by decide +kernel) (isX12_L ho0) (by decide) (isX12_r45 ho0) ?_
    refine jEv.blk [(.sipush 1732, 3, []), (.iload_n 2, 1, []), (.iadd, 1, [])] (by decide +kernel) (pc' := 27) (ls' := [(2, Int.ofNat o0), (0, v1), (0, v2)]) (st' := [(0, (wr (1732 + v2))), (2, Int.ofNat (o0 + 33)), (0, (h (o0 + 33) ((wr (1220 + v2)) : Int).toNat)), (2, Int.ofNat o0)]) rfl ?_
    refine jEv.ald (Or.inl ⟨rfl, rfl, rfl⟩) (show jfI 284 27 (.iaload) 1 [] = true by decide +kernel) (isX12_a45 ho0) H (fun c3 H => ?_)
    refine jbind H (fun b4 Hb4 H => ?_)
    refine jEv.calV (st' := []) (show jfI 284 28 (.invokevirtual 393) 3 [1, 246, 2, 9064] = true by decide +kernel) rfl (Or.inl rfl) rfl (Nat.le_of_ble_eq_true rfl) (by decide +kernel) (by decide) (isX12_L ho0) ((t_M_lands (T := T) (xs := xs) ho0 Hb4).mono (jKle 1 hd)) rfl ?_
    refine jEv.blk [(.iinc 2 1, 3, [])] (by decide +kernel) (pc' := 34) (ls' := [(2, Int.ofNat o0), (0, v1), (0, (wr (v2 + 1)))]) (st' := []) rfl ?_
    refine jEv.goto (t := 2) (show jfI 284 34 (.goto (-32)) 3 [] = true by decide +kernel) rfl ?_
    exact (by cases H; exact HY)
  · refine jmapr H HY (fun out H (HY : ykV T y out) => ?_)
    refine jEv.blk [(.aload_n 0, 1, [])] (by decide +kernel) (pc' := 38) (ls' := [(2, Int.ofNat o0), (0, v1), (0, v2)]) (st' := [(2, Int.ofNat o0)]) rfl ?_
    refine jEv.gfR (o' := (o0 + 33)) (show jfI 284 38 (.getfield 111) 3 [12, 45, 5, 0, 7081] = true by decide +kernel) (isX12_L ho0) (by decide) (isX12_r45 ho0) ?_
    refine jEv.blk [(.iconst 4, 1, []), (.iconst 0, 1, [])] (by decide +kernel) (pc' := 43) (ls' := [(2, Int.ofNat o0), (0, v1), (0, v2)]) (st' := [(0, 0), (0, 4), (2, Int.ofNat (o0 + 33))]) rfl ?_
    refine jEv.ast (Or.inl ⟨rfl, rfl, rfl⟩) (show jfI 284 43 (.iastore) 1 [] = true by decide +kernel) (isX12_a45 ho0) rfl H (fun c5 H => ?_)
    refine jEv.blk [(.aload_n 0, 1, [])] (by decide +kernel) (pc' := 45) (ls' := [(2, Int.ofNat o0), (0, v1), (0, v2)]) (st' := [(2, Int.ofNat o0)]) rfl ?_
    refine jEv.gfR (o' := (o0 + 33)) (show jfI 284 45 (.getfield 111) 3 [12, 45, 5, 0, 7081] = true by decide +kernel) (isX12_L ho0) (by decide) (isX12_r45 ho0) ?_
    refine jEv.blk [(.iconst 3, 1, []), (.iconst 0, 1, [])] (by decide +kernel) (pc' := 50) (ls' := [(2, Int.ofNat o0), (0, v1), (0, v2)]) (st' := [(0, 0), (0, 3), (2, Int.ofNat (o0 + 33))]) rfl ?_
    refine jEv.ast (Or.inl ⟨rfl, rfl, rfl⟩) (show jfI 284 50 (.iastore) 1 [] = true by decide +kernel) (isX12_a45 ho0) rfl H (fun c6 H => ?_)
    exact jEv.retV (show jfI 284 51 (.return_) 1 [] = true by decide +kernel) (by decide +kernel) (by cases H; exact HY)
theorem t_M_arrives_L2 {T : jT} {xs : List Int} {d : Nat} {y : jV × jS} (hd : 1 ≤ d) {h : jH}  {o0 : Nat} {v1 : Int} {v2 : Int} {out : jH} (ho0 : isX12 T o0) (H : M_arrives_L2 h o0 v1 v2 = some out) (HY : ykV T y out) : jEv xs d (284, 2, [(2, Int.ofNat o0), (0, v1), (0, v2)], []) (T, h) y :=
  jloop_sound (G := fun s : (Int × jH) => jEv xs d (284, 2, [(2, Int.ofNat o0), (0, v1), (0, s.1)], []) (T, s.2) y) (K := yk_M_arrives_L2 T xs d y o0 v1) (fun s out H HY => t_M_arrives_B2 hd ho0 H HY) (fun s' hg => hg) (s := (v2, h)) H HY
set_option maxRecDepth 20000 in
noncomputable def M_arrives  (h : jH) (o0 : Nat) (v1 : Int) : Option jH := M_arrives_L2 h o0 v1 0
set_option maxRecDepth 20000 in
theorem t_M_arrives {T : jT} {xs : List Int} {h : jH}  {o0 : Nat} {v1 : Int} {out : jH} (ho0 : isX12 T o0) (H : M_arrives h o0 v1 = some out) : jEm xs 2 284 [(2, Int.ofNat o0), (0, v1)] (T, h) ((3, 0), (T, out)) := by
  have hd : 1 ≤ 1 := Nat.le_refl _
  obtain ⟨y, ey⟩ : ∃ y : jV × jS, y = ((3, 0), (T, out)) := ⟨_, rfl⟩
  rw [← ey]
  have HY : ykV T y out := ey
  refine jEm.ent (n := 3) (by decide +kernel) (Nat.le_of_ble_eq_true rfl) ?_
  show jEv xs 1 (284, 0, [(2, Int.ofNat o0), (0, v1), (3, 0)], []) (T, h) y
  unfold M_arrives at H
  refine jEv.blk [(.iconst 0, 1, []), (.istore_n 2, 1, [])] (by decide +kernel) (pc' := 2) (ls' := [(2, Int.ofNat o0), (0, v1), (0, 0)]) (st' := []) rfl ?_
  exact t_M_arrives_L2 (T := T) (xs := xs) (y := y) hd ho0 H HY
def yk_M_isKept_L35 (T : jT) (xs : List Int) (d : Nat) (y : jV × jS)  (o0 : Nat) (v1 : Int) (v2 : Int) : ((Int × jH) ⊕ jH) → Prop
  | .inl (v3, h) => jEv xs d (286, 35, [(2, Int.ofNat o0), (0, v1), (0, v2), (0, v3)], []) (T, h) y
  | .inr o => ykV T y o
set_option maxRecDepth 20000 in
noncomputable def M_isKept_p77  (h : jH) (o0 : Nat) (v1 : Int) (v2 : Int) : Option jH := (if (0 : Int) ≤ 2244 ∧ (2244 : Int).toNat < 2365 then (if (0 : Int) ≤ 0 ∧ (0 : Int).toNat < 2365 then (if (0 : Int) ≤ (wr ((wr (2245 + (wr (3 * (h (o0 + 33) (2244 : Int).toNat))))) - 3)) ∧ ((wr ((wr (2245 + (wr (3 * (h (o0 + 33) (2244 : Int).toNat))))) - 3)) : Int).toNat < 2365 then (if (0 : Int) ≤ (wr ((wr ((wr (2245 + (wr (3 * (h (o0 + 33) (2244 : Int).toNat))))) - 3)) + 1)) ∧ ((wr ((wr ((wr (2245 + (wr (3 * (h (o0 + 33) (2244 : Int).toNat))))) - 3)) + 1)) : Int).toNat < 2365 then (if (0 : Int) ≤ (wr ((wr ((wr (2245 + (wr (3 * (h (o0 + 33) (2244 : Int).toNat))))) - 3)) + 2)) ∧ ((wr ((wr ((wr (2245 + (wr (3 * (h (o0 + 33) (2244 : Int).toNat))))) - 3)) + 2)) : Int).toNat < 2365 then some (jup (jup (jup h (o0 + 33) ((wr ((wr (2245 + (wr (3 * (h (o0 + 33) (2244 : Int).toNat))))) - 3)) : Int).toNat (h (o0 + 33) (0 : Int).toNat)) (o0 + 33) ((wr ((wr ((wr (2245 + (wr (3 * (h (o0 + 33) (2244 : Int).toNat))))) - 3)) + 1)) : Int).toNat v1) (o0 + 33) ((wr ((wr ((wr (2245 + (wr (3 * (h (o0 + 33) (2244 : Int).toNat))))) - 3)) + 2)) : Int).toNat v2) else none) else none) else none) else none) else none)
set_option maxRecDepth 20000 in
theorem t_M_isKept_p77 {T : jT} {xs : List Int} {d : Nat} {y : jV × jS} (hd : 0 ≤ d) {h : jH}  {o0 : Nat} {v1 : Int} {v2 : Int} {out : jH} (ho0 : isX12 T o0) (H : M_isKept_p77 h o0 v1 v2 = some out) (HY : ykV T y out) : jEv xs d (286, 77, [(2, Int.ofNat o0), (0, v1), (0, v2), (3, 0)], []) (T, h) y := by
  unfold M_isKept_p77 at H
  refine jEv.blk [(.sipush 2245, 3, []), (.iconst 3, 1, []), (.aload_n 0, 1, [])] (by decide +kernel) (pc' := 82) (ls' := [(2, Int.ofNat o0), (0, v1), (0, v2), (3, 0)]) (st' := [(2, Int.ofNat o0), (0, 3), (0, 2245)]) rfl ?_
  refine jEv.gfR (o' := (o0 + 33)) (show jfI 286 82 (.getfield 111) 3 [12, 45, 5, 0, 7081] = true by decide +kernel) (isX12_L ho0) (by decide) (isX12_r45 ho0) ?_
  refine jEv.blk [(.sipush 2244, 3, [])] (by decide +kernel) (pc' := 88) (ls' := [(2, Int.ofNat o0), (0, v1), (0, v2), (3, 0)]) (st' := [(0, 2244), (2, Int.ofNat (o0 + 33)), (0, 3), (0, 2245)]) rfl ?_
  refine jEv.ald (Or.inl ⟨rfl, rfl, rfl⟩) (show jfI 286 88 (.iaload) 1 [] = true by decide +kernel) (isX12_a45 ho0) H (fun c9 H => ?_)
  refine jEv.blk [(.imul, 1, []), (.iadd, 1, []), (.iconst 3, 1, []), (.isub, 1, []), (.istore_n 3, 1, []), (.aload_n 0, 1, [])] (by decide +kernel) (pc' := 95) (ls' := [(2, Int.ofNat o0), (0, v1), (0, v2), (0, (wr ((wr (2245 + (wr (3 * (h (o0 + 33) (2244 : Int).toNat))))) - 3)))]) (st' := [(2, Int.ofNat o0)]) rfl ?_
  refine jEv.gfR (o' := (o0 + 33)) (show jfI 286 95 (.getfield 111) 3 [12, 45, 5, 0, 7081] = true by decide +kernel) (isX12_L ho0) (by decide) (isX12_r45 ho0) ?_
  refine jEv.blk [(.iload_n 3, 1, []), (.aload_n 0, 1, [])] (by decide +kernel) (pc' := 100) (ls' := [(2, Int.ofNat o0), (0, v1), (0, v2), (0, (wr ((wr (2245 + (wr (3 * (h (o0 + 33) (2244 : Int).toNat))))) - 3)))]) (st' := [(2, Int.ofNat o0), (0, (wr ((wr (2245 + (wr (3 * (h (o0 + 33) (2244 : Int).toNat))))) - 3))), (2, Int.ofNat (o0 + 33))]) rfl ?_
  refine jEv.gfR (o' := (o0 + 33)) (show jfI 286 100 (.getfield 111) 3 [12, 45, 5, 0, 7081] = true by decide +kernel) (isX12_L ho0) (by decide) (isX12_r45 ho0) ?_
  refine jEv.blk [(.iconst 0, 1, [])] (by decide +kernel) (pc' := 104) (ls' := [(2, Int.ofNat o0), (0, v1), (0, v2), (0, (wr ((wr (2245 + (wr (3 * (h (o0 + 33) (2244 : Int).toNat))))) - 3)))]) (st' := [(0, 0), (2, Int.ofNat (o0 + 33)), (0, (wr ((wr (2245 + (wr (3 * (h (o0 + 33) (2244 : Int).toNat))))) - 3))), (2, Int.ofNat (o0 + 33))]) rfl ?_
  refine jEv.ald (Or.inl ⟨rfl, rfl, rfl⟩) (show jfI 286 104 (.iaload) 1 [] = true by decide +kernel) (isX12_a45 ho0) H (fun c10 H => ?_)
  refine jEv.ast (Or.inl ⟨rfl, rfl, rfl⟩) (show jfI 286 105 (.iastore) 1 [] = true by decide +kernel) (isX12_a45 ho0) rfl H (fun c11 H => ?_)
  refine jEv.blk [(.aload_n 0, 1, [])] (by decide +kernel) (pc' := 107) (ls' := [(2, Int.ofNat o0), (0, v1), (0, v2), (0, (wr ((wr (2245 + (wr (3 * (h (o0 + 33) (2244 : Int).toNat))))) - 3)))]) (st' := [(2, Int.ofNat o0)]) rfl ?_
  refine jEv.gfR (o' := (o0 + 33)) (show jfI 286 107 (.getfield 111) 3 [12, 45, 5, 0, 7081] = true by decide +kernel) (isX12_L ho0) (by decide) (isX12_r45 ho0) ?_
  refine jEv.blk [(.iload_n 3, 1, []), (.iconst 1, 1, []), (.iadd, 1, []), (.iload_n 1, 1, [])] (by decide +kernel) (pc' := 114) (ls' := [(2, Int.ofNat o0), (0, v1), (0, v2), (0, (wr ((wr (2245 + (wr (3 * (h (o0 + 33) (2244 : Int).toNat))))) - 3)))]) (st' := [(0, v1), (0, (wr ((wr ((wr (2245 + (wr (3 * (h (o0 + 33) (2244 : Int).toNat))))) - 3)) + 1))), (2, Int.ofNat (o0 + 33))]) rfl ?_
  refine jEv.ast (Or.inl ⟨rfl, rfl, rfl⟩) (show jfI 286 114 (.iastore) 1 [] = true by decide +kernel) (isX12_a45 ho0) rfl H (fun c12 H => ?_)
  refine jEv.blk [(.aload_n 0, 1, [])] (by decide +kernel) (pc' := 116) (ls' := [(2, Int.ofNat o0), (0, v1), (0, v2), (0, (wr ((wr (2245 + (wr (3 * (h (o0 + 33) (2244 : Int).toNat))))) - 3)))]) (st' := [(2, Int.ofNat o0)]) rfl ?_
  refine jEv.gfR (o' := (o0 + 33)) (show jfI 286 116 (.getfield 111) 3 [12, 45, 5, 0, 7081] = true by decide +kernel) (isX12_L ho0) (by decide) (isX12_r45 ho0) ?_
  refine jEv.blk [(.iload_n 3, 1, []), (.iconst 2, 1, []), (.iadd, 1, []), (.iload_n 2, 1, [])] (by decide +kernel) (pc' := 123) (ls' := [(2, Int.ofNat o0), (0, v1), (0, v2), (0, (wr ((wr (2245 + (wr (3 * (h (o0 + 33) (2244 : Int).toNat))))) - 3)))]) (st' := [(0, v2), (0, (wr ((wr ((wr (2245 + (wr (3 * (h (o0 + 33) (2244 : Int).toNat))))) - 3)) + 2))), (2, Int.ofNat (o0 + 33))]) rfl ?_
  refine jEv.ast (Or.inl ⟨rfl, rfl, rfl⟩) (show jfI 286 123 (.iastore) 1 [] = true by decide +kernel) (isX12_a45 ho0) rfl H (fun c13 H => ?_)
  exact jEv.retV (show jfI 286 124 (.return_) 1 [] = true by decide +kernel) (by decide +kernel) (by cases H; exact HY)
set_option maxRecDepth 20000 in
noncomputable def M_isKept_B35  (h : jH) (o0 : Nat) (v1 : Int) (v2 : Int) (v3 : Int) : Option ((Int × jH) ⊕ jH) := (if v3 < 2362 then (if (0 : Int) ≤ (wr (v3 + 3)) ∧ ((wr (v3 + 3)) : Int).toNat < 2365 then (if (0 : Int) ≤ v3 ∧ (v3 : Int).toNat < 2365 then some (.inl ((wr (v3 + 1)), (jup h (o0 + 33) (v3 : Int).toNat (h (o0 + 33) ((wr (v3 + 3)) : Int).toNat)))) else none) else none) else Option.map Sum.inr (M_isKept_p77 h o0 v1 v2))
noncomputable def M_isKept_L35  (h : jH) (o0 : Nat) (v1 : Int) (v2 : Int) (v3 : Int) : Option jH := jloop (fun s : (Int × jH) => M_isKept_B35 s.2 o0 v1 v2 s.1) (v3, h)
set_option maxRecDepth 20000 in
theorem t_M_isKept_B35 {T : jT} {xs : List Int} {d : Nat} {y : jV × jS} (hd : 0 ≤ d) {h : jH}  {o0 : Nat} {v1 : Int} {v2 : Int} {v3 : Int} {out : ((Int × jH) ⊕ jH)} (ho0 : isX12 T o0) (H : M_isKept_B35 h o0 v1 v2 v3 = some out) (HY : yk_M_isKept_L35 T xs d y o0 v1 v2 out) : jEv xs d (286, 35, [(2, Int.ofNat o0), (0, v1), (0, v2), (0, v3)], []) (T, h) y := by
  unfold M_isKept_B35 at H
  refine jEv.blk [(.iload_n 3, 1, []), (.sipush 2362, 3, [])] (by decide +kernel) (pc' := 39) (ls' := [(2, Int.ofNat o0), (0, v1), (0, v2), (0, v3)]) (st' := [(0, 2362), (0, v3)]) rfl ?_
  refine jEv.ic_ge (t := 62) (show jfI 286 39 (.if_icmp .ge 23) 3 [] = true by decide +kernel) rfl H (fun c6 H => ?_) (fun c6 H => ?_)
  · refine jEv.blk [(.aload_n 0, 1, [])] (by decide +kernel) (pc' := 43) (ls' := [(2, Int.ofNat o0), (0, v1), (0, v2), (0, v3)]) (st' := [(2, Int.ofNat o0)]) rfl ?_
    refine jEv.gfR (o' := (o0 + 33)) (show jfI 286 43 (.getfield 111) 3 [12, 45, 5, 0, 7081] = true by decide +kernel) (isX12_L ho0) (by decide) (isX12_r45 ho0) ?_
    refine jEv.blk [(.iload_n 3, 1, []), (.aload_n 0, 1, [])] (by decide +kernel) (pc' := 48) (ls' := [(2, Int.ofNat o0), (0, v1), (0, v2), (0, v3)]) (st' := [(2, Int.ofNat o0), (0, v3), (2, Int.ofNat (o0 + 33))]) rfl ?_
    refine jEv.gfR (o' := (o0 + 33)) (show jfI 286 48 (.getfield 111) 3 [12, 45, 5, 0, 7081] = true by decide +kernel) (isX12_L ho0) (by decide) (isX12_r45 ho0) ?_
    refine jEv.blk [(.iload_n 3, 1, []), (.iconst 3, 1, []), (.iadd, 1, [])] (by decide +kernel) (pc' := 54) (ls' := [(2, Int.ofNat o0), (0, v1), (0, v2), (0, v3)]) (st' := [(0, (wr (v3 + 3))), (2, Int.ofNat (o0 + 33)), (0, v3), (2, Int.ofNat (o0 + 33))]) rfl ?_
    refine jEv.ald (Or.inl ⟨rfl, rfl, rfl⟩) (show jfI 286 54 (.iaload) 1 [] = true by decide +kernel) (isX12_a45 ho0) H (fun c7 H => ?_)
    refine jEv.ast (Or.inl ⟨rfl, rfl, rfl⟩) (show jfI 286 55 (.iastore) 1 [] = true by decide +kernel) (isX12_a45 ho0) rfl H (fun c8 H => ?_)
    refine jEv.blk [(.iinc 3 1, 3, [])] (by decide +kernel) (pc' := 59) (ls' := [(2, Int.ofNat o0), (0, v1), (0, v2), (0, (wr (v3 + 1)))]) (st' := []) rfl ?_
    refine jEv.goto (t := 35) (show jfI 286 59 (.goto (-24)) 3 [] = true by decide +kernel) rfl ?_
    exact (by cases H; exact HY)
  · refine jmapr H HY (fun out H (HY : ykV T y out) => ?_)
    refine jEv.goto (t := 77) (show jfI 286 62 (.goto 15) 3 [] = true by decide +kernel) rfl ?_
    exact jEv.weak (a := [(2, Int.ofNat o0), (0, v1), (0, v2), (3, 0)]) (jles.c1 (jles.c1 (jles.c1 (jles.c0 jles.nl)))) (t_M_isKept_p77 (T := T) (xs := xs) (y := y) hd ho0 H HY)
theorem t_M_isKept_L35 {T : jT} {xs : List Int} {d : Nat} {y : jV × jS} (hd : 0 ≤ d) {h : jH}  {o0 : Nat} {v1 : Int} {v2 : Int} {v3 : Int} {out : jH} (ho0 : isX12 T o0) (H : M_isKept_L35 h o0 v1 v2 v3 = some out) (HY : ykV T y out) : jEv xs d (286, 35, [(2, Int.ofNat o0), (0, v1), (0, v2), (0, v3)], []) (T, h) y :=
  jloop_sound (G := fun s : (Int × jH) => jEv xs d (286, 35, [(2, Int.ofNat o0), (0, v1), (0, v2), (0, s.1)], []) (T, s.2) y) (K := yk_M_isKept_L35 T xs d y o0 v1 v2) (fun s out H HY => t_M_isKept_B35 hd ho0 H HY) (fun s' hg => hg) (s := (v3, h)) H HY
set_option maxRecDepth 20000 in
noncomputable def M_isKept  (h : jH) (o0 : Nat) (v1 : Int) (v2 : Int) : Option jH := (if ((jup h o0 53 (wr ((h o0 53) + 1))) o0 56) = 0 then (if (0 : Int) ≤ 2244 ∧ (2244 : Int).toNat < 2365 then (if ((jup h o0 53 (wr ((h o0 53) + 1))) (o0 + 33) (2244 : Int).toNat) = 40 then M_isKept_L35 (jup h o0 53 (wr ((h o0 53) + 1))) o0 v1 v2 2245 else (if (0 : Int) ≤ 2244 ∧ (2244 : Int).toNat < 2365 then (if (0 : Int) ≤ 2244 ∧ (2244 : Int).toNat < 2365 then M_isKept_p77 (jup (jup h o0 53 (wr ((h o0 53) + 1))) (o0 + 33) (2244 : Int).toNat (wr (((jup h o0 53 (wr ((h o0 53) + 1))) (o0 + 33) (2244 : Int).toNat) + 1))) o0 v1 v2 else none) else none)) else none) else some (jup h o0 53 (wr ((h o0 53) + 1))))
set_option maxRecDepth 20000 in
theorem t_M_isKept {T : jT} {xs : List Int} {h : jH}  {o0 : Nat} {v1 : Int} {v2 : Int} {out : jH} (ho0 : isX12 T o0) (H : M_isKept h o0 v1 v2 = some out) : jEm xs 1 286 [(2, Int.ofNat o0), (0, v1), (0, v2)] (T, h) ((3, 0), (T, out)) := by
  have hd : 0 ≤ 0 := Nat.le_refl _
  obtain ⟨y, ey⟩ : ∃ y : jV × jS, y = ((3, 0), (T, out)) := ⟨_, rfl⟩
  rw [← ey]
  have HY : ykV T y out := ey
  refine jEm.ent (n := 4) (by decide +kernel) (Nat.le_of_ble_eq_true rfl) ?_
  show jEv xs 0 (286, 0, [(2, Int.ofNat o0), (0, v1), (0, v2), (3, 0)], []) (T, h) y
  unfold M_isKept at H
  refine jEv.blk [(.aload_n 0, 1, []), (.dup, 1, [])] (by decide +kernel) (pc' := 2) (ls' := [(2, Int.ofNat o0), (0, v1), (0, v2), (3, 0)]) (st' := [(2, Int.ofNat o0), (2, Int.ofNat o0)]) rfl ?_
  refine jEv.gfI (show jfI 286 2 (.getfield 464) 3 [12, 53, 0, 0, 7089] = true by decide +kernel) (isX12_L ho0) (by decide) ?_
  refine jEv.blk [(.iconst 1, 1, []), (.iadd, 1, [])] (by decide +kernel) (pc' := 7) (ls' := [(2, Int.ofNat o0), (0, v1), (0, v2), (3, 0)]) (st' := [(0, (wr ((h o0 53) + 1))), (2, Int.ofNat o0)]) rfl ?_
  refine jEv.pfI (show jfI 286 7 (.putfield 464) 3 [12, 53, 0, 0, 7089] = true by decide +kernel) (isX12_L ho0) (by decide) ?_
  refine jEv.blk [(.aload_n 0, 1, [])] (by decide +kernel) (pc' := 11) (ls' := [(2, Int.ofNat o0), (0, v1), (0, v2), (3, 0)]) (st' := [(2, Int.ofNat o0)]) rfl ?_
  refine jEv.gfI (show jfI 286 11 (.getfield 467) 3 [12, 56, 0, 1, 7092] = true by decide +kernel) (isX12_L ho0) (by decide) ?_
  refine jEv.if_eq (t := 18) (show jfI 286 14 (.ifCond .eq 4) 3 [] = true by decide +kernel) rfl H (fun c1 H => ?_) (fun c1 H => ?_)
  · refine jEv.blk [(.aload_n 0, 1, [])] (by decide +kernel) (pc' := 19) (ls' := [(2, Int.ofNat o0), (0, v1), (0, v2), (3, 0)]) (st' := [(2, Int.ofNat o0)]) rfl ?_
    refine jEv.gfR (o' := (o0 + 33)) (show jfI 286 19 (.getfield 111) 3 [12, 45, 5, 0, 7081] = true by decide +kernel) (isX12_L ho0) (by decide) (isX12_r45 ho0) ?_
    refine jEv.blk [(.sipush 2244, 3, [])] (by decide +kernel) (pc' := 25) (ls' := [(2, Int.ofNat o0), (0, v1), (0, v2), (3, 0)]) (st' := [(0, 2244), (2, Int.ofNat (o0 + 33))]) rfl ?_
    refine jEv.ald (Or.inl ⟨rfl, rfl, rfl⟩) (show jfI 286 25 (.iaload) 1 [] = true by decide +kernel) (isX12_a45 ho0) H (fun c2 H => ?_)
    refine jEv.blk [(.bipush 40, 2, [])] (by decide +kernel) (pc' := 28) (ls' := [(2, Int.ofNat o0), (0, v1), (0, v2), (3, 0)]) (st' := [(0, 40), (0, ((jup h o0 53 (wr ((h o0 53) + 1))) (o0 + 33) (2244 : Int).toNat))]) rfl ?_
    refine jEv.ic_ne (t := 65) (show jfI 286 28 (.if_icmp .ne 37) 3 [] = true by decide +kernel) rfl H (fun c3 H => ?_) (fun c3 H => ?_)
    · refine jEv.blk [(.sipush 2245, 3, []), (.istore_n 3, 1, [])] (by decide +kernel) (pc' := 35) (ls' := [(2, Int.ofNat o0), (0, v1), (0, v2), (0, 2245)]) (st' := []) rfl ?_
      exact t_M_isKept_L35 (T := T) (xs := xs) (y := y) hd ho0 H HY
    · refine jEv.blk [(.aload_n 0, 1, [])] (by decide +kernel) (pc' := 66) (ls' := [(2, Int.ofNat o0), (0, v1), (0, v2), (3, 0)]) (st' := [(2, Int.ofNat o0)]) rfl ?_
      refine jEv.gfR (o' := (o0 + 33)) (show jfI 286 66 (.getfield 111) 3 [12, 45, 5, 0, 7081] = true by decide +kernel) (isX12_L ho0) (by decide) (isX12_r45 ho0) ?_
      refine jEv.blk [(.sipush 2244, 3, []), (.dup2, 1, [])] (by decide +kernel) (pc' := 73) (ls' := [(2, Int.ofNat o0), (0, v1), (0, v2), (3, 0)]) (st' := [(0, 2244), (2, Int.ofNat (o0 + 33)), (0, 2244), (2, Int.ofNat (o0 + 33))]) rfl ?_
      refine jEv.ald (Or.inl ⟨rfl, rfl, rfl⟩) (show jfI 286 73 (.iaload) 1 [] = true by decide +kernel) (isX12_a45 ho0) H (fun c4 H => ?_)
      refine jEv.blk [(.iconst 1, 1, []), (.iadd, 1, [])] (by decide +kernel) (pc' := 76) (ls' := [(2, Int.ofNat o0), (0, v1), (0, v2), (3, 0)]) (st' := [(0, (wr (((jup h o0 53 (wr ((h o0 53) + 1))) (o0 + 33) (2244 : Int).toNat) + 1))), (0, 2244), (2, Int.ofNat (o0 + 33))]) rfl ?_
      refine jEv.ast (Or.inl ⟨rfl, rfl, rfl⟩) (show jfI 286 76 (.iastore) 1 [] = true by decide +kernel) (isX12_a45 ho0) rfl H (fun c5 H => ?_)
      exact t_M_isKept_p77 (T := T) (xs := xs) (y := y) hd ho0 H HY
  · exact jEv.retV (show jfI 286 17 (.return_) 1 [] = true by decide +kernel) (by decide +kernel) (by cases H; exact HY)
def yk_M_releases_L13 (T : jT) (xs : List Int) (d : Nat) (y : jV × jS)  (o0 : Nat) (v1 : Int) (v3 : Int) : ((Int × Int × jH) ⊕ jH) → Prop
  | .inl (v2, v4, h) => jEv xs d (285, 13, [(2, Int.ofNat o0), (0, v1), (0, v2), (0, v3), (0, v4), (3, 0)], []) (T, h) y
  | .inr o => ykV T y o
set_option maxRecDepth 20000 in
noncomputable def M_releases_B13  (h : jH) (o0 : Nat) (v1 : Int) (v2 : Int) (v3 : Int) (v4 : Int) : Option ((Int × Int × jH) ⊕ jH) := (if v4 < v3 then (if (0 : Int) ≤ (wr (176 + v4)) ∧ ((wr (176 + v4)) : Int).toNat < 2365 then (if (0 : Int) ≤ (wr (184 + (h (o0 + 33) ((wr (176 + v4)) : Int).toNat))) ∧ ((wr (184 + (h (o0 + 33) ((wr (176 + v4)) : Int).toNat))) : Int).toNat < 2365 then (if (h (o0 + 33) ((wr (184 + (h (o0 + 33) ((wr (176 + v4)) : Int).toNat))) : Int).toNat) = v1 then (if (0 : Int) ≤ (wr (184 + (h (o0 + 33) ((wr (176 + v4)) : Int).toNat))) ∧ ((wr (184 + (h (o0 + 33) ((wr (176 + v4)) : Int).toNat))) : Int).toNat < 2365 then Option.bind (M_isKept (jup h (o0 + 33) ((wr (184 + (h (o0 + 33) ((wr (176 + v4)) : Int).toNat))) : Int).toNat (-1)) o0 (h (o0 + 33) ((wr (176 + v4)) : Int).toNat) v1) (fun b7 => some (.inl (v2, (wr (v4 + 1)), b7))) else none) else (if (0 : Int) ≤ (wr (176 + v2)) ∧ ((wr (176 + v2)) : Int).toNat < 2365 then some (.inl ((wr (v2 + 1)), (wr (v4 + 1)), (jup h (o0 + 33) ((wr (176 + v2)) : Int).toNat (h (o0 + 33) ((wr (176 + v4)) : Int).toNat)))) else none)) else none) else none) else Option.map Sum.inr ((if (0 : Int) ≤ 12 ∧ (12 : Int).toNat < 2365 then some (jup h (o0 + 33) (12 : Int).toNat v2) else none)))
noncomputable def M_releases_L13  (h : jH) (o0 : Nat) (v1 : Int) (v2 : Int) (v3 : Int) (v4 : Int) : Option jH := jloop (fun s : (Int × Int × jH) => M_releases_B13 s.2.2 o0 v1 s.1 v3 s.2.1) (v2, v4, h)
set_option maxRecDepth 20000 in
theorem t_M_releases_B13 {T : jT} {xs : List Int} {d : Nat} {y : jV × jS} (hd : 1 ≤ d) {h : jH}  {o0 : Nat} {v1 : Int} {v2 : Int} {v3 : Int} {v4 : Int} {out : ((Int × Int × jH) ⊕ jH)} (ho0 : isX12 T o0) (H : M_releases_B13 h o0 v1 v2 v3 v4 = some out) (HY : yk_M_releases_L13 T xs d y o0 v1 v3 out) : jEv xs d (285, 13, [(2, Int.ofNat o0), (0, v1), (0, v2), (0, v3), (0, v4), (3, 0)], []) (T, h) y := by
  unfold M_releases_B13 at H
  refine jEv.blk [(.iload 4, 2, []), (.iload_n 3, 1, [])] (by decide +kernel) (pc' := 16) (ls' := [(2, Int.ofNat o0), (0, v1), (0, v2), (0, v3), (0, v4), (3, 0)]) (st' := [(0, v3), (0, v4)]) rfl ?_
  refine jEv.ic_ge (t := 90) (show jfI 285 16 (.if_icmp .ge 74) 3 [] = true by decide +kernel) rfl H (fun c2 H => ?_) (fun c2 H => ?_)
  · refine jEv.blk [(.aload_n 0, 1, [])] (by decide +kernel) (pc' := 20) (ls' := [(2, Int.ofNat o0), (0, v1), (0, v2), (0, v3), (0, v4), (3, 0)]) (st' := [(2, Int.ofNat o0)]) rfl ?_
    refine jEv.gfR (o' := (o0 + 33)) (show jfI 285 20 (.getfield 111) 3 [12, 45, 5, 0, 7081] = true by decide +kernel) (isX12_L ho0) (by decide) (isX12_r45 ho0) ?_
    refine jEv.blk [(.sipush 176, 3, []), (.iload 4, 2, []), (.iadd, 1, [])] (by decide +kernel) (pc' := 29) (ls' := [(2, Int.ofNat o0), (0, v1), (0, v2), (0, v3), (0, v4), (3, 0)]) (st' := [(0, (wr (176 + v4))), (2, Int.ofNat (o0 + 33))]) rfl ?_
    refine jEv.ald (Or.inl ⟨rfl, rfl, rfl⟩) (show jfI 285 29 (.iaload) 1 [] = true by decide +kernel) (isX12_a45 ho0) H (fun c3 H => ?_)
    refine jEv.blk [(.istore 5, 2, []), (.aload_n 0, 1, [])] (by decide +kernel) (pc' := 33) (ls' := [(2, Int.ofNat o0), (0, v1), (0, v2), (0, v3), (0, v4), (0, (h (o0 + 33) ((wr (176 + v4)) : Int).toNat))]) (st' := [(2, Int.ofNat o0)]) rfl ?_
    refine jEv.gfR (o' := (o0 + 33)) (show jfI 285 33 (.getfield 111) 3 [12, 45, 5, 0, 7081] = true by decide +kernel) (isX12_L ho0) (by decide) (isX12_r45 ho0) ?_
    refine jEv.blk [(.sipush 184, 3, []), (.iload 5, 2, []), (.iadd, 1, [])] (by decide +kernel) (pc' := 42) (ls' := [(2, Int.ofNat o0), (0, v1), (0, v2), (0, v3), (0, v4), (0, (h (o0 + 33) ((wr (176 + v4)) : Int).toNat))]) (st' := [(0, (wr (184 + (h (o0 + 33) ((wr (176 + v4)) : Int).toNat)))), (2, Int.ofNat (o0 + 33))]) rfl ?_
    refine jEv.ald (Or.inl ⟨rfl, rfl, rfl⟩) (show jfI 285 42 (.iaload) 1 [] = true by decide +kernel) (isX12_a45 ho0) H (fun c4 H => ?_)
    refine jEv.blk [(.iload_n 1, 1, [])] (by decide +kernel) (pc' := 44) (ls' := [(2, Int.ofNat o0), (0, v1), (0, v2), (0, v3), (0, v4), (0, (h (o0 + 33) ((wr (176 + v4)) : Int).toNat))]) (st' := [(0, v1), (0, (h (o0 + 33) ((wr (184 + (h (o0 + 33) ((wr (176 + v4)) : Int).toNat))) : Int).toNat))]) rfl ?_
    refine jEv.ic_ne (t := 69) (show jfI 285 44 (.if_icmp .ne 25) 3 [] = true by decide +kernel) rfl H (fun c5 H => ?_) (fun c5 H => ?_)
    · refine jEv.blk [(.aload_n 0, 1, [])] (by decide +kernel) (pc' := 48) (ls' := [(2, Int.ofNat o0), (0, v1), (0, v2), (0, v3), (0, v4), (0, (h (o0 + 33) ((wr (176 + v4)) : Int).toNat))]) (st' := [(2, Int.ofNat o0)]) rfl ?_
      refine jEv.gfR (o' := (o0 + 33)) (show jfI 285 48 (.getfield 111) 3 [12, 45, 5, 0, 7081] = true by decide +kernel) (isX12_L ho0) (by decide) (isX12_r45 ho0) ?_
      refine jEv.blk [(.sipush 184, 3, []), (.iload 5, 2, []), (.iadd, 1, []), (.iconst (-1), 1, [])] (by decide +kernel) (pc' := 58) (ls' := [(2, Int.ofNat o0), (0, v1), (0, v2), (0, v3), (0, v4), (0, (h (o0 + 33) ((wr (176 + v4)) : Int).toNat))]) (st' := [(0, (-1)), (0, (wr (184 + (h (o0 + 33) ((wr (176 + v4)) : Int).toNat)))), (2, Int.ofNat (o0 + 33))]) rfl ?_
      refine jEv.ast (Or.inl ⟨rfl, rfl, rfl⟩) (show jfI 285 58 (.iastore) 1 [] = true by decide +kernel) (isX12_a45 ho0) rfl H (fun c6 H => ?_)
      refine jEv.blk [(.aload_n 0, 1, []), (.iload 5, 2, []), (.iload_n 1, 1, [])] (by decide +kernel) (pc' := 63) (ls' := [(2, Int.ofNat o0), (0, v1), (0, v2), (0, v3), (0, v4), (0, (h (o0 + 33) ((wr (176 + v4)) : Int).toNat))]) (st' := [(0, v1), (0, (h (o0 + 33) ((wr (176 + v4)) : Int).toNat)), (2, Int.ofNat o0)]) rfl ?_
      refine jbind H (fun b7 Hb7 H => ?_)
      refine jEv.calV (st' := []) (show jfI 285 63 (.invokevirtual 470) 3 [1, 286, 2, 9230] = true by decide +kernel) rfl (Or.inl rfl) rfl (Nat.le_of_ble_eq_true rfl) (by decide +kernel) (by decide) (isX12_L ho0) ((t_M_isKept (T := T) (xs := xs) ho0 Hb7).mono (jKle 1 hd)) rfl ?_
      refine jEv.goto (t := 84) (show jfI 285 66 (.goto 18) 3 [] = true by decide +kernel) rfl ?_
      refine jEv.blk [(.iinc 4 1, 3, [])] (by decide +kernel) (pc' := 87) (ls' := [(2, Int.ofNat o0), (0, v1), (0, v2), (0, v3), (0, (wr (v4 + 1))), (0, (h (o0 + 33) ((wr (176 + v4)) : Int).toNat))]) (st' := []) rfl ?_
      refine jEv.goto (t := 13) (show jfI 285 87 (.goto (-74)) 3 [] = true by decide +kernel) rfl ?_
      exact jEv.weak (a := [(2, Int.ofNat o0), (0, v1), (0, v2), (0, v3), (0, (wr (v4 + 1))), (3, 0)]) (jles.c1 (jles.c1 (jles.c1 (jles.c1 (jles.c1 (jles.c0 jles.nl)))))) ((by cases H; exact HY))
    · refine jEv.blk [(.aload_n 0, 1, [])] (by decide +kernel) (pc' := 70) (ls' := [(2, Int.ofNat o0), (0, v1), (0, v2), (0, v3), (0, v4), (0, (h (o0 + 33) ((wr (176 + v4)) : Int).toNat))]) (st' := [(2, Int.ofNat o0)]) rfl ?_
      refine jEv.gfR (o' := (o0 + 33)) (show jfI 285 70 (.getfield 111) 3 [12, 45, 5, 0, 7081] = true by decide +kernel) (isX12_L ho0) (by decide) (isX12_r45 ho0) ?_
      refine jEv.blk [(.sipush 176, 3, []), (.iload_n 2, 1, []), (.iadd, 1, []), (.iload 5, 2, [])] (by decide +kernel) (pc' := 80) (ls' := [(2, Int.ofNat o0), (0, v1), (0, v2), (0, v3), (0, v4), (0, (h (o0 + 33) ((wr (176 + v4)) : Int).toNat))]) (st' := [(0, (h (o0 + 33) ((wr (176 + v4)) : Int).toNat)), (0, (wr (176 + v2))), (2, Int.ofNat (o0 + 33))]) rfl ?_
      refine jEv.ast (Or.inl ⟨rfl, rfl, rfl⟩) (show jfI 285 80 (.iastore) 1 [] = true by decide +kernel) (isX12_a45 ho0) rfl H (fun c8 H => ?_)
      refine jEv.blk [(.iinc 2 1, 3, [])] (by decide +kernel) (pc' := 84) (ls' := [(2, Int.ofNat o0), (0, v1), (0, (wr (v2 + 1))), (0, v3), (0, v4), (0, (h (o0 + 33) ((wr (176 + v4)) : Int).toNat))]) (st' := []) rfl ?_
      refine jEv.blk [(.iinc 4 1, 3, [])] (by decide +kernel) (pc' := 87) (ls' := [(2, Int.ofNat o0), (0, v1), (0, (wr (v2 + 1))), (0, v3), (0, (wr (v4 + 1))), (0, (h (o0 + 33) ((wr (176 + v4)) : Int).toNat))]) (st' := []) rfl ?_
      refine jEv.goto (t := 13) (show jfI 285 87 (.goto (-74)) 3 [] = true by decide +kernel) rfl ?_
      exact jEv.weak (a := [(2, Int.ofNat o0), (0, v1), (0, (wr (v2 + 1))), (0, v3), (0, (wr (v4 + 1))), (3, 0)]) (jles.c1 (jles.c1 (jles.c1 (jles.c1 (jles.c1 (jles.c0 jles.nl)))))) ((by cases H; exact HY))
  · refine jmapr H HY (fun out H (HY : ykV T y out) => ?_)
    refine jEv.blk [(.aload_n 0, 1, [])] (by decide +kernel) (pc' := 91) (ls' := [(2, Int.ofNat o0), (0, v1), (0, v2), (0, v3), (0, v4), (3, 0)]) (st' := [(2, Int.ofNat o0)]) rfl ?_
    refine jEv.gfR (o' := (o0 + 33)) (show jfI 285 91 (.getfield 111) 3 [12, 45, 5, 0, 7081] = true by decide +kernel) (isX12_L ho0) (by decide) (isX12_r45 ho0) ?_
    refine jEv.blk [(.bipush 12, 2, []), (.iload_n 2, 1, [])] (by decide +kernel) (pc' := 97) (ls' := [(2, Int.ofNat o0), (0, v1), (0, v2), (0, v3), (0, v4), (3, 0)]) (st' := [(0, v2), (0, 12), (2, Int.ofNat (o0 + 33))]) rfl ?_
    refine jEv.ast (Or.inl ⟨rfl, rfl, rfl⟩) (show jfI 285 97 (.iastore) 1 [] = true by decide +kernel) (isX12_a45 ho0) rfl H (fun c9 H => ?_)
    exact jEv.retV (show jfI 285 98 (.return_) 1 [] = true by decide +kernel) (by decide +kernel) (by cases H; exact HY)
theorem t_M_releases_L13 {T : jT} {xs : List Int} {d : Nat} {y : jV × jS} (hd : 1 ≤ d) {h : jH}  {o0 : Nat} {v1 : Int} {v2 : Int} {v3 : Int} {v4 : Int} {out : jH} (ho0 : isX12 T o0) (H : M_releases_L13 h o0 v1 v2 v3 v4 = some out) (HY : ykV T y out) : jEv xs d (285, 13, [(2, Int.ofNat o0), (0, v1), (0, v2), (0, v3), (0, v4), (3, 0)], []) (T, h) y :=
  jloop_sound (G := fun s : (Int × Int × jH) => jEv xs d (285, 13, [(2, Int.ofNat o0), (0, v1), (0, s.1), (0, v3), (0, s.2.1), (3, 0)], []) (T, s.2.2) y) (K := yk_M_releases_L13 T xs d y o0 v1 v3) (fun s out H HY => t_M_releases_B13 hd ho0 H HY) (fun s' hg => hg) (s := (v2, v4, h)) H HY
set_option maxRecDepth 20000 in
noncomputable def M_releases  (h : jH) (o0 : Nat) (v1 : Int) : Option jH := (if (0 : Int) ≤ 12 ∧ (12 : Int).toNat < 2365 then M_releases_L13 h o0 v1 0 (h (o0 + 33) (12 : Int).toNat) 0 else none)
set_option maxRecDepth 20000 in
theorem t_M_releases {T : jT} {xs : List Int} {h : jH}  {o0 : Nat} {v1 : Int} {out : jH} (ho0 : isX12 T o0) (H : M_releases h o0 v1 = some out) : jEm xs 2 285 [(2, Int.ofNat o0), (0, v1)] (T, h) ((3, 0), (T, out)) := by
  have hd : 1 ≤ 1 := Nat.le_refl _
  obtain ⟨y, ey⟩ : ∃ y : jV × jS, y = ((3, 0), (T, out)) := ⟨_, rfl⟩
  rw [← ey]
  have HY : ykV T y out := ey
  refine jEm.ent (n := 6) (by decide +kernel) (Nat.le_of_ble_eq_true rfl) ?_
  show jEv xs 1 (285, 0, [(2, Int.ofNat o0), (0, v1), (3, 0), (3, 0), (3, 0), (3, 0)], []) (T, h) y
  unfold M_releases at H
  refine jEv.blk [(.iconst 0, 1, []), (.istore_n 2, 1, []), (.aload_n 0, 1, [])] (by decide +kernel) (pc' := 3) (ls' := [(2, Int.ofNat o0), (0, v1), (0, 0), (3, 0), (3, 0), (3, 0)]) (st' := [(2, Int.ofNat o0)]) rfl ?_
  refine jEv.gfR (o' := (o0 + 33)) (show jfI 285 3 (.getfield 111) 3 [12, 45, 5, 0, 7081] = true by decide +kernel) (isX12_L ho0) (by decide) (isX12_r45 ho0) ?_
  refine jEv.blk [(.bipush 12, 2, [])] (by decide +kernel) (pc' := 8) (ls' := [(2, Int.ofNat o0), (0, v1), (0, 0), (3, 0), (3, 0), (3, 0)]) (st' := [(0, 12), (2, Int.ofNat (o0 + 33))]) rfl ?_
  refine jEv.ald (Or.inl ⟨rfl, rfl, rfl⟩) (show jfI 285 8 (.iaload) 1 [] = true by decide +kernel) (isX12_a45 ho0) H (fun c1 H => ?_)
  refine jEv.blk [(.istore_n 3, 1, []), (.iconst 0, 1, []), (.istore 4, 2, [])] (by decide +kernel) (pc' := 13) (ls' := [(2, Int.ofNat o0), (0, v1), (0, 0), (0, (h (o0 + 33) (12 : Int).toNat)), (0, 0), (3, 0)]) (st' := []) rfl ?_
  exact t_M_releases_L13 (T := T) (xs := xs) (y := y) hd ho0 H HY
set_option maxRecDepth 20000 in
noncomputable def M_payloadOf  (h : jH) (o0 : Nat) (v1 : Int) : Option Int := Option.bind (M_recordOf h o0 v1 2) (fun b1 => some (wr (3 + b1)))
set_option maxRecDepth 20000 in
theorem t_M_payloadOf {T : jT} {xs : List Int} {h : jH}  {o0 : Nat} {v1 : Int} {out : Int} (ho0 : isX12 T o0) (H : M_payloadOf h o0 v1 = some out) : jEm xs 2 290 [(2, Int.ofNat o0), (0, v1)] (T, h) ((0, out), (T, h)) := by
  have hd : 1 ≤ 1 := Nat.le_refl _
  obtain ⟨y, ey⟩ : ∃ y : jV × jS, y = ((0, out), (T, h)) := ⟨_, rfl⟩
  rw [← ey]
  have HY : ykIp T h y out := ey
  refine jEm.ent (n := 2) (by decide +kernel) (Nat.le_of_ble_eq_true rfl) ?_
  show jEv xs 1 (290, 0, [(2, Int.ofNat o0), (0, v1)], []) (T, h) y
  unfold M_payloadOf at H
  refine jEv.blk [(.iconst 3, 1, []), (.aload_n 0, 1, []), (.iload_n 1, 1, []), (.iconst 2, 1, [])] (by decide +kernel) (pc' := 4) (ls' := [(2, Int.ofNat o0), (0, v1)]) (st' := [(0, 2), (0, v1), (2, Int.ofNat o0), (0, 3)]) rfl ?_
  refine jbind H (fun b1 Hb1 H => ?_)
  refine jEv.calV (st' := [(0, b1), (0, 3)]) (show jfI 290 4 (.invokevirtual 363) 3 [1, 275, 2, 9184] = true by decide +kernel) rfl (Or.inl rfl) rfl (Nat.le_of_ble_eq_true rfl) (by decide +kernel) (by decide) (isX12_L ho0) ((t_M_recordOf (T := T) (xs := xs) ho0 Hb1).mono (jKle 1 hd)) rfl ?_
  refine jEv.blk [(.iadd, 1, [])] (by decide +kernel) (pc' := 8) (ls' := [(2, Int.ofNat o0), (0, v1)]) (st' := [(0, (wr (3 + b1)))]) rfl ?_
  exact jEv.retI (show jfI 290 8 (.ireturn) 1 [] = true by decide +kernel) (by decide +kernel) (by cases H; exact HY)
def yk_M_asksOf_L27 (T : jT) (xs : List Int) (d : Nat) (y : jV × jS)  (o0 : Nat) (v1 : Int) (v2 : Int) : ((Int × jH) ⊕ jH) → Prop
  | .inl (v3, h) => jEv xs d (289, 27, [(2, Int.ofNat o0), (0, v1), (0, v2), (0, v3)], []) (T, h) y
  | .inr o => ykV T y o
set_option maxRecDepth 20000 in
noncomputable def M_asksOf_B27  (h : jH) (o0 : Nat) (v1 : Int) (v2 : Int) (v3 : Int) : Option ((Int × jH) ⊕ jH) := (if v3 < v1 then Option.bind (M_payloadOf h o0 (wr (v2 + v3))) (fun b4 => some (.inl ((wr (v3 + 1)), (jup h o0 47 (wr ((h o0 47) + b4)))))) else Option.map Sum.inr (some h))
noncomputable def M_asksOf_L27  (h : jH) (o0 : Nat) (v1 : Int) (v2 : Int) (v3 : Int) : Option jH := jloop (fun s : (Int × jH) => M_asksOf_B27 s.2 o0 v1 v2 s.1) (v3, h)
set_option maxRecDepth 20000 in
theorem t_M_asksOf_B27 {T : jT} {xs : List Int} {d : Nat} {y : jV × jS} (hd : 2 ≤ d) {h : jH}  {o0 : Nat} {v1 : Int} {v2 : Int} {v3 : Int} {out : ((Int × jH) ⊕ jH)} (ho0 : isX12 T o0) (H : M_asksOf_B27 h o0 v1 v2 v3 = some out) (HY : yk_M_asksOf_L27 T xs d y o0 v1 v2 out) : jEv xs d (289, 27, [(2, Int.ofNat o0), (0, v1), (0, v2), (0, v3)], []) (T, h) y := by
  unfold M_asksOf_B27 at H
  refine jEv.blk [(.iload_n 3, 1, []), (.iload_n 1, 1, [])] (by decide +kernel) (pc' := 29) (ls' := [(2, Int.ofNat o0), (0, v1), (0, v2), (0, v3)]) (st' := [(0, v1), (0, v3)]) rfl ?_
  refine jEv.ic_ge (t := 54) (show jfI 289 29 (.if_icmp .ge 25) 3 [] = true by decide +kernel) rfl H (fun c3 H => ?_) (fun c3 H => ?_)
  · refine jEv.blk [(.aload_n 0, 1, []), (.dup, 1, [])] (by decide +kernel) (pc' := 34) (ls' := [(2, Int.ofNat o0), (0, v1), (0, v2), (0, v3)]) (st' := [(2, Int.ofNat o0), (2, Int.ofNat o0)]) rfl ?_
    refine jEv.gfI (show jfI 289 34 (.getfield 439) 3 [12, 47, 0, 0, 7083] = true by decide +kernel) (isX12_L ho0) (by decide) ?_
    refine jEv.blk [(.aload_n 0, 1, []), (.iload_n 2, 1, []), (.iload_n 3, 1, []), (.iadd, 1, [])] (by decide +kernel) (pc' := 41) (ls' := [(2, Int.ofNat o0), (0, v1), (0, v2), (0, v3)]) (st' := [(0, (wr (v2 + v3))), (2, Int.ofNat o0), (0, (h o0 47)), (2, Int.ofNat o0)]) rfl ?_
    refine jbind H (fun b4 Hb4 H => ?_)
    refine jEv.calV (st' := [(0, b4), (0, (h o0 47)), (2, Int.ofNat o0)]) (show jfI 289 41 (.invokevirtual 408) 3 [1, 290, 1, 10006] = true by decide +kernel) rfl (Or.inl rfl) rfl (Nat.le_of_ble_eq_true rfl) (by decide +kernel) (by decide) (isX12_L ho0) ((t_M_payloadOf (T := T) (xs := xs) ho0 Hb4).mono (jKle 2 hd)) rfl ?_
    refine jEv.blk [(.iadd, 1, [])] (by decide +kernel) (pc' := 45) (ls' := [(2, Int.ofNat o0), (0, v1), (0, v2), (0, v3)]) (st' := [(0, (wr ((h o0 47) + b4))), (2, Int.ofNat o0)]) rfl ?_
    refine jEv.pfI (show jfI 289 45 (.putfield 439) 3 [12, 47, 0, 0, 7083] = true by decide +kernel) (isX12_L ho0) (by decide) ?_
    refine jEv.blk [(.iinc 3 1, 3, [])] (by decide +kernel) (pc' := 51) (ls' := [(2, Int.ofNat o0), (0, v1), (0, v2), (0, (wr (v3 + 1)))]) (st' := []) rfl ?_
    refine jEv.goto (t := 27) (show jfI 289 51 (.goto (-24)) 3 [] = true by decide +kernel) rfl ?_
    exact (by cases H; exact HY)
  · refine jmapr H HY (fun out H (HY : ykV T y out) => ?_)
    exact jEv.retV (show jfI 289 54 (.return_) 1 [] = true by decide +kernel) (by decide +kernel) (by cases H; exact HY)
theorem t_M_asksOf_L27 {T : jT} {xs : List Int} {d : Nat} {y : jV × jS} (hd : 2 ≤ d) {h : jH}  {o0 : Nat} {v1 : Int} {v2 : Int} {v3 : Int} {out : jH} (ho0 : isX12 T o0) (H : M_asksOf_L27 h o0 v1 v2 v3 = some out) (HY : ykV T y out) : jEv xs d (289, 27, [(2, Int.ofNat o0), (0, v1), (0, v2), (0, v3)], []) (T, h) y :=
  jloop_sound (G := fun s : (Int × jH) => jEv xs d (289, 27, [(2, Int.ofNat o0), (0, v1), (0, v2), (0, s.1)], []) (T, s.2) y) (K := yk_M_asksOf_L27 T xs d y o0 v1 v2) (fun s out H HY => t_M_asksOf_B27 hd ho0 H HY) (fun s' hg => hg) (s := (v3, h)) H HY
set_option maxRecDepth 20000 in
noncomputable def M_asksOf  (h : jH) (o0 : Nat) (v1 : Int) : Option jH := (if (0 : Int) ≤ 1 ∧ (1 : Int).toNat < 2365 then (if (0 : Int) ≤ 11 ∧ (11 : Int).toNat < 2365 then M_asksOf_L27 (jup (jup h o0 46 v1) o0 47 0) o0 v1 (wr ((h (o0 + 33) (1 : Int).toNat) - (h (o0 + 33) (11 : Int).toNat))) 0 else none) else none)
set_option maxRecDepth 20000 in
theorem t_M_asksOf {T : jT} {xs : List Int} {h : jH}  {o0 : Nat} {v1 : Int} {out : jH} (ho0 : isX12 T o0) (H : M_asksOf h o0 v1 = some out) : jEm xs 3 289 [(2, Int.ofNat o0), (0, v1)] (T, h) ((3, 0), (T, out)) := by
  have hd : 2 ≤ 2 := Nat.le_refl _
  obtain ⟨y, ey⟩ : ∃ y : jV × jS, y = ((3, 0), (T, out)) := ⟨_, rfl⟩
  rw [← ey]
  have HY : ykV T y out := ey
  refine jEm.ent (n := 4) (by decide +kernel) (Nat.le_of_ble_eq_true rfl) ?_
  show jEv xs 2 (289, 0, [(2, Int.ofNat o0), (0, v1), (3, 0), (3, 0)], []) (T, h) y
  unfold M_asksOf at H
  refine jEv.blk [(.aload_n 0, 1, [])] (by decide +kernel) (pc' := 1) (ls' := [(2, Int.ofNat o0), (0, v1), (3, 0), (3, 0)]) (st' := [(2, Int.ofNat o0)]) rfl ?_
  refine jEv.gfR (o' := (o0 + 33)) (show jfI 289 1 (.getfield 111) 3 [12, 45, 5, 0, 7081] = true by decide +kernel) (isX12_L ho0) (by decide) (isX12_r45 ho0) ?_
  refine jEv.blk [(.iconst 1, 1, [])] (by decide +kernel) (pc' := 5) (ls' := [(2, Int.ofNat o0), (0, v1), (3, 0), (3, 0)]) (st' := [(0, 1), (2, Int.ofNat (o0 + 33))]) rfl ?_
  refine jEv.ald (Or.inl ⟨rfl, rfl, rfl⟩) (show jfI 289 5 (.iaload) 1 [] = true by decide +kernel) (isX12_a45 ho0) H (fun c1 H => ?_)
  refine jEv.blk [(.aload_n 0, 1, [])] (by decide +kernel) (pc' := 7) (ls' := [(2, Int.ofNat o0), (0, v1), (3, 0), (3, 0)]) (st' := [(2, Int.ofNat o0), (0, (h (o0 + 33) (1 : Int).toNat))]) rfl ?_
  refine jEv.gfR (o' := (o0 + 33)) (show jfI 289 7 (.getfield 111) 3 [12, 45, 5, 0, 7081] = true by decide +kernel) (isX12_L ho0) (by decide) (isX12_r45 ho0) ?_
  refine jEv.blk [(.bipush 11, 2, [])] (by decide +kernel) (pc' := 12) (ls' := [(2, Int.ofNat o0), (0, v1), (3, 0), (3, 0)]) (st' := [(0, 11), (2, Int.ofNat (o0 + 33)), (0, (h (o0 + 33) (1 : Int).toNat))]) rfl ?_
  refine jEv.ald (Or.inl ⟨rfl, rfl, rfl⟩) (show jfI 289 12 (.iaload) 1 [] = true by decide +kernel) (isX12_a45 ho0) H (fun c2 H => ?_)
  refine jEv.blk [(.isub, 1, []), (.istore_n 2, 1, []), (.aload_n 0, 1, []), (.iload_n 1, 1, [])] (by decide +kernel) (pc' := 17) (ls' := [(2, Int.ofNat o0), (0, v1), (0, (wr ((h (o0 + 33) (1 : Int).toNat) - (h (o0 + 33) (11 : Int).toNat)))), (3, 0)]) (st' := [(0, v1), (2, Int.ofNat o0)]) rfl ?_
  refine jEv.pfI (show jfI 289 17 (.putfield 436) 3 [12, 46, 0, 0, 7082] = true by decide +kernel) (isX12_L ho0) (by decide) ?_
  refine jEv.blk [(.aload_n 0, 1, []), (.iconst 0, 1, [])] (by decide +kernel) (pc' := 22) (ls' := [(2, Int.ofNat o0), (0, v1), (0, (wr ((h (o0 + 33) (1 : Int).toNat) - (h (o0 + 33) (11 : Int).toNat)))), (3, 0)]) (st' := [(0, 0), (2, Int.ofNat o0)]) rfl ?_
  refine jEv.pfI (show jfI 289 22 (.putfield 439) 3 [12, 47, 0, 0, 7083] = true by decide +kernel) (isX12_L ho0) (by decide) ?_
  refine jEv.blk [(.iconst 0, 1, []), (.istore_n 3, 1, [])] (by decide +kernel) (pc' := 27) (ls' := [(2, Int.ofNat o0), (0, v1), (0, (wr ((h (o0 + 33) (1 : Int).toNat) - (h (o0 + 33) (11 : Int).toNat)))), (0, 0)]) (st' := []) rfl ?_
  exact t_M_asksOf_L27 (T := T) (xs := xs) (y := y) hd ho0 H HY
set_option maxRecDepth 20000 in
noncomputable def M_isCoded  (h : jH) (o0 : Nat) (v1 : Int) : Option Int := (if (0 : Int) ≤ (wr (2 + v1)) ∧ ((wr (2 + v1)) : Int).toNat < 4 then (if (h (o0 + 30) ((wr (2 + v1)) : Int).toNat) = (-1) then some 0 else some 1) else none)
set_option maxRecDepth 20000 in
theorem t_M_isCoded {T : jT} {xs : List Int} {h : jH}  {o0 : Nat} {v1 : Int} {out : Int} (ho0 : isX12 T o0) (H : M_isCoded h o0 v1 = some out) : jEm xs 1 291 [(2, Int.ofNat o0), (0, v1)] (T, h) ((0, out), (T, h)) := by
  have hd : 0 ≤ 0 := Nat.le_refl _
  obtain ⟨y, ey⟩ : ∃ y : jV × jS, y = ((0, out), (T, h)) := ⟨_, rfl⟩
  rw [← ey]
  have HY : ykIp T h y out := ey
  refine jEm.ent (n := 2) (by decide +kernel) (Nat.le_of_ble_eq_true rfl) ?_
  show jEv xs 0 (291, 0, [(2, Int.ofNat o0), (0, v1)], []) (T, h) y
  unfold M_isCoded at H
  refine jEv.blk [(.aload_n 0, 1, [])] (by decide +kernel) (pc' := 1) (ls' := [(2, Int.ofNat o0), (0, v1)]) (st' := [(2, Int.ofNat o0)]) rfl ?_
  refine jEv.gfR (o' := (o0 + 30)) (show jfI 291 1 (.getfield 102) 3 [12, 38, 5, 0, 7074] = true by decide +kernel) (isX12_L ho0) (by decide) (isX12_r38 ho0) ?_
  refine jEv.blk [(.iconst 2, 1, []), (.iload_n 1, 1, []), (.iadd, 1, [])] (by decide +kernel) (pc' := 7) (ls' := [(2, Int.ofNat o0), (0, v1)]) (st' := [(0, (wr (2 + v1))), (2, Int.ofNat (o0 + 30))]) rfl ?_
  refine jEv.ald (Or.inl ⟨rfl, rfl, rfl⟩) (show jfI 291 7 (.iaload) 1 [] = true by decide +kernel) (isX12_a38 ho0) H (fun c1 H => ?_)
  refine jEv.blk [(.iconst (-1), 1, [])] (by decide +kernel) (pc' := 9) (ls' := [(2, Int.ofNat o0), (0, v1)]) (st' := [(0, (-1)), (0, (h (o0 + 30) ((wr (2 + v1)) : Int).toNat))]) rfl ?_
  refine jEv.ic_eq (t := 16) (show jfI 291 9 (.if_icmp .eq 7) 3 [] = true by decide +kernel) rfl H (fun c2 H => ?_) (fun c2 H => ?_)
  · refine jEv.blk [(.iconst 0, 1, [])] (by decide +kernel) (pc' := 17) (ls' := [(2, Int.ofNat o0), (0, v1)]) (st' := [(0, 0)]) rfl ?_
    exact jEv.retZ (show jfI 291 17 (.ireturn) 1 [] = true by decide +kernel) (by decide +kernel) (by decide) (by cases H; exact HY)
  · refine jEv.blk [(.iconst 1, 1, [])] (by decide +kernel) (pc' := 13) (ls' := [(2, Int.ofNat o0), (0, v1)]) (st' := [(0, 1)]) rfl ?_
    refine jEv.goto (t := 17) (show jfI 291 13 (.goto 4) 3 [] = true by decide +kernel) rfl ?_
    exact jEv.retZ (show jfI 291 17 (.ireturn) 1 [] = true by decide +kernel) (by decide +kernel) (by decide) (by cases H; exact HY)
set_option maxRecDepth 20000 in
noncomputable def M_qPuts  (h : jH) (o0 : Nat) (v1 : Int) : Option jH := (if (0 : Int) ≤ (h o0 105) ∧ ((h o0 105) : Int).toNat < 1700 then some (jup (jup h (o0 + 67) ((h o0 105) : Int).toNat v1) o0 105 (wr (((jup h (o0 + 67) ((h o0 105) : Int).toNat v1) o0 105) + 1))) else none)
set_option maxRecDepth 20000 in
theorem t_M_qPuts {T : jT} {xs : List Int} {h : jH}  {o0 : Nat} {v1 : Int} {out : jH} (ho0 : isX12 T o0) (H : M_qPuts h o0 v1 = some out) : jEm xs 1 293 [(2, Int.ofNat o0), (1, v1)] (T, h) ((3, 0), (T, out)) := by
  have hd : 0 ≤ 0 := Nat.le_refl _
  obtain ⟨y, ey⟩ : ∃ y : jV × jS, y = ((3, 0), (T, out)) := ⟨_, rfl⟩
  rw [← ey]
  have HY : ykV T y out := ey
  refine jEm.ent (n := 3) (by decide +kernel) (Nat.le_of_ble_eq_true rfl) ?_
  show jEv xs 0 (293, 0, [(2, Int.ofNat o0), (1, v1), (3, 0)], []) (T, h) y
  unfold M_qPuts at H
  refine jEv.blk [(.aload_n 0, 1, [])] (by decide +kernel) (pc' := 1) (ls' := [(2, Int.ofNat o0), (1, v1), (3, 0)]) (st' := [(2, Int.ofNat o0)]) rfl ?_
  refine jEv.gfR (o' := (o0 + 67)) (show jfI 293 1 (.getfield 222) 3 [12, 104, 5, 0, 7140] = true by decide +kernel) (isX12_L ho0) (by decide) (isX12_r104 ho0) ?_
  refine jEv.blk [(.aload_n 0, 1, [])] (by decide +kernel) (pc' := 5) (ls' := [(2, Int.ofNat o0), (1, v1), (3, 0)]) (st' := [(2, Int.ofNat o0), (2, Int.ofNat (o0 + 67))]) rfl ?_
  refine jEv.gfI (show jfI 293 5 (.getfield 366) 3 [12, 105, 0, 0, 7141] = true by decide +kernel) (isX12_L ho0) (by decide) ?_
  refine jEv.blk [(.lload_n 1, 1, [])] (by decide +kernel) (pc' := 9) (ls' := [(2, Int.ofNat o0), (1, v1), (3, 0)]) (st' := [(1, v1), (0, (h o0 105)), (2, Int.ofNat (o0 + 67))]) rfl ?_
  refine jEv.ast (Or.inr (Or.inl ⟨rfl, rfl, rfl⟩)) (show jfI 293 9 (.lastore) 1 [] = true by decide +kernel) (isX12_a104 ho0) rfl H (fun c1 H => ?_)
  refine jEv.blk [(.aload_n 0, 1, []), (.dup, 1, [])] (by decide +kernel) (pc' := 12) (ls' := [(2, Int.ofNat o0), (1, v1), (3, 0)]) (st' := [(2, Int.ofNat o0), (2, Int.ofNat o0)]) rfl ?_
  refine jEv.gfI (show jfI 293 12 (.getfield 366) 3 [12, 105, 0, 0, 7141] = true by decide +kernel) (isX12_L ho0) (by decide) ?_
  refine jEv.blk [(.iconst 1, 1, []), (.iadd, 1, [])] (by decide +kernel) (pc' := 17) (ls' := [(2, Int.ofNat o0), (1, v1), (3, 0)]) (st' := [(0, (wr (((jup h (o0 + 67) ((h o0 105) : Int).toNat v1) o0 105) + 1))), (2, Int.ofNat o0)]) rfl ?_
  refine jEv.pfI (show jfI 293 17 (.putfield 366) 3 [12, 105, 0, 0, 7141] = true by decide +kernel) (isX12_L ho0) (by decide) ?_
  exact jEv.retV (show jfI 293 20 (.return_) 1 [] = true by decide +kernel) (by decide +kernel) (by cases H; exact HY)
