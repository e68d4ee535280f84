/-! methods as functions -/
set_option maxRecDepth 20000 in
noncomputable def M_qPartOf  (h : jH) (o0 : Nat) (v1 : Int) (v2 : Int) : Option (Int × jH) := (if v1 = 0 then (if (0 : Int) ≤ 0 ∧ (0 : Int).toNat < 2365 then some ((h (o0 + 33) (0 : Int).toNat), h) else none) else (if v1 = 1 then some ((h o0 46), h) else (if v1 = 2 then some ((h o0 47), h) else (if v1 = 3 then (if (0 : Int) ≤ 0 ∧ (0 : Int).toNat < 2365 then (if (0 : Int) ≤ 1 ∧ (1 : Int).toNat < 2365 then (if (0 : Int) ≤ 11 ∧ (11 : Int).toNat < 2365 then Option.bind (M_recordOf h o0 (wr ((h (o0 + 33) (1 : Int).toNat) - (h (o0 + 33) (11 : Int).toNat))) 3) (fun b9 => some ((wr ((h (o0 + 33) (0 : Int).toNat) - b9)), h)) else none) else none) else none) else (if v1 = 4 then (if (0 : Int) ≤ 12 ∧ (12 : Int).toNat < 2365 then some ((h (o0 + 33) (12 : Int).toNat), h) else none) else (if v1 = 5 then some ((h o0 48), h) else (if v1 = 6 then Option.bind (M_isHead h o0 (h o0 48)) (fun b14 => (if b14 = 0 then some (0, h) else Option.bind (M_serialOf h o0 (h o0 48)) (fun b16 => some (b16, h)))) else (if v1 = 7 then Option.bind (M_isHead h o0 (h o0 48)) (fun b18 => (if b18 = 0 then some (0, h) else Option.bind (M_firstOf h o0 (h o0 48)) (fun b20 => some (b20, h)))) else Option.bind (M_framesOf h o0 (h o0 48)) (fun b21 => some (b21.1, b21.2))))))))))
set_option maxRecDepth 20000 in
theorem t_M_qPartOf {T : jT} {xs : List Int} {h : jH}  {o0 : Nat} {v1 : Int} {v2 : Int} {out : (Int × jH)} (ho0 : isX12 T o0) (H : M_qPartOf h o0 v1 v2 = some out) : jEm xs 6 294 [(2, Int.ofNat o0), (0, v1), (0, v2)] (T, h) ((1, out.1), (T, out.2)) := by
  have hd : 5 ≤ 5 := Nat.le_refl _
  obtain ⟨y, ey⟩ : ∃ y : jV × jS, y = ((1, out.1), (T, out.2)) := ⟨_, rfl⟩
  rw [← ey]
  have HY : ykJ T y out := ey
  refine jEm.ent (n := 3) (by decide +kernel) (Nat.le_of_ble_eq_true rfl) ?_
  show jEv xs 5 (294, 0, [(2, Int.ofNat o0), (0, v1), (0, v2)], []) (T, h) y
  unfold M_qPartOf at H
  refine jEv.blk [(.iload_n 1, 1, [])] (by decide +kernel) (pc' := 1) (ls' := [(2, Int.ofNat o0), (0, v1), (0, v2)]) (st' := [(0, v1)]) rfl ?_
  refine jite H (fun c1 H => ?_) (fun c1 H => ?_)
  · refine jEv.tsI (v := 0) (off := 47) (t := 48) (show jfI 294 1 (.tableswitch 160 0 7 #[47, 55, 61, 67, 95, 104, 110, 135]) 47 [] = true by decide +kernel) c1 (by decide) (by decide) rfl (by decide) ?_
    refine jEv.blk [(.aload_n 0, 1, [])] (by decide +kernel) (pc' := 49) (ls' := [(2, Int.ofNat o0), (0, v1), (0, v2)]) (st' := [(2, Int.ofNat o0)]) rfl ?_
    refine jEv.gfR (o' := (o0 + 33)) (show jfI 294 49 (.getfield 111) 3 [12, 45, 5, 0, 7081] = true by decide +kernel) (isX12_L ho0) (by decide) (isX12_r45 ho0) ?_
    refine jEv.blk [(.iconst 0, 1, [])] (by decide +kernel) (pc' := 53) (ls' := [(2, Int.ofNat o0), (0, v1), (0, v2)]) (st' := [(0, 0), (2, Int.ofNat (o0 + 33))]) rfl ?_
    refine jEv.ald (Or.inl ⟨rfl, rfl, rfl⟩) (show jfI 294 53 (.iaload) 1 [] = true by decide +kernel) (isX12_a45 ho0) H (fun c2 H => ?_)
    refine jEv.blk [(.i2l, 1, [])] (by decide +kernel) (pc' := 55) (ls' := [(2, Int.ofNat o0), (0, v1), (0, v2)]) (st' := [(1, (h (o0 + 33) (0 : Int).toNat))]) rfl ?_
    exact jEv.retJ (show jfI 294 55 (.lreturn) 1 [] = true by decide +kernel) (by decide +kernel) (by cases H; exact HY)
  · refine jite H (fun c3 H => ?_) (fun c3 H => ?_)
    · refine jEv.tsI (v := 1) (off := 55) (t := 56) (show jfI 294 1 (.tableswitch 160 0 7 #[47, 55, 61, 67, 95, 104, 110, 135]) 47 [] = true by decide +kernel) c3 (by decide) (by decide) rfl (by decide) ?_
      refine jEv.blk [(.aload_n 0, 1, [])] (by decide +kernel) (pc' := 57) (ls' := [(2, Int.ofNat o0), (0, v1), (0, v2)]) (st' := [(2, Int.ofNat o0)]) rfl ?_
      refine jEv.gfI (show jfI 294 57 (.getfield 436) 3 [12, 46, 0, 0, 7082] = true by decide +kernel) (isX12_L ho0) (by decide) ?_
      refine jEv.blk [(.i2l, 1, [])] (by decide +kernel) (pc' := 61) (ls' := [(2, Int.ofNat o0), (0, v1), (0, v2)]) (st' := [(1, (h o0 46))]) rfl ?_
      exact jEv.retJ (show jfI 294 61 (.lreturn) 1 [] = true by decide +kernel) (by decide +kernel) (by cases H; exact HY)
    · refine jite H (fun c4 H => ?_) (fun c4 H => ?_)
      · refine jEv.tsI (v := 2) (off := 61) (t := 62) (show jfI 294 1 (.tableswitch 160 0 7 #[47, 55, 61, 67, 95, 104, 110, 135]) 47 [] = true by decide +kernel) c4 (by decide) (by decide) rfl (by decide) ?_
        refine jEv.blk [(.aload_n 0, 1, [])] (by decide +kernel) (pc' := 63) (ls' := [(2, Int.ofNat o0), (0, v1), (0, v2)]) (st' := [(2, Int.ofNat o0)]) rfl ?_
        refine jEv.gfI (show jfI 294 63 (.getfield 439) 3 [12, 47, 0, 0, 7083] = true by decide +kernel) (isX12_L ho0) (by decide) ?_
        refine jEv.blk [(.i2l, 1, [])] (by decide +kernel) (pc' := 67) (ls' := [(2, Int.ofNat o0), (0, v1), (0, v2)]) (st' := [(1, (h o0 47))]) rfl ?_
        exact jEv.retJ (show jfI 294 67 (.lreturn) 1 [] = true by decide +kernel) (by decide +kernel) (by cases H; exact HY)
      · refine jite H (fun c5 H => ?_) (fun c5 H => ?_)
        · refine jEv.tsI (v := 3) (off := 67) (t := 68) (show jfI 294 1 (.tableswitch 160 0 7 #[47, 55, 61, 67, 95, 104, 110, 135]) 47 [] = true by decide +kernel) c5 (by decide) (by decide) rfl (by decide) ?_
          refine jEv.blk [(.aload_n 0, 1, [])] (by decide +kernel) (pc' := 69) (ls' := [(2, Int.ofNat o0), (0, v1), (0, v2)]) (st' := [(2, Int.ofNat o0)]) rfl ?_
          refine jEv.gfR (o' := (o0 + 33)) (show jfI 294 69 (.getfield 111) 3 [12, 45, 5, 0, 7081] = true by decide +kernel) (isX12_L ho0) (by decide) (isX12_r45 ho0) ?_
          refine jEv.blk [(.iconst 0, 1, [])] (by decide +kernel) (pc' := 73) (ls' := [(2, Int.ofNat o0), (0, v1), (0, v2)]) (st' := [(0, 0), (2, Int.ofNat (o0 + 33))]) rfl ?_
          refine jEv.ald (Or.inl ⟨rfl, rfl, rfl⟩) (show jfI 294 73 (.iaload) 1 [] = true by decide +kernel) (isX12_a45 ho0) H (fun c6 H => ?_)
          refine jEv.blk [(.aload_n 0, 1, []), (.aload_n 0, 1, [])] (by decide +kernel) (pc' := 76) (ls' := [(2, Int.ofNat o0), (0, v1), (0, v2)]) (st' := [(2, Int.ofNat o0), (2, Int.ofNat o0), (0, (h (o0 + 33) (0 : Int).toNat))]) rfl ?_
          refine jEv.gfR (o' := (o0 + 33)) (show jfI 294 76 (.getfield 111) 3 [12, 45, 5, 0, 7081] = true by decide +kernel) (isX12_L ho0) (by decide) (isX12_r45 ho0) ?_
          refine jEv.blk [(.iconst 1, 1, [])] (by decide +kernel) (pc' := 80) (ls' := [(2, Int.ofNat o0), (0, v1), (0, v2)]) (st' := [(0, 1), (2, Int.ofNat (o0 + 33)), (2, Int.ofNat o0), (0, (h (o0 + 33) (0 : Int).toNat))]) rfl ?_
          refine jEv.ald (Or.inl ⟨rfl, rfl, rfl⟩) (show jfI 294 80 (.iaload) 1 [] = true by decide +kernel) (isX12_a45 ho0) H (fun c7 H => ?_)
          refine jEv.blk [(.aload_n 0, 1, [])] (by decide +kernel) (pc' := 82) (ls' := [(2, Int.ofNat o0), (0, v1), (0, v2)]) (st' := [(2, Int.ofNat o0), (0, (h (o0 + 33) (1 : Int).toNat)), (2, Int.ofNat o0), (0, (h (o0 + 33) (0 : Int).toNat))]) rfl ?_
          refine jEv.gfR (o' := (o0 + 33)) (show jfI 294 82 (.getfield 111) 3 [12, 45, 5, 0, 7081] = true by decide +kernel) (isX12_L ho0) (by decide) (isX12_r45 ho0) ?_
          refine jEv.blk [(.bipush 11, 2, [])] (by decide +kernel) (pc' := 87) (ls' := [(2, Int.ofNat o0), (0, v1), (0, v2)]) (st' := [(0, 11), (2, Int.ofNat (o0 + 33)), (0, (h (o0 + 33) (1 : Int).toNat)), (2, Int.ofNat o0), (0, (h (o0 + 33) (0 : Int).toNat))]) rfl ?_
          refine jEv.ald (Or.inl ⟨rfl, rfl, rfl⟩) (show jfI 294 87 (.iaload) 1 [] = true by decide +kernel) (isX12_a45 ho0) H (fun c8 H => ?_)
          refine jEv.blk [(.isub, 1, []), (.iconst 3, 1, [])] (by decide +kernel) (pc' := 90) (ls' := [(2, Int.ofNat o0), (0, v1), (0, v2)]) (st' := [(0, 3), (0, (wr ((h (o0 + 33) (1 : Int).toNat) - (h (o0 + 33) (11 : Int).toNat)))), (2, Int.ofNat o0), (0, (h (o0 + 33) (0 : Int).toNat))]) rfl ?_
          refine jbind H (fun b9 Hb9 H => ?_)
          refine jEv.calV (st' := [(0, b9), (0, (h (o0 + 33) (0 : Int).toNat))]) (show jfI 294 90 (.invokevirtual 363) 3 [1, 275, 2, 9184] = true by decide +kernel) rfl (Or.inl rfl) rfl (Nat.le_of_ble_eq_true rfl) (by decide +kernel) (by decide) (isX12_L ho0) ((t_M_recordOf (T := T) (xs := xs) ho0 Hb9).mono (jKle 1 hd)) rfl ?_
          refine jEv.blk [(.isub, 1, []), (.i2l, 1, [])] (by decide +kernel) (pc' := 95) (ls' := [(2, Int.ofNat o0), (0, v1), (0, v2)]) (st' := [(1, (wr ((h (o0 + 33) (0 : Int).toNat) - b9)))]) rfl ?_
          exact jEv.retJ (show jfI 294 95 (.lreturn) 1 [] = true by decide +kernel) (by decide +kernel) (by cases H; exact HY)
        · refine jite H (fun c10 H => ?_) (fun c10 H => ?_)
          · refine jEv.tsI (v := 4) (off := 95) (t := 96) (show jfI 294 1 (.tableswitch 160 0 7 #[47, 55, 61, 67, 95, 104, 110, 135]) 47 [] = true by decide +kernel) c10 (by decide) (by decide) rfl (by decide) ?_
            refine jEv.blk [(.aload_n 0, 1, [])] (by decide +kernel) (pc' := 97) (ls' := [(2, Int.ofNat o0), (0, v1), (0, v2)]) (st' := [(2, Int.ofNat o0)]) rfl ?_
            refine jEv.gfR (o' := (o0 + 33)) (show jfI 294 97 (.getfield 111) 3 [12, 45, 5, 0, 7081] = true by decide +kernel) (isX12_L ho0) (by decide) (isX12_r45 ho0) ?_
            refine jEv.blk [(.bipush 12, 2, [])] (by decide +kernel) (pc' := 102) (ls' := [(2, Int.ofNat o0), (0, v1), (0, v2)]) (st' := [(0, 12), (2, Int.ofNat (o0 + 33))]) rfl ?_
            refine jEv.ald (Or.inl ⟨rfl, rfl, rfl⟩) (show jfI 294 102 (.iaload) 1 [] = true by decide +kernel) (isX12_a45 ho0) H (fun c11 H => ?_)
            refine jEv.blk [(.i2l, 1, [])] (by decide +kernel) (pc' := 104) (ls' := [(2, Int.ofNat o0), (0, v1), (0, v2)]) (st' := [(1, (h (o0 + 33) (12 : Int).toNat))]) rfl ?_
            exact jEv.retJ (show jfI 294 104 (.lreturn) 1 [] = true by decide +kernel) (by decide +kernel) (by cases H; exact HY)
          · refine jite H (fun c12 H => ?_) (fun c12 H => ?_)
            · refine jEv.tsI (v := 5) (off := 104) (t := 105) (show jfI 294 1 (.tableswitch 160 0 7 #[47, 55, 61, 67, 95, 104, 110, 135]) 47 [] = true by decide +kernel) c12 (by decide) (by decide) rfl (by decide) ?_
              refine jEv.blk [(.aload_n 0, 1, [])] (by decide +kernel) (pc' := 106) (ls' := [(2, Int.ofNat o0), (0, v1), (0, v2)]) (st' := [(2, Int.ofNat o0)]) rfl ?_
              refine jEv.gfI (show jfI 294 106 (.getfield 722) 3 [12, 48, 0, 0, 7084] = true by decide +kernel) (isX12_L ho0) (by decide) ?_
              refine jEv.blk [(.i2l, 1, [])] (by decide +kernel) (pc' := 110) (ls' := [(2, Int.ofNat o0), (0, v1), (0, v2)]) (st' := [(1, (h o0 48))]) rfl ?_
              exact jEv.retJ (show jfI 294 110 (.lreturn) 1 [] = true by decide +kernel) (by decide +kernel) (by cases H; exact HY)
            · refine jite H (fun c13 H => ?_) (fun c13 H => ?_)
              · refine jEv.tsI (v := 6) (off := 110) (t := 111) (show jfI 294 1 (.tableswitch 160 0 7 #[47, 55, 61, 67, 95, 104, 110, 135]) 47 [] = true by decide +kernel) c13 (by decide) (by decide) rfl (by decide) ?_
                refine jEv.blk [(.aload_n 0, 1, []), (.aload_n 0, 1, [])] (by decide +kernel) (pc' := 113) (ls' := [(2, Int.ofNat o0), (0, v1), (0, v2)]) (st' := [(2, Int.ofNat o0), (2, Int.ofNat o0)]) rfl ?_
                refine jEv.gfI (show jfI 294 113 (.getfield 722) 3 [12, 48, 0, 0, 7084] = true by decide +kernel) (isX12_L ho0) (by decide) ?_
                refine jbind H (fun b14 Hb14 H => ?_)
                refine jEv.calV (st' := [(0, b14)]) (show jfI 294 116 (.invokevirtual 535) 3 [1, 258, 1, 9112] = true by decide +kernel) rfl (Or.inl rfl) rfl (Nat.le_of_ble_eq_true rfl) (by decide +kernel) (by decide) (isX12_L ho0) ((t_M_isHead (T := T) (xs := xs) ho0 Hb14).mono (jKle 3 hd)) rfl ?_
                refine jEv.if_eq (t := 134) (show jfI 294 119 (.ifCond .eq 15) 3 [] = true by decide +kernel) rfl H (fun c15 H => ?_) (fun c15 H => ?_)
                · refine jEv.blk [(.lconst 0, 1, [])] (by decide +kernel) (pc' := 135) (ls' := [(2, Int.ofNat o0), (0, v1), (0, v2)]) (st' := [(1, 0)]) rfl ?_
                  exact jEv.retJ (show jfI 294 135 (.lreturn) 1 [] = true by decide +kernel) (by decide +kernel) (by cases H; exact HY)
                · refine jEv.blk [(.aload_n 0, 1, []), (.aload_n 0, 1, [])] (by decide +kernel) (pc' := 124) (ls' := [(2, Int.ofNat o0), (0, v1), (0, v2)]) (st' := [(2, Int.ofNat o0), (2, Int.ofNat o0)]) rfl ?_
                  refine jEv.gfI (show jfI 294 124 (.getfield 722) 3 [12, 48, 0, 0, 7084] = true by decide +kernel) (isX12_L ho0) (by decide) ?_
                  refine jbind H (fun b16 Hb16 H => ?_)
                  refine jEv.calV (st' := [(0, b16)]) (show jfI 294 127 (.invokevirtual 497) 3 [1, 260, 1, 9120] = true by decide +kernel) rfl (Or.inl rfl) rfl (Nat.le_of_ble_eq_true rfl) (by decide +kernel) (by decide) (isX12_L ho0) ((t_M_serialOf (T := T) (xs := xs) ho0 Hb16).mono (jKle 2 hd)) rfl ?_
                  refine jEv.blk [(.i2l, 1, [])] (by decide +kernel) (pc' := 131) (ls' := [(2, Int.ofNat o0), (0, v1), (0, v2)]) (st' := [(1, b16)]) rfl ?_
                  refine jEv.goto (t := 135) (show jfI 294 131 (.goto 4) 3 [] = true by decide +kernel) rfl ?_
                  exact jEv.retJ (show jfI 294 135 (.lreturn) 1 [] = true by decide +kernel) (by decide +kernel) (by cases H; exact HY)
              · refine jite H (fun c17 H => ?_) (fun c17 H => ?_)
                · refine jEv.tsI (v := 7) (off := 135) (t := 136) (show jfI 294 1 (.tableswitch 160 0 7 #[47, 55, 61, 67, 95, 104, 110, 135]) 47 [] = true by decide +kernel) c17 (by decide) (by decide) rfl (by decide) ?_
                  refine jEv.blk [(.aload_n 0, 1, []), (.aload_n 0, 1, [])] (by decide +kernel) (pc' := 138) (ls' := [(2, Int.ofNat o0), (0, v1), (0, v2)]) (st' := [(2, Int.ofNat o0), (2, Int.ofNat o0)]) rfl ?_
                  refine jEv.gfI (show jfI 294 138 (.getfield 722) 3 [12, 48, 0, 0, 7084] = true by decide +kernel) (isX12_L ho0) (by decide) ?_
                  refine jbind H (fun b18 Hb18 H => ?_)
                  refine jEv.calV (st' := [(0, b18)]) (show jfI 294 141 (.invokevirtual 535) 3 [1, 258, 1, 9112] = true by decide +kernel) rfl (Or.inl rfl) rfl (Nat.le_of_ble_eq_true rfl) (by decide +kernel) (by decide) (isX12_L ho0) ((t_M_isHead (T := T) (xs := xs) ho0 Hb18).mono (jKle 3 hd)) rfl ?_
                  refine jEv.if_eq (t := 159) (show jfI 294 144 (.ifCond .eq 15) 3 [] = true by decide +kernel) rfl H (fun c19 H => ?_) (fun c19 H => ?_)
                  · refine jEv.blk [(.lconst 0, 1, [])] (by decide +kernel) (pc' := 160) (ls' := [(2, Int.ofNat o0), (0, v1), (0, v2)]) (st' := [(1, 0)]) rfl ?_
                    exact jEv.retJ (show jfI 294 160 (.lreturn) 1 [] = true by decide +kernel) (by decide +kernel) (by cases H; exact HY)
                  · refine jEv.blk [(.aload_n 0, 1, []), (.aload_n 0, 1, [])] (by decide +kernel) (pc' := 149) (ls' := [(2, Int.ofNat o0), (0, v1), (0, v2)]) (st' := [(2, Int.ofNat o0), (2, Int.ofNat o0)]) rfl ?_
                    refine jEv.gfI (show jfI 294 149 (.getfield 722) 3 [12, 48, 0, 0, 7084] = true by decide +kernel) (isX12_L ho0) (by decide) ?_
                    refine jbind H (fun b20 Hb20 H => ?_)
                    refine jEv.calV (st' := [(0, b20)]) (show jfI 294 152 (.invokevirtual 541) 3 [1, 261, 1, 9124] = true by decide +kernel) rfl (Or.inl rfl) rfl (Nat.le_of_ble_eq_true rfl) (by decide +kernel) (by decide) (isX12_L ho0) ((t_M_firstOf (T := T) (xs := xs) ho0 Hb20).mono (jKle 2 hd)) rfl ?_
                    refine jEv.blk [(.i2l, 1, [])] (by decide +kernel) (pc' := 156) (ls' := [(2, Int.ofNat o0), (0, v1), (0, v2)]) (st' := [(1, b20)]) rfl ?_
                    refine jEv.goto (t := 160) (show jfI 294 156 (.goto 4) 3 [] = true by decide +kernel) rfl ?_
                    exact jEv.retJ (show jfI 294 160 (.lreturn) 1 [] = true by decide +kernel) (by decide +kernel) (by cases H; exact HY)
                · refine jEv.tsO (t := 161) (show jfI 294 1 (.tableswitch 160 0 7 #[47, 55, 61, 67, 95, 104, 110, 135]) 47 [] = true by decide +kernel) (by omega) rfl (by decide) ?_
                  refine jEv.blk [(.aload_n 0, 1, []), (.aload_n 0, 1, [])] (by decide +kernel) (pc' := 163) (ls' := [(2, Int.ofNat o0), (0, v1), (0, v2)]) (st' := [(2, Int.ofNat o0), (2, Int.ofNat o0)]) rfl ?_
                  refine jEv.gfI (show jfI 294 163 (.getfield 722) 3 [12, 48, 0, 0, 7084] = true by decide +kernel) (isX12_L ho0) (by decide) ?_
                  refine jbind H (fun b21 Hb21 H => ?_)
                  refine jEv.calV (st' := [(0, b21.1)]) (show jfI 294 166 (.invokevirtual 573) 3 [1, 264, 1, 9136] = true by decide +kernel) rfl (Or.inl rfl) rfl (Nat.le_of_ble_eq_true rfl) (by decide +kernel) (by decide) (isX12_L ho0) ((t_M_framesOf (T := T) (xs := xs) ho0 Hb21).mono (jKle 5 hd)) rfl ?_
                  refine jEv.blk [(.i2l, 1, [])] (by decide +kernel) (pc' := 170) (ls' := [(2, Int.ofNat o0), (0, v1), (0, v2)]) (st' := [(1, b21.1)]) rfl ?_
                  exact jEv.retJ (show jfI 294 170 (.lreturn) 1 [] = true by decide +kernel) (by decide +kernel) (by cases H; exact HY)
set_option maxRecDepth 20000 in
noncomputable def M_qClip  (v0 : Int) : Option Int := (if 0 < (jcmp v0 1000000) then some 1000000 else (if (jcmp v0 (-1000000)) < 0 then some (-1000000) else some v0))
set_option maxRecDepth 20000 in
theorem t_M_qClip {T : jT} {xs : List Int} {h : jH}  {v0 : Int} {out : Int}  (H : M_qClip v0 = some out) : jEm xs 1 296 [(1, v0)] (T, h) ((1, out), (T, h)) := by
  have hd : 0 ≤ 0 := Nat.le_refl _
  obtain ⟨y, ey⟩ : ∃ y : jV × jS, y = ((1, out), (T, h)) := ⟨_, rfl⟩
  rw [← ey]
  have HY : ykJp T h y out := ey
  refine jEm.ent (n := 2) (by decide +kernel) (Nat.le_of_ble_eq_true rfl) ?_
  show jEv xs 0 (296, 0, [(1, v0), (3, 0)], []) (T, h) y
  unfold M_qClip at H
  refine jEv.blk [(.lload_n 0, 1, []), (.ldc2_w 710, 3, [1, 0, 1000000, 10033]), (.lcmp, 1, [])] (by decide +kernel) (pc' := 5) (ls' := [(1, v0), (3, 0)]) (st' := [(0, (jcmp v0 1000000))]) rfl ?_
  refine jEv.if_le (t := 14) (show jfI 296 5 (.ifCond .le 9) 3 [] = true by decide +kernel) rfl H (fun c1 H => ?_) (fun c1 H => ?_)
  · refine jEv.blk [(.ldc2_w 710, 3, [1, 0, 1000000, 10033])] (by decide +kernel) (pc' := 11) (ls' := [(1, v0), (3, 0)]) (st' := [(1, 1000000)]) rfl ?_
    refine jEv.goto (t := 29) (show jfI 296 11 (.goto 18) 3 [] = true by decide +kernel) rfl ?_
    exact jEv.retJ (show jfI 296 29 (.lreturn) 1 [] = true by decide +kernel) (by decide +kernel) (by cases H; exact HY)
  · refine jEv.blk [(.lload_n 0, 1, []), (.ldc2_w 712, 3, [1, 1, 1000000, 10034]), (.lcmp, 1, [])] (by decide +kernel) (pc' := 19) (ls' := [(1, v0), (3, 0)]) (st' := [(0, (jcmp v0 (-1000000)))]) rfl ?_
    refine jEv.if_ge (t := 28) (show jfI 296 19 (.ifCond .ge 9) 3 [] = true by decide +kernel) rfl H (fun c2 H => ?_) (fun c2 H => ?_)
    · refine jEv.blk [(.ldc2_w 712, 3, [1, 1, 1000000, 10034])] (by decide +kernel) (pc' := 25) (ls' := [(1, v0), (3, 0)]) (st' := [(1, (-1000000))]) rfl ?_
      refine jEv.goto (t := 29) (show jfI 296 25 (.goto 4) 3 [] = true by decide +kernel) rfl ?_
      exact jEv.retJ (show jfI 296 29 (.lreturn) 1 [] = true by decide +kernel) (by decide +kernel) (by cases H; exact HY)
    · refine jEv.blk [(.lload_n 0, 1, [])] (by decide +kernel) (pc' := 29) (ls' := [(1, v0), (3, 0)]) (st' := [(1, v0)]) rfl ?_
      exact jEv.retJ (show jfI 296 29 (.lreturn) 1 [] = true by decide +kernel) (by decide +kernel) (by cases H; exact HY)
set_option maxRecDepth 20000 in
noncomputable def M_qFloor_p53  (v4 : Int) : Option Int := some v4
set_option maxRecDepth 20000 in
theorem t_M_qFloor_p53 {T : jT} {xs : List Int} {d : Nat} {y : jV × jS} (hd : 0 ≤ d) {h : jH}  {v4 : Int} {out : Int}  (H : M_qFloor_p53 v4 = some out) (HY : ykJp T h y out) : jEv xs d (297, 53, [(3, 0), (3, 0), (3, 0), (3, 0), (1, v4), (3, 0)], []) (T, h) y := by
  unfold M_qFloor_p53 at H
  refine jEv.blk [(.lload 4, 2, [])] (by decide +kernel) (pc' := 55) (ls' := [(3, 0), (3, 0), (3, 0), (3, 0), (1, v4), (3, 0)]) (st' := [(1, v4)]) rfl ?_
  exact jEv.retJ (show jfI 297 55 (.lreturn) 1 [] = true by decide +kernel) (by decide +kernel) (by cases H; exact HY)
set_option maxRecDepth 20000 in
noncomputable def M_qFloor_p43  (v4 : Int) (vs0 : Int) (vs1 : Int) : Option Int := (if vs0 = vs1 then M_qFloor_p53 v4 else some (wl (v4 - 1)))
set_option maxRecDepth 20000 in
theorem t_M_qFloor_p43 {T : jT} {xs : List Int} {d : Nat} {y : jV × jS} (hd : 0 ≤ d) {h : jH}  {v4 : Int} {vs0 : Int} {vs1 : Int} {out : Int}  (H : M_qFloor_p43 v4 vs0 vs1 = some out) (HY : ykJp T h y out) : jEv xs d (297, 43, [(3, 0), (3, 0), (3, 0), (3, 0), (1, v4), (3, 0)], [(0, vs1), (0, vs0)]) (T, h) y := by
  unfold M_qFloor_p43 at H
  refine jEv.ic_eq (t := 53) (show jfI 297 43 (.if_icmp .eq 10) 3 [] = true by decide +kernel) rfl H (fun c7 H => ?_) (fun c7 H => ?_)
  · exact t_M_qFloor_p53 (T := T) (xs := xs) (y := y) hd H HY
  · refine jEv.blk [(.lload 4, 2, []), (.lconst 1, 1, []), (.lsub, 1, [])] (by decide +kernel) (pc' := 50) (ls' := [(3, 0), (3, 0), (3, 0), (3, 0), (1, v4), (3, 0)]) (st' := [(1, (wl (v4 - 1)))]) rfl ?_
    refine jEv.goto (t := 55) (show jfI 297 50 (.goto 5) 3 [] = true by decide +kernel) rfl ?_
    exact jEv.retJ (show jfI 297 55 (.lreturn) 1 [] = true by decide +kernel) (by decide +kernel) (by cases H; exact HY)
set_option maxRecDepth 20000 in
noncomputable def M_qFloor_p32  (v2 : Int) (v4 : Int) (vs0 : Int) : Option Int := (if (jcmp v2 0) < 0 then M_qFloor_p43 v4 vs0 1 else M_qFloor_p43 v4 vs0 0)
set_option maxRecDepth 20000 in
theorem t_M_qFloor_p32 {T : jT} {xs : List Int} {d : Nat} {y : jV × jS} (hd : 0 ≤ d) {h : jH}  {v2 : Int} {v4 : Int} {vs0 : Int} {out : Int}  (H : M_qFloor_p32 v2 v4 vs0 = some out) (HY : ykJp T h y out) : jEv xs d (297, 32, [(3, 0), (3, 0), (1, v2), (3, 0), (1, v4), (3, 0)], [(0, vs0)]) (T, h) y := by
  unfold M_qFloor_p32 at H
  refine jEv.blk [(.lload_n 2, 1, []), (.lconst 0, 1, []), (.lcmp, 1, [])] (by decide +kernel) (pc' := 35) (ls' := [(3, 0), (3, 0), (1, v2), (3, 0), (1, v4), (3, 0)]) (st' := [(0, (jcmp v2 0)), (0, vs0)]) rfl ?_
  refine jEv.if_ge (t := 42) (show jfI 297 35 (.ifCond .ge 7) 3 [] = true by decide +kernel) rfl H (fun c6 H => ?_) (fun c6 H => ?_)
  · refine jEv.blk [(.iconst 1, 1, [])] (by decide +kernel) (pc' := 39) (ls' := [(3, 0), (3, 0), (1, v2), (3, 0), (1, v4), (3, 0)]) (st' := [(0, 1), (0, vs0)]) rfl ?_
    refine jEv.goto (t := 43) (show jfI 297 39 (.goto 4) 3 [] = true by decide +kernel) rfl ?_
    exact jEv.weak (a := [(3, 0), (3, 0), (3, 0), (3, 0), (1, v4), (3, 0)]) (jles.c0 (jles.c0 (jles.c0 (jles.c0 (jles.c1 (jles.c0 jles.nl)))))) (t_M_qFloor_p43 (T := T) (xs := xs) (y := y) hd H HY)
  · refine jEv.blk [(.iconst 0, 1, [])] (by decide +kernel) (pc' := 43) (ls' := [(3, 0), (3, 0), (1, v2), (3, 0), (1, v4), (3, 0)]) (st' := [(0, 0), (0, vs0)]) rfl ?_
    exact jEv.weak (a := [(3, 0), (3, 0), (3, 0), (3, 0), (1, v4), (3, 0)]) (jles.c0 (jles.c0 (jles.c0 (jles.c0 (jles.c1 (jles.c0 jles.nl)))))) (t_M_qFloor_p43 (T := T) (xs := xs) (y := y) hd H HY)
set_option maxRecDepth 20000 in
noncomputable def M_qFloor  (v0 : Int) (v2 : Int) : Option Int := (if (jcmp v2 0) = 0 then some 0 else (if v2 ≠ 0 then (if v2 ≠ 0 then (if (jcmp (Int.tmod v0 v2) 0) = 0 then M_qFloor_p53 (wl (Int.tdiv v0 v2)) else (if (jcmp v0 0) < 0 then M_qFloor_p32 v2 (wl (Int.tdiv v0 v2)) 1 else M_qFloor_p32 v2 (wl (Int.tdiv v0 v2)) 0)) else none) else none))
set_option maxRecDepth 20000 in
theorem t_M_qFloor {T : jT} {xs : List Int} {h : jH}  {v0 : Int} {v2 : Int} {out : Int}  (H : M_qFloor v0 v2 = some out) : jEm xs 1 297 [(1, v0), (1, v2)] (T, h) ((1, out), (T, h)) := by
  have hd : 0 ≤ 0 := Nat.le_refl _
  obtain ⟨y, ey⟩ : ∃ y : jV × jS, y = ((1, out), (T, h)) := ⟨_, rfl⟩
  rw [← ey]
  have HY : ykJp T h y out := ey
  refine jEm.ent (n := 6) (by decide +kernel) (Nat.le_of_ble_eq_true rfl) ?_
  show jEv xs 0 (297, 0, [(1, v0), (3, 0), (1, v2), (3, 0), (3, 0), (3, 0)], []) (T, h) y
  unfold M_qFloor at H
  refine jEv.blk [(.lload_n 2, 1, []), (.lconst 0, 1, []), (.lcmp, 1, [])] (by decide +kernel) (pc' := 3) (ls' := [(1, v0), (3, 0), (1, v2), (3, 0), (3, 0), (3, 0)]) (st' := [(0, (jcmp v2 0))]) rfl ?_
  refine jEv.if_ne (t := 8) (show jfI 297 3 (.ifCond .ne 5) 3 [] = true by decide +kernel) rfl H (fun c1 H => ?_) (fun c1 H => ?_)
  · refine jEv.blk [(.lconst 0, 1, [])] (by decide +kernel) (pc' := 7) (ls' := [(1, v0), (3, 0), (1, v2), (3, 0), (3, 0), (3, 0)]) (st' := [(1, 0)]) rfl ?_
    exact jEv.retJ (show jfI 297 7 (.lreturn) 1 [] = true by decide +kernel) (by decide +kernel) (by cases H; exact HY)
  · refine jEv.blk [(.lload_n 0, 1, []), (.lload_n 2, 1, [])] (by decide +kernel) (pc' := 10) (ls' := [(1, v0), (3, 0), (1, v2), (3, 0), (3, 0), (3, 0)]) (st' := [(1, v2), (1, v0)]) rfl ?_
    refine jchk H (fun c2 H => ?_)
    refine jEv.ldiv (show jfI 297 10 (.ldiv) 1 [] = true by decide +kernel) c2 ?_
    refine jEv.blk [(.lstore 4, 2, []), (.lload_n 0, 1, []), (.lload_n 2, 1, [])] (by decide +kernel) (pc' := 15) (ls' := [(1, v0), (3, 0), (1, v2), (3, 0), (1, (wl (Int.tdiv v0 v2))), (3, 0)]) (st' := [(1, v2), (1, v0)]) rfl ?_
    refine jchk H (fun c3 H => ?_)
    refine jEv.lrem (show jfI 297 15 (.lrem) 1 [] = true by decide +kernel) c3 ?_
    refine jEv.blk [(.lconst 0, 1, []), (.lcmp, 1, [])] (by decide +kernel) (pc' := 18) (ls' := [(1, v0), (3, 0), (1, v2), (3, 0), (1, (wl (Int.tdiv v0 v2))), (3, 0)]) (st' := [(0, (jcmp (Int.tmod v0 v2) 0))]) rfl ?_
    refine jEv.if_eq (t := 53) (show jfI 297 18 (.ifCond .eq 35) 3 [] = true by decide +kernel) rfl H (fun c4 H => ?_) (fun c4 H => ?_)
    · exact jEv.weak (a := [(3, 0), (3, 0), (3, 0), (3, 0), (1, (wl (Int.tdiv v0 v2))), (3, 0)]) (jles.c0 (jles.c0 (jles.c0 (jles.c0 (jles.c1 (jles.c0 jles.nl)))))) (t_M_qFloor_p53 (T := T) (xs := xs) (y := y) hd H HY)
    · refine jEv.blk [(.lload_n 0, 1, []), (.lconst 0, 1, []), (.lcmp, 1, [])] (by decide +kernel) (pc' := 24) (ls' := [(1, v0), (3, 0), (1, v2), (3, 0), (1, (wl (Int.tdiv v0 v2))), (3, 0)]) (st' := [(0, (jcmp v0 0))]) rfl ?_
      refine jEv.if_ge (t := 31) (show jfI 297 24 (.ifCond .ge 7) 3 [] = true by decide +kernel) rfl H (fun c5 H => ?_) (fun c5 H => ?_)
      · refine jEv.blk [(.iconst 1, 1, [])] (by decide +kernel) (pc' := 28) (ls' := [(1, v0), (3, 0), (1, v2), (3, 0), (1, (wl (Int.tdiv v0 v2))), (3, 0)]) (st' := [(0, 1)]) rfl ?_
        refine jEv.goto (t := 32) (show jfI 297 28 (.goto 4) 3 [] = true by decide +kernel) rfl ?_
        exact jEv.weak (a := [(3, 0), (3, 0), (1, v2), (3, 0), (1, (wl (Int.tdiv v0 v2))), (3, 0)]) (jles.c0 (jles.c0 (jles.c1 (jles.c0 (jles.c1 (jles.c0 jles.nl)))))) (t_M_qFloor_p32 (T := T) (xs := xs) (y := y) hd H HY)
      · refine jEv.blk [(.iconst 0, 1, [])] (by decide +kernel) (pc' := 32) (ls' := [(1, v0), (3, 0), (1, v2), (3, 0), (1, (wl (Int.tdiv v0 v2))), (3, 0)]) (st' := [(0, 0)]) rfl ?_
        exact jEv.weak (a := [(3, 0), (3, 0), (1, v2), (3, 0), (1, (wl (Int.tdiv v0 v2))), (3, 0)]) (jles.c0 (jles.c0 (jles.c1 (jles.c0 (jles.c1 (jles.c0 jles.nl)))))) (t_M_qFloor_p32 (T := T) (xs := xs) (y := y) hd H HY)
set_option maxRecDepth 20000 in
noncomputable def M_qJoins_p161  (h : jH) (os0 : Nat) (vs1 : Int) : Option jH := Option.bind (M_qPuts h os0 vs1) (fun b28 => some b28)
set_option maxRecDepth 20000 in
theorem t_M_qJoins_p161 {T : jT} {xs : List Int} {d : Nat} {y : jV × jS} (hd : 1 ≤ d) {h : jH}  {os0 : Nat} {vs1 : Int} {out : jH} (hos0 : isX12 T os0) (H : M_qJoins_p161 h os0 vs1 = some out) (HY : ykV T y out) : jEv xs d (295, 161, [(3, 0), (3, 0), (3, 0), (3, 0), (3, 0), (3, 0)], [(1, vs1), (2, Int.ofNat os0)]) (T, h) y := by
  unfold M_qJoins_p161 at H
  refine jbind H (fun b28 Hb28 H => ?_)
  refine jEv.calV (st' := []) (show jfI 295 161 (.invokevirtual 369) 3 [1, 293, 1, 10018] = true by decide +kernel) rfl (Or.inl rfl) rfl (Nat.le_of_ble_eq_true rfl) (by decide +kernel) (by decide) (isX12_L hos0) ((t_M_qPuts (T := T) (xs := xs) hos0 Hb28).mono (jKle 1 hd)) rfl ?_
  refine jEv.goto (t := 273) (show jfI 295 164 (.goto 109) 3 [] = true by decide +kernel) rfl ?_
  exact jEv.retV (show jfI 295 273 (.return_) 1 [] = true by decide +kernel) (by decide +kernel) (by cases H; exact HY)
set_option maxRecDepth 20000 in
noncomputable def M_qJoins_p181  (h : jH) (os0 : Nat) (vs1 : Int) : Option jH := Option.bind (M_qPuts h os0 vs1) (fun b29 => some b29)
set_option maxRecDepth 20000 in
theorem t_M_qJoins_p181 {T : jT} {xs : List Int} {d : Nat} {y : jV × jS} (hd : 1 ≤ d) {h : jH}  {os0 : Nat} {vs1 : Int} {out : jH} (hos0 : isX12 T os0) (H : M_qJoins_p181 h os0 vs1 = some out) (HY : ykV T y out) : jEv xs d (295, 181, [(3, 0), (3, 0), (3, 0), (3, 0), (3, 0), (3, 0)], [(1, vs1), (2, Int.ofNat os0)]) (T, h) y := by
  unfold M_qJoins_p181 at H
  refine jbind H (fun b29 Hb29 H => ?_)
  refine jEv.calV (st' := []) (show jfI 295 181 (.invokevirtual 369) 3 [1, 293, 1, 10018] = true by decide +kernel) rfl (Or.inl rfl) rfl (Nat.le_of_ble_eq_true rfl) (by decide +kernel) (by decide) (isX12_L hos0) ((t_M_qPuts (T := T) (xs := xs) hos0 Hb29).mono (jKle 1 hd)) rfl ?_
  refine jEv.goto (t := 273) (show jfI 295 184 (.goto 89) 3 [] = true by decide +kernel) rfl ?_
  exact jEv.retV (show jfI 295 273 (.return_) 1 [] = true by decide +kernel) (by decide +kernel) (by cases H; exact HY)
set_option maxRecDepth 20000 in
noncomputable def M_qJoins_p200  (h : jH) (os0 : Nat) (vs1 : Int) : Option jH := Option.bind (M_qPuts h os0 vs1) (fun b30 => some b30)
set_option maxRecDepth 20000 in
theorem t_M_qJoins_p200 {T : jT} {xs : List Int} {d : Nat} {y : jV × jS} (hd : 1 ≤ d) {h : jH}  {os0 : Nat} {vs1 : Int} {out : jH} (hos0 : isX12 T os0) (H : M_qJoins_p200 h os0 vs1 = some out) (HY : ykV T y out) : jEv xs d (295, 200, [(3, 0), (3, 0), (3, 0), (3, 0), (3, 0), (3, 0)], [(1, vs1), (2, Int.ofNat os0)]) (T, h) y := by
  unfold M_qJoins_p200 at H
  refine jbind H (fun b30 Hb30 H => ?_)
  refine jEv.calV (st' := []) (show jfI 295 200 (.invokevirtual 369) 3 [1, 293, 1, 10018] = true by decide +kernel) rfl (Or.inl rfl) rfl (Nat.le_of_ble_eq_true rfl) (by decide +kernel) (by decide) (isX12_L hos0) ((t_M_qPuts (T := T) (xs := xs) hos0 Hb30).mono (jKle 1 hd)) rfl ?_
  refine jEv.goto (t := 273) (show jfI 295 203 (.goto 70) 3 [] = true by decide +kernel) rfl ?_
  exact jEv.retV (show jfI 295 273 (.return_) 1 [] = true by decide +kernel) (by decide +kernel) (by cases H; exact HY)
set_option maxRecDepth 20000 in
noncomputable def M_qJoins_p219  (h : jH) (os0 : Nat) (vs1 : Int) : Option jH := Option.bind (M_qPuts h os0 vs1) (fun b31 => some b31)
set_option maxRecDepth 20000 in
theorem t_M_qJoins_p219 {T : jT} {xs : List Int} {d : Nat} {y : jV × jS} (hd : 1 ≤ d) {h : jH}  {os0 : Nat} {vs1 : Int} {out : jH} (hos0 : isX12 T os0) (H : M_qJoins_p219 h os0 vs1 = some out) (HY : ykV T y out) : jEv xs d (295, 219, [(3, 0), (3, 0), (3, 0), (3, 0), (3, 0), (3, 0)], [(1, vs1), (2, Int.ofNat os0)]) (T, h) y := by
  unfold M_qJoins_p219 at H
  refine jbind H (fun b31 Hb31 H => ?_)
  refine jEv.calV (st' := []) (show jfI 295 219 (.invokevirtual 369) 3 [1, 293, 1, 10018] = true by decide +kernel) rfl (Or.inl rfl) rfl (Nat.le_of_ble_eq_true rfl) (by decide +kernel) (by decide) (isX12_L hos0) ((t_M_qPuts (T := T) (xs := xs) hos0 Hb31).mono (jKle 1 hd)) rfl ?_
  refine jEv.goto (t := 273) (show jfI 295 222 (.goto 51) 3 [] = true by decide +kernel) rfl ?_
  exact jEv.retV (show jfI 295 273 (.return_) 1 [] = true by decide +kernel) (by decide +kernel) (by cases H; exact HY)
set_option maxRecDepth 20000 in
noncomputable def M_qJoins_p238  (h : jH) (os0 : Nat) (vs1 : Int) : Option jH := Option.bind (M_qPuts h os0 vs1) (fun b32 => some b32)
set_option maxRecDepth 20000 in
theorem t_M_qJoins_p238 {T : jT} {xs : List Int} {d : Nat} {y : jV × jS} (hd : 1 ≤ d) {h : jH}  {os0 : Nat} {vs1 : Int} {out : jH} (hos0 : isX12 T os0) (H : M_qJoins_p238 h os0 vs1 = some out) (HY : ykV T y out) : jEv xs d (295, 238, [(3, 0), (3, 0), (3, 0), (3, 0), (3, 0), (3, 0)], [(1, vs1), (2, Int.ofNat os0)]) (T, h) y := by
  unfold M_qJoins_p238 at H
  refine jbind H (fun b32 Hb32 H => ?_)
  refine jEv.calV (st' := []) (show jfI 295 238 (.invokevirtual 369) 3 [1, 293, 1, 10018] = true by decide +kernel) rfl (Or.inl rfl) rfl (Nat.le_of_ble_eq_true rfl) (by decide +kernel) (by decide) (isX12_L hos0) ((t_M_qPuts (T := T) (xs := xs) hos0 Hb32).mono (jKle 1 hd)) rfl ?_
  refine jEv.goto (t := 273) (show jfI 295 241 (.goto 32) 3 [] = true by decide +kernel) rfl ?_
  exact jEv.retV (show jfI 295 273 (.return_) 1 [] = true by decide +kernel) (by decide +kernel) (by cases H; exact HY)
set_option maxRecDepth 20000 in
noncomputable def M_qJoins_p270  (h : jH) (os0 : Nat) (vs1 : Int) : Option jH := Option.bind (M_qPuts h os0 vs1) (fun b33 => some b33)
set_option maxRecDepth 20000 in
theorem t_M_qJoins_p270 {T : jT} {xs : List Int} {d : Nat} {y : jV × jS} (hd : 1 ≤ d) {h : jH}  {os0 : Nat} {vs1 : Int} {out : jH} (hos0 : isX12 T os0) (H : M_qJoins_p270 h os0 vs1 = some out) (HY : ykV T y out) : jEv xs d (295, 270, [(3, 0), (3, 0), (3, 0), (3, 0), (3, 0), (3, 0)], [(1, vs1), (2, Int.ofNat os0)]) (T, h) y := by
  unfold M_qJoins_p270 at H
  refine jbind H (fun b33 Hb33 H => ?_)
  refine jEv.calV (st' := []) (show jfI 295 270 (.invokevirtual 369) 3 [1, 293, 1, 10018] = true by decide +kernel) rfl (Or.inl rfl) rfl (Nat.le_of_ble_eq_true rfl) (by decide +kernel) (by decide) (isX12_L hos0) ((t_M_qPuts (T := T) (xs := xs) hos0 Hb33).mono (jKle 1 hd)) rfl ?_
  exact jEv.retV (show jfI 295 273 (.return_) 1 [] = true by decide +kernel) (by decide +kernel) (by cases H; exact HY)
set_option maxRecDepth 20000 in
noncomputable def M_qJoins  (h : jH) (o0 : Nat) (v1 : Int) : Option jH := (if (0 : Int) ≤ (wr ((h o0 105) - 1)) ∧ ((wr ((h o0 105) - 1)) : Int).toNat < 1700 then (if (0 : Int) ≤ (wr ((h o0 105) - 2)) ∧ ((wr ((h o0 105) - 2)) : Int).toNat < 1700 then (if v1 = 1 then Option.bind (M_qClip (wl ((h (o0 + 67) ((wr ((h o0 105) - 2)) : Int).toNat) + (h (o0 + 67) ((wr ((h o0 105) - 1)) : Int).toNat)))) (fun b4 => Option.bind (M_qPuts (jup h o0 105 (wr ((h o0 105) - 2))) o0 b4) (fun b5 => some b5)) else (if v1 = 2 then Option.bind (M_qClip (wl ((h (o0 + 67) ((wr ((h o0 105) - 2)) : Int).toNat) - (h (o0 + 67) ((wr ((h o0 105) - 1)) : Int).toNat)))) (fun b7 => Option.bind (M_qPuts (jup h o0 105 (wr ((h o0 105) - 2))) o0 b7) (fun b8 => some b8)) else (if v1 = 3 then Option.bind (M_qClip (wl ((h (o0 + 67) ((wr ((h o0 105) - 2)) : Int).toNat) * (h (o0 + 67) ((wr ((h o0 105) - 1)) : Int).toNat)))) (fun b10 => Option.bind (M_qPuts (jup h o0 105 (wr ((h o0 105) - 2))) o0 b10) (fun b11 => some b11)) else (if v1 = 4 then Option.bind (M_qFloor (h (o0 + 67) ((wr ((h o0 105) - 2)) : Int).toNat) (h (o0 + 67) ((wr ((h o0 105) - 1)) : Int).toNat)) (fun b13 => Option.bind (M_qPuts (jup h o0 105 (wr ((h o0 105) - 2))) o0 b13) (fun b14 => some b14)) else (if v1 = 5 then (if (jcmp (h (o0 + 67) ((wr ((h o0 105) - 2)) : Int).toNat) (h (o0 + 67) ((wr ((h o0 105) - 1)) : Int).toNat)) < 0 then M_qJoins_p161 (jup h o0 105 (wr ((h o0 105) - 2))) o0 (h (o0 + 67) ((wr ((h o0 105) - 2)) : Int).toNat) else M_qJoins_p161 (jup h o0 105 (wr ((h o0 105) - 2))) o0 (h (o0 + 67) ((wr ((h o0 105) - 1)) : Int).toNat)) else (if v1 = 6 then (if 0 < (jcmp (h (o0 + 67) ((wr ((h o0 105) - 2)) : Int).toNat) (h (o0 + 67) ((wr ((h o0 105) - 1)) : Int).toNat)) then M_qJoins_p181 (jup h o0 105 (wr ((h o0 105) - 2))) o0 (h (o0 + 67) ((wr ((h o0 105) - 2)) : Int).toNat) else M_qJoins_p181 (jup h o0 105 (wr ((h o0 105) - 2))) o0 (h (o0 + 67) ((wr ((h o0 105) - 1)) : Int).toNat)) else (if v1 = 7 then (if (jcmp (h (o0 + 67) ((wr ((h o0 105) - 2)) : Int).toNat) (h (o0 + 67) ((wr ((h o0 105) - 1)) : Int).toNat)) < 0 then M_qJoins_p200 (jup h o0 105 (wr ((h o0 105) - 2))) o0 1 else M_qJoins_p200 (jup h o0 105 (wr ((h o0 105) - 2))) o0 0) else (if v1 = 8 then (if 0 < (jcmp (h (o0 + 67) ((wr ((h o0 105) - 2)) : Int).toNat) (h (o0 + 67) ((wr ((h o0 105) - 1)) : Int).toNat)) then M_qJoins_p219 (jup h o0 105 (wr ((h o0 105) - 2))) o0 1 else M_qJoins_p219 (jup h o0 105 (wr ((h o0 105) - 2))) o0 0) else (if v1 = 9 then (if (jcmp (h (o0 + 67) ((wr ((h o0 105) - 2)) : Int).toNat) (h (o0 + 67) ((wr ((h o0 105) - 1)) : Int).toNat)) = 0 then M_qJoins_p238 (jup h o0 105 (wr ((h o0 105) - 2))) o0 1 else M_qJoins_p238 (jup h o0 105 (wr ((h o0 105) - 2))) o0 0) else (if v1 = 10 then Option.bind (M_qPuts (jup h o0 105 (wr ((h o0 105) - 2))) o0 (wl ((h (o0 + 67) ((wr ((h o0 105) - 2)) : Int).toNat) * (h (o0 + 67) ((wr ((h o0 105) - 1)) : Int).toNat)))) (fun b26 => some b26) else (if 0 < (jcmp (wl ((h (o0 + 67) ((wr ((h o0 105) - 2)) : Int).toNat) + (h (o0 + 67) ((wr ((h o0 105) - 1)) : Int).toNat))) 0) then M_qJoins_p270 (jup h o0 105 (wr ((h o0 105) - 2))) o0 1 else M_qJoins_p270 (jup h o0 105 (wr ((h o0 105) - 2))) o0 0))))))))))) else none) else none)
set_option maxRecDepth 20000 in
theorem t_M_qJoins {T : jT} {xs : List Int} {h : jH}  {o0 : Nat} {v1 : Int} {out : jH} (ho0 : isX12 T o0) (H : M_qJoins h o0 v1 = some out) : jEm xs 2 295 [(2, Int.ofNat o0), (0, v1)] (T, h) ((3, 0), (T, out)) := by
  have hd : 1 ≤ 1 := Nat.le_refl _
  obtain ⟨y, ey⟩ : ∃ y : jV × jS, y = ((3, 0), (T, out)) := ⟨_, rfl⟩
  rw [← ey]
  have HY : ykV T y out := ey
  refine jEm.ent (n := 6) (by decide +kernel) (Nat.le_of_ble_eq_true rfl) ?_
  show jEv xs 1 (295, 0, [(2, Int.ofNat o0), (0, v1), (3, 0), (3, 0), (3, 0), (3, 0)], []) (T, h) y
  unfold M_qJoins at H
  refine jEv.blk [(.aload_n 0, 1, [])] (by decide +kernel) (pc' := 1) (ls' := [(2, Int.ofNat o0), (0, v1), (3, 0), (3, 0), (3, 0), (3, 0)]) (st' := [(2, Int.ofNat o0)]) rfl ?_
  refine jEv.gfR (o' := (o0 + 67)) (show jfI 295 1 (.getfield 222) 3 [12, 104, 5, 0, 7140] = true by decide +kernel) (isX12_L ho0) (by decide) (isX12_r104 ho0) ?_
  refine jEv.blk [(.aload_n 0, 1, [])] (by decide +kernel) (pc' := 5) (ls' := [(2, Int.ofNat o0), (0, v1), (3, 0), (3, 0), (3, 0), (3, 0)]) (st' := [(2, Int.ofNat o0), (2, Int.ofNat (o0 + 67))]) rfl ?_
  refine jEv.gfI (show jfI 295 5 (.getfield 366) 3 [12, 105, 0, 0, 7141] = true by decide +kernel) (isX12_L ho0) (by decide) ?_
  refine jEv.blk [(.iconst 1, 1, []), (.isub, 1, [])] (by decide +kernel) (pc' := 10) (ls' := [(2, Int.ofNat o0), (0, v1), (3, 0), (3, 0), (3, 0), (3, 0)]) (st' := [(0, (wr ((h o0 105) - 1))), (2, Int.ofNat (o0 + 67))]) rfl ?_
  refine jEv.ald (Or.inr (Or.inl ⟨rfl, rfl, rfl⟩)) (show jfI 295 10 (.laload) 1 [] = true by decide +kernel) (isX12_a104 ho0) H (fun c1 H => ?_)
  refine jEv.blk [(.lstore_n 2, 1, []), (.aload_n 0, 1, [])] (by decide +kernel) (pc' := 13) (ls' := [(2, Int.ofNat o0), (0, v1), (1, (h (o0 + 67) ((wr ((h o0 105) - 1)) : Int).toNat)), (3, 0), (3, 0), (3, 0)]) (st' := [(2, Int.ofNat o0)]) rfl ?_
  refine jEv.gfR (o' := (o0 + 67)) (show jfI 295 13 (.getfield 222) 3 [12, 104, 5, 0, 7140] = true by decide +kernel) (isX12_L ho0) (by decide) (isX12_r104 ho0) ?_
  refine jEv.blk [(.aload_n 0, 1, [])] (by decide +kernel) (pc' := 17) (ls' := [(2, Int.ofNat o0), (0, v1), (1, (h (o0 + 67) ((wr ((h o0 105) - 1)) : Int).toNat)), (3, 0), (3, 0), (3, 0)]) (st' := [(2, Int.ofNat o0), (2, Int.ofNat (o0 + 67))]) rfl ?_
  refine jEv.gfI (show jfI 295 17 (.getfield 366) 3 [12, 105, 0, 0, 7141] = true by decide +kernel) (isX12_L ho0) (by decide) ?_
  refine jEv.blk [(.iconst 2, 1, []), (.isub, 1, [])] (by decide +kernel) (pc' := 22) (ls' := [(2, Int.ofNat o0), (0, v1), (1, (h (o0 + 67) ((wr ((h o0 105) - 1)) : Int).toNat)), (3, 0), (3, 0), (3, 0)]) (st' := [(0, (wr ((h o0 105) - 2))), (2, Int.ofNat (o0 + 67))]) rfl ?_
  refine jEv.ald (Or.inr (Or.inl ⟨rfl, rfl, rfl⟩)) (show jfI 295 22 (.laload) 1 [] = true by decide +kernel) (isX12_a104 ho0) H (fun c2 H => ?_)
  refine jEv.blk [(.lstore 4, 2, []), (.aload_n 0, 1, []), (.dup, 1, [])] (by decide +kernel) (pc' := 27) (ls' := [(2, Int.ofNat o0), (0, v1), (1, (h (o0 + 67) ((wr ((h o0 105) - 1)) : Int).toNat)), (3, 0), (1, (h (o0 + 67) ((wr ((h o0 105) - 2)) : Int).toNat)), (3, 0)]) (st' := [(2, Int.ofNat o0), (2, Int.ofNat o0)]) rfl ?_
  refine jEv.gfI (show jfI 295 27 (.getfield 366) 3 [12, 105, 0, 0, 7141] = true by decide +kernel) (isX12_L ho0) (by decide) ?_
  refine jEv.blk [(.iconst 2, 1, []), (.isub, 1, [])] (by decide +kernel) (pc' := 32) (ls' := [(2, Int.ofNat o0), (0, v1), (1, (h (o0 + 67) ((wr ((h o0 105) - 1)) : Int).toNat)), (3, 0), (1, (h (o0 + 67) ((wr ((h o0 105) - 2)) : Int).toNat)), (3, 0)]) (st' := [(0, (wr ((h o0 105) - 2))), (2, Int.ofNat o0)]) rfl ?_
  refine jEv.pfI (show jfI 295 32 (.putfield 366) 3 [12, 105, 0, 0, 7141] = true by decide +kernel) (isX12_L ho0) (by decide) ?_
  refine jEv.blk [(.iload_n 1, 1, [])] (by decide +kernel) (pc' := 36) (ls' := [(2, Int.ofNat o0), (0, v1), (1, (h (o0 + 67) ((wr ((h o0 105) - 1)) : Int).toNat)), (3, 0), (1, (h (o0 + 67) ((wr ((h o0 105) - 2)) : Int).toNat)), (3, 0)]) (st' := [(0, v1)]) rfl ?_
  refine jite H (fun c3 H => ?_) (fun c3 H => ?_)
  · refine jEv.tsI (v := 1) (off := 56) (t := 92) (show jfI 295 36 (.tableswitch 219 1 10 #[56, 70, 84, 98, 111, 131, 151, 170, 189, 208]) 56 [] = true by decide +kernel) c3 (by decide) (by decide) rfl (by decide) ?_
    refine jEv.blk [(.aload_n 0, 1, []), (.lload 4, 2, []), (.lload_n 2, 1, []), (.ladd, 1, [])] (by decide +kernel) (pc' := 97) (ls' := [(2, Int.ofNat o0), (0, v1), (1, (h (o0 + 67) ((wr ((h o0 105) - 1)) : Int).toNat)), (3, 0), (1, (h (o0 + 67) ((wr ((h o0 105) - 2)) : Int).toNat)), (3, 0)]) (st' := [(1, (wl ((h (o0 + 67) ((wr ((h o0 105) - 2)) : Int).toNat) + (h (o0 + 67) ((wr ((h o0 105) - 1)) : Int).toNat)))), (2, Int.ofNat o0)]) rfl ?_
    refine jbind H (fun b4 Hb4 H => ?_)
    refine jEv.calS (st' := [(1, b4), (2, Int.ofNat o0)]) (show jfI 295 97 (.invokestatic 714) 3 [3, 296, 1, 10030] = true by decide +kernel) rfl (Or.inl rfl) rfl (Nat.le_of_ble_eq_true rfl) ((t_M_qClip (T := T) (xs := xs)  Hb4).mono (jKle 1 hd)) rfl ?_
    refine jbind H (fun b5 Hb5 H => ?_)
    refine jEv.calV (st' := []) (show jfI 295 100 (.invokevirtual 369) 3 [1, 293, 1, 10018] = true by decide +kernel) rfl (Or.inl rfl) rfl (Nat.le_of_ble_eq_true rfl) (by decide +kernel) (by decide) (isX12_L ho0) ((t_M_qPuts (T := T) (xs := xs) ho0 Hb5).mono (jKle 1 hd)) rfl ?_
    refine jEv.goto (t := 273) (show jfI 295 103 (.goto 170) 3 [] = true by decide +kernel) rfl ?_
    exact jEv.retV (show jfI 295 273 (.return_) 1 [] = true by decide +kernel) (by decide +kernel) (by cases H; exact HY)
  · refine jite H (fun c6 H => ?_) (fun c6 H => ?_)
    · refine jEv.tsI (v := 2) (off := 70) (t := 106) (show jfI 295 36 (.tableswitch 219 1 10 #[56, 70, 84, 98, 111, 131, 151, 170, 189, 208]) 56 [] = true by decide +kernel) c6 (by decide) (by decide) rfl (by decide) ?_
      refine jEv.blk [(.aload_n 0, 1, []), (.lload 4, 2, []), (.lload_n 2, 1, []), (.lsub, 1, [])] (by decide +kernel) (pc' := 111) (ls' := [(2, Int.ofNat o0), (0, v1), (1, (h (o0 + 67) ((wr ((h o0 105) - 1)) : Int).toNat)), (3, 0), (1, (h (o0 + 67) ((wr ((h o0 105) - 2)) : Int).toNat)), (3, 0)]) (st' := [(1, (wl ((h (o0 + 67) ((wr ((h o0 105) - 2)) : Int).toNat) - (h (o0 + 67) ((wr ((h o0 105) - 1)) : Int).toNat)))), (2, Int.ofNat o0)]) rfl ?_
      refine jbind H (fun b7 Hb7 H => ?_)
      refine jEv.calS (st' := [(1, b7), (2, Int.ofNat o0)]) (show jfI 295 111 (.invokestatic 714) 3 [3, 296, 1, 10030] = true by decide +kernel) rfl (Or.inl rfl) rfl (Nat.le_of_ble_eq_true rfl) ((t_M_qClip (T := T) (xs := xs)  Hb7).mono (jKle 1 hd)) rfl ?_
      refine jbind H (fun b8 Hb8 H => ?_)
      refine jEv.calV (st' := []) (show jfI 295 114 (.invokevirtual 369) 3 [1, 293, 1, 10018] = true by decide +kernel) rfl (Or.inl rfl) rfl (Nat.le_of_ble_eq_true rfl) (by decide +kernel) (by decide) (isX12_L ho0) ((t_M_qPuts (T := T) (xs := xs) ho0 Hb8).mono (jKle 1 hd)) rfl ?_
      refine jEv.goto (t := 273) (show jfI 295 117 (.goto 156) 3 [] = true by decide +kernel) rfl ?_
      exact jEv.retV (show jfI 295 273 (.return_) 1 [] = true by decide +kernel) (by decide +kernel) (by cases H; exact HY)
    · refine jite H (fun c9 H => ?_) (fun c9 H => ?_)
      · refine jEv.tsI (v := 3) (off := 84) (t := 120) (show jfI 295 36 (.tableswitch 219 1 10 #[56, 70, 84, 98, 111, 131, 151, 170, 189, 208]) 56 [] = true by decide +kernel) c9 (by decide) (by decide) rfl (by decide) ?_
        refine jEv.blk [(.aload_n 0, 1, []), (.lload 4, 2, []), (.lload_n 2, 1, []), (.lmul, 1, [])] (by decide +kernel) (pc' := 125) (ls' := [(2, Int.ofNat o0), (0, v1), (1, (h (o0 + 67) ((wr ((h o0 105) - 1)) : Int).toNat)), (3, 0), (1, (h (o0 + 67) ((wr ((h o0 105) - 2)) : Int).toNat)), (3, 0)]) (st' := [(1, (wl ((h (o0 + 67) ((wr ((h o0 105) - 2)) : Int).toNat) * (h (o0 + 67) ((wr ((h o0 105) - 1)) : Int).toNat)))), (2, Int.ofNat o0)]) rfl ?_
        refine jbind H (fun b10 Hb10 H => ?_)
        refine jEv.calS (st' := [(1, b10), (2, Int.ofNat o0)]) (show jfI 295 125 (.invokestatic 714) 3 [3, 296, 1, 10030] = true by decide +kernel) rfl (Or.inl rfl) rfl (Nat.le_of_ble_eq_true rfl) ((t_M_qClip (T := T) (xs := xs)  Hb10).mono (jKle 1 hd)) rfl ?_
        refine jbind H (fun b11 Hb11 H => ?_)
        refine jEv.calV (st' := []) (show jfI 295 128 (.invokevirtual 369) 3 [1, 293, 1, 10018] = true by decide +kernel) rfl (Or.inl rfl) rfl (Nat.le_of_ble_eq_true rfl) (by decide +kernel) (by decide) (isX12_L ho0) ((t_M_qPuts (T := T) (xs := xs) ho0 Hb11).mono (jKle 1 hd)) rfl ?_
        refine jEv.goto (t := 273) (show jfI 295 131 (.goto 142) 3 [] = true by decide +kernel) rfl ?_
        exact jEv.retV (show jfI 295 273 (.return_) 1 [] = true by decide +kernel) (by decide +kernel) (by cases H; exact HY)
      · refine jite H (fun c12 H => ?_) (fun c12 H => ?_)
        · refine jEv.tsI (v := 4) (off := 98) (t := 134) (show jfI 295 36 (.tableswitch 219 1 10 #[56, 70, 84, 98, 111, 131, 151, 170, 189, 208]) 56 [] = true by decide +kernel) c12 (by decide) (by decide) rfl (by decide) ?_
          refine jEv.blk [(.aload_n 0, 1, []), (.lload 4, 2, []), (.lload_n 2, 1, [])] (by decide +kernel) (pc' := 138) (ls' := [(2, Int.ofNat o0), (0, v1), (1, (h (o0 + 67) ((wr ((h o0 105) - 1)) : Int).toNat)), (3, 0), (1, (h (o0 + 67) ((wr ((h o0 105) - 2)) : Int).toNat)), (3, 0)]) (st' := [(1, (h (o0 + 67) ((wr ((h o0 105) - 1)) : Int).toNat)), (1, (h (o0 + 67) ((wr ((h o0 105) - 2)) : Int).toNat)), (2, Int.ofNat o0)]) rfl ?_
          refine jbind H (fun b13 Hb13 H => ?_)
          refine jEv.calS (st' := [(1, b13), (2, Int.ofNat o0)]) (show jfI 295 138 (.invokestatic 718) 3 [3, 297, 2, 10035] = true by decide +kernel) rfl (Or.inl rfl) rfl (Nat.le_of_ble_eq_true rfl) ((t_M_qFloor (T := T) (xs := xs)  Hb13).mono (jKle 1 hd)) rfl ?_
          refine jbind H (fun b14 Hb14 H => ?_)
          refine jEv.calV (st' := []) (show jfI 295 141 (.invokevirtual 369) 3 [1, 293, 1, 10018] = true by decide +kernel) rfl (Or.inl rfl) rfl (Nat.le_of_ble_eq_true rfl) (by decide +kernel) (by decide) (isX12_L ho0) ((t_M_qPuts (T := T) (xs := xs) ho0 Hb14).mono (jKle 1 hd)) rfl ?_
          refine jEv.goto (t := 273) (show jfI 295 144 (.goto 129) 3 [] = true by decide +kernel) rfl ?_
          exact jEv.retV (show jfI 295 273 (.return_) 1 [] = true by decide +kernel) (by decide +kernel) (by cases H; exact HY)
        · refine jite H (fun c15 H => ?_) (fun c15 H => ?_)
          · refine jEv.tsI (v := 5) (off := 111) (t := 147) (show jfI 295 36 (.tableswitch 219 1 10 #[56, 70, 84, 98, 111, 131, 151, 170, 189, 208]) 56 [] = true by decide +kernel) c15 (by decide) (by decide) rfl (by decide) ?_
            refine jEv.blk [(.aload_n 0, 1, []), (.lload 4, 2, []), (.lload_n 2, 1, []), (.lcmp, 1, [])] (by decide +kernel) (pc' := 152) (ls' := [(2, Int.ofNat o0), (0, v1), (1, (h (o0 + 67) ((wr ((h o0 105) - 1)) : Int).toNat)), (3, 0), (1, (h (o0 + 67) ((wr ((h o0 105) - 2)) : Int).toNat)), (3, 0)]) (st' := [(0, (jcmp (h (o0 + 67) ((wr ((h o0 105) - 2)) : Int).toNat) (h (o0 + 67) ((wr ((h o0 105) - 1)) : Int).toNat))), (2, Int.ofNat o0)]) rfl ?_
            refine jEv.if_ge (t := 160) (show jfI 295 152 (.ifCond .ge 8) 3 [] = true by decide +kernel) rfl H (fun c16 H => ?_) (fun c16 H => ?_)
            · refine jEv.blk [(.lload 4, 2, [])] (by decide +kernel) (pc' := 157) (ls' := [(2, Int.ofNat o0), (0, v1), (1, (h (o0 + 67) ((wr ((h o0 105) - 1)) : Int).toNat)), (3, 0), (1, (h (o0 + 67) ((wr ((h o0 105) - 2)) : Int).toNat)), (3, 0)]) (st' := [(1, (h (o0 + 67) ((wr ((h o0 105) - 2)) : Int).toNat)), (2, Int.ofNat o0)]) rfl ?_
              refine jEv.goto (t := 161) (show jfI 295 157 (.goto 4) 3 [] = true by decide +kernel) rfl ?_
              exact jEv.weak (a := [(3, 0), (3, 0), (3, 0), (3, 0), (3, 0), (3, 0)]) (jles.c0 (jles.c0 (jles.c0 (jles.c0 (jles.c0 (jles.c0 jles.nl)))))) (t_M_qJoins_p161 (T := T) (xs := xs) (y := y) hd ho0 H HY)
            · refine jEv.blk [(.lload_n 2, 1, [])] (by decide +kernel) (pc' := 161) (ls' := [(2, Int.ofNat o0), (0, v1), (1, (h (o0 + 67) ((wr ((h o0 105) - 1)) : Int).toNat)), (3, 0), (1, (h (o0 + 67) ((wr ((h o0 105) - 2)) : Int).toNat)), (3, 0)]) (st' := [(1, (h (o0 + 67) ((wr ((h o0 105) - 1)) : Int).toNat)), (2, Int.ofNat o0)]) rfl ?_
              exact jEv.weak (a := [(3, 0), (3, 0), (3, 0), (3, 0), (3, 0), (3, 0)]) (jles.c0 (jles.c0 (jles.c0 (jles.c0 (jles.c0 (jles.c0 jles.nl)))))) (t_M_qJoins_p161 (T := T) (xs := xs) (y := y) hd ho0 H HY)
          · refine jite H (fun c17 H => ?_) (fun c17 H => ?_)
            · refine jEv.tsI (v := 6) (off := 131) (t := 167) (show jfI 295 36 (.tableswitch 219 1 10 #[56, 70, 84, 98, 111, 131, 151, 170, 189, 208]) 56 [] = true by decide +kernel) c17 (by decide) (by decide) rfl (by decide) ?_
              refine jEv.blk [(.aload_n 0, 1, []), (.lload 4, 2, []), (.lload_n 2, 1, []), (.lcmp, 1, [])] (by decide +kernel) (pc' := 172) (ls' := [(2, Int.ofNat o0), (0, v1), (1, (h (o0 + 67) ((wr ((h o0 105) - 1)) : Int).toNat)), (3, 0), (1, (h (o0 + 67) ((wr ((h o0 105) - 2)) : Int).toNat)), (3, 0)]) (st' := [(0, (jcmp (h (o0 + 67) ((wr ((h o0 105) - 2)) : Int).toNat) (h (o0 + 67) ((wr ((h o0 105) - 1)) : Int).toNat))), (2, Int.ofNat o0)]) rfl ?_
              refine jEv.if_le (t := 180) (show jfI 295 172 (.ifCond .le 8) 3 [] = true by decide +kernel) rfl H (fun c18 H => ?_) (fun c18 H => ?_)
              · refine jEv.blk [(.lload 4, 2, [])] (by decide +kernel) (pc' := 177) (ls' := [(2, Int.ofNat o0), (0, v1), (1, (h (o0 + 67) ((wr ((h o0 105) - 1)) : Int).toNat)), (3, 0), (1, (h (o0 + 67) ((wr ((h o0 105) - 2)) : Int).toNat)), (3, 0)]) (st' := [(1, (h (o0 + 67) ((wr ((h o0 105) - 2)) : Int).toNat)), (2, Int.ofNat o0)]) rfl ?_
                refine jEv.goto (t := 181) (show jfI 295 177 (.goto 4) 3 [] = true by decide +kernel) rfl ?_
                exact jEv.weak (a := [(3, 0), (3, 0), (3, 0), (3, 0), (3, 0), (3, 0)]) (jles.c0 (jles.c0 (jles.c0 (jles.c0 (jles.c0 (jles.c0 jles.nl)))))) (t_M_qJoins_p181 (T := T) (xs := xs) (y := y) hd ho0 H HY)
              · refine jEv.blk [(.lload_n 2, 1, [])] (by decide +kernel) (pc' := 181) (ls' := [(2, Int.ofNat o0), (0, v1), (1, (h (o0 + 67) ((wr ((h o0 105) - 1)) : Int).toNat)), (3, 0), (1, (h (o0 + 67) ((wr ((h o0 105) - 2)) : Int).toNat)), (3, 0)]) (st' := [(1, (h (o0 + 67) ((wr ((h o0 105) - 1)) : Int).toNat)), (2, Int.ofNat o0)]) rfl ?_
                exact jEv.weak (a := [(3, 0), (3, 0), (3, 0), (3, 0), (3, 0), (3, 0)]) (jles.c0 (jles.c0 (jles.c0 (jles.c0 (jles.c0 (jles.c0 jles.nl)))))) (t_M_qJoins_p181 (T := T) (xs := xs) (y := y) hd ho0 H HY)
            · refine jite H (fun c19 H => ?_) (fun c19 H => ?_)
              · refine jEv.tsI (v := 7) (off := 151) (t := 187) (show jfI 295 36 (.tableswitch 219 1 10 #[56, 70, 84, 98, 111, 131, 151, 170, 189, 208]) 56 [] = true by decide +kernel) c19 (by decide) (by decide) rfl (by decide) ?_
                refine jEv.blk [(.aload_n 0, 1, []), (.lload 4, 2, []), (.lload_n 2, 1, []), (.lcmp, 1, [])] (by decide +kernel) (pc' := 192) (ls' := [(2, Int.ofNat o0), (0, v1), (1, (h (o0 + 67) ((wr ((h o0 105) - 1)) : Int).toNat)), (3, 0), (1, (h (o0 + 67) ((wr ((h o0 105) - 2)) : Int).toNat)), (3, 0)]) (st' := [(0, (jcmp (h (o0 + 67) ((wr ((h o0 105) - 2)) : Int).toNat) (h (o0 + 67) ((wr ((h o0 105) - 1)) : Int).toNat))), (2, Int.ofNat o0)]) rfl ?_
                refine jEv.if_ge (t := 199) (show jfI 295 192 (.ifCond .ge 7) 3 [] = true by decide +kernel) rfl H (fun c20 H => ?_) (fun c20 H => ?_)
                · refine jEv.blk [(.lconst 1, 1, [])] (by decide +kernel) (pc' := 196) (ls' := [(2, Int.ofNat o0), (0, v1), (1, (h (o0 + 67) ((wr ((h o0 105) - 1)) : Int).toNat)), (3, 0), (1, (h (o0 + 67) ((wr ((h o0 105) - 2)) : Int).toNat)), (3, 0)]) (st' := [(1, 1), (2, Int.ofNat o0)]) rfl ?_
                  refine jEv.goto (t := 200) (show jfI 295 196 (.goto 4) 3 [] = true by decide +kernel) rfl ?_
                  exact jEv.weak (a := [(3, 0), (3, 0), (3, 0), (3, 0), (3, 0), (3, 0)]) (jles.c0 (jles.c0 (jles.c0 (jles.c0 (jles.c0 (jles.c0 jles.nl)))))) (t_M_qJoins_p200 (T := T) (xs := xs) (y := y) hd ho0 H HY)
                · refine jEv.blk [(.lconst 0, 1, [])] (by decide +kernel) (pc' := 200) (ls' := [(2, Int.ofNat o0), (0, v1), (1, (h (o0 + 67) ((wr ((h o0 105) - 1)) : Int).toNat)), (3, 0), (1, (h (o0 + 67) ((wr ((h o0 105) - 2)) : Int).toNat)), (3, 0)]) (st' := [(1, 0), (2, Int.ofNat o0)]) rfl ?_
                  exact jEv.weak (a := [(3, 0), (3, 0), (3, 0), (3, 0), (3, 0), (3, 0)]) (jles.c0 (jles.c0 (jles.c0 (jles.c0 (jles.c0 (jles.c0 jles.nl)))))) (t_M_qJoins_p200 (T := T) (xs := xs) (y := y) hd ho0 H HY)
              · refine jite H (fun c21 H => ?_) (fun c21 H => ?_)
                · refine jEv.tsI (v := 8) (off := 170) (t := 206) (show jfI 295 36 (.tableswitch 219 1 10 #[56, 70, 84, 98, 111, 131, 151, 170, 189, 208]) 56 [] = true by decide +kernel) c21 (by decide) (by decide) rfl (by decide) ?_
                  refine jEv.blk [(.aload_n 0, 1, []), (.lload 4, 2, []), (.lload_n 2, 1, []), (.lcmp, 1, [])] (by decide +kernel) (pc' := 211) (ls' := [(2, Int.ofNat o0), (0, v1), (1, (h (o0 + 67) ((wr ((h o0 105) - 1)) : Int).toNat)), (3, 0), (1, (h (o0 + 67) ((wr ((h o0 105) - 2)) : Int).toNat)), (3, 0)]) (st' := [(0, (jcmp (h (o0 + 67) ((wr ((h o0 105) - 2)) : Int).toNat) (h (o0 + 67) ((wr ((h o0 105) - 1)) : Int).toNat))), (2, Int.ofNat o0)]) rfl ?_
                  refine jEv.if_le (t := 218) (show jfI 295 211 (.ifCond .le 7) 3 [] = true by decide +kernel) rfl H (fun c22 H => ?_) (fun c22 H => ?_)
                  · refine jEv.blk [(.lconst 1, 1, [])] (by decide +kernel) (pc' := 215) (ls' := [(2, Int.ofNat o0), (0, v1), (1, (h (o0 + 67) ((wr ((h o0 105) - 1)) : Int).toNat)), (3, 0), (1, (h (o0 + 67) ((wr ((h o0 105) - 2)) : Int).toNat)), (3, 0)]) (st' := [(1, 1), (2, Int.ofNat o0)]) rfl ?_
                    refine jEv.goto (t := 219) (show jfI 295 215 (.goto 4) 3 [] = true by decide +kernel) rfl ?_
                    exact jEv.weak (a := [(3, 0), (3, 0), (3, 0), (3, 0), (3, 0), (3, 0)]) (jles.c0 (jles.c0 (jles.c0 (jles.c0 (jles.c0 (jles.c0 jles.nl)))))) (t_M_qJoins_p219 (T := T) (xs := xs) (y := y) hd ho0 H HY)
                  · refine jEv.blk [(.lconst 0, 1, [])] (by decide +kernel) (pc' := 219) (ls' := [(2, Int.ofNat o0), (0, v1), (1, (h (o0 + 67) ((wr ((h o0 105) - 1)) : Int).toNat)), (3, 0), (1, (h (o0 + 67) ((wr ((h o0 105) - 2)) : Int).toNat)), (3, 0)]) (st' := [(1, 0), (2, Int.ofNat o0)]) rfl ?_
                    exact jEv.weak (a := [(3, 0), (3, 0), (3, 0), (3, 0), (3, 0), (3, 0)]) (jles.c0 (jles.c0 (jles.c0 (jles.c0 (jles.c0 (jles.c0 jles.nl)))))) (t_M_qJoins_p219 (T := T) (xs := xs) (y := y) hd ho0 H HY)
                · refine jite H (fun c23 H => ?_) (fun c23 H => ?_)
                  · refine jEv.tsI (v := 9) (off := 189) (t := 225) (show jfI 295 36 (.tableswitch 219 1 10 #[56, 70, 84, 98, 111, 131, 151, 170, 189, 208]) 56 [] = true by decide +kernel) c23 (by decide) (by decide) rfl (by decide) ?_
                    refine jEv.blk [(.aload_n 0, 1, []), (.lload 4, 2, []), (.lload_n 2, 1, []), (.lcmp, 1, [])] (by decide +kernel) (pc' := 230) (ls' := [(2, Int.ofNat o0), (0, v1), (1, (h (o0 + 67) ((wr ((h o0 105) - 1)) : Int).toNat)), (3, 0), (1, (h (o0 + 67) ((wr ((h o0 105) - 2)) : Int).toNat)), (3, 0)]) (st' := [(0, (jcmp (h (o0 + 67) ((wr ((h o0 105) - 2)) : Int).toNat) (h (o0 + 67) ((wr ((h o0 105) - 1)) : Int).toNat))), (2, Int.ofNat o0)]) rfl ?_
                    refine jEv.if_ne (t := 237) (show jfI 295 230 (.ifCond .ne 7) 3 [] = true by decide +kernel) rfl H (fun c24 H => ?_) (fun c24 H => ?_)
                    · refine jEv.blk [(.lconst 1, 1, [])] (by decide +kernel) (pc' := 234) (ls' := [(2, Int.ofNat o0), (0, v1), (1, (h (o0 + 67) ((wr ((h o0 105) - 1)) : Int).toNat)), (3, 0), (1, (h (o0 + 67) ((wr ((h o0 105) - 2)) : Int).toNat)), (3, 0)]) (st' := [(1, 1), (2, Int.ofNat o0)]) rfl ?_
                      refine jEv.goto (t := 238) (show jfI 295 234 (.goto 4) 3 [] = true by decide +kernel) rfl ?_
                      exact jEv.weak (a := [(3, 0), (3, 0), (3, 0), (3, 0), (3, 0), (3, 0)]) (jles.c0 (jles.c0 (jles.c0 (jles.c0 (jles.c0 (jles.c0 jles.nl)))))) (t_M_qJoins_p238 (T := T) (xs := xs) (y := y) hd ho0 H HY)
                    · refine jEv.blk [(.lconst 0, 1, [])] (by decide +kernel) (pc' := 238) (ls' := [(2, Int.ofNat o0), (0, v1), (1, (h (o0 + 67) ((wr ((h o0 105) - 1)) : Int).toNat)), (3, 0), (1, (h (o0 + 67) ((wr ((h o0 105) - 2)) : Int).toNat)), (3, 0)]) (st' := [(1, 0), (2, Int.ofNat o0)]) rfl ?_
                      exact jEv.weak (a := [(3, 0), (3, 0), (3, 0), (3, 0), (3, 0), (3, 0)]) (jles.c0 (jles.c0 (jles.c0 (jles.c0 (jles.c0 (jles.c0 jles.nl)))))) (t_M_qJoins_p238 (T := T) (xs := xs) (y := y) hd ho0 H HY)
                  · refine jite H (fun c25 H => ?_) (fun c25 H => ?_)
                    · refine jEv.tsI (v := 10) (off := 208) (t := 244) (show jfI 295 36 (.tableswitch 219 1 10 #[56, 70, 84, 98, 111, 131, 151, 170, 189, 208]) 56 [] = true by decide +kernel) c25 (by decide) (by decide) rfl (by decide) ?_
                      refine jEv.blk [(.aload_n 0, 1, []), (.lload 4, 2, []), (.lload_n 2, 1, []), (.lmul, 1, [])] (by decide +kernel) (pc' := 249) (ls' := [(2, Int.ofNat o0), (0, v1), (1, (h (o0 + 67) ((wr ((h o0 105) - 1)) : Int).toNat)), (3, 0), (1, (h (o0 + 67) ((wr ((h o0 105) - 2)) : Int).toNat)), (3, 0)]) (st' := [(1, (wl ((h (o0 + 67) ((wr ((h o0 105) - 2)) : Int).toNat) * (h (o0 + 67) ((wr ((h o0 105) - 1)) : Int).toNat)))), (2, Int.ofNat o0)]) rfl ?_
                      refine jbind H (fun b26 Hb26 H => ?_)
                      refine jEv.calV (st' := []) (show jfI 295 249 (.invokevirtual 369) 3 [1, 293, 1, 10018] = true by decide +kernel) rfl (Or.inl rfl) rfl (Nat.le_of_ble_eq_true rfl) (by decide +kernel) (by decide) (isX12_L ho0) ((t_M_qPuts (T := T) (xs := xs) ho0 Hb26).mono (jKle 1 hd)) rfl ?_
                      refine jEv.goto (t := 273) (show jfI 295 252 (.goto 21) 3 [] = true by decide +kernel) rfl ?_
                      exact jEv.retV (show jfI 295 273 (.return_) 1 [] = true by decide +kernel) (by decide +kernel) (by cases H; exact HY)
                    · refine jEv.tsO (t := 255) (show jfI 295 36 (.tableswitch 219 1 10 #[56, 70, 84, 98, 111, 131, 151, 170, 189, 208]) 56 [] = true by decide +kernel) (by omega) rfl (by decide) ?_
                      refine jEv.blk [(.aload_n 0, 1, []), (.lload 4, 2, []), (.lload_n 2, 1, []), (.ladd, 1, []), (.lconst 0, 1, []), (.lcmp, 1, [])] (by decide +kernel) (pc' := 262) (ls' := [(2, Int.ofNat o0), (0, v1), (1, (h (o0 + 67) ((wr ((h o0 105) - 1)) : Int).toNat)), (3, 0), (1, (h (o0 + 67) ((wr ((h o0 105) - 2)) : Int).toNat)), (3, 0)]) (st' := [(0, (jcmp (wl ((h (o0 + 67) ((wr ((h o0 105) - 2)) : Int).toNat) + (h (o0 + 67) ((wr ((h o0 105) - 1)) : Int).toNat))) 0)), (2, Int.ofNat o0)]) rfl ?_
                      refine jEv.if_le (t := 269) (show jfI 295 262 (.ifCond .le 7) 3 [] = true by decide +kernel) rfl H (fun c27 H => ?_) (fun c27 H => ?_)
                      · refine jEv.blk [(.lconst 1, 1, [])] (by decide +kernel) (pc' := 266) (ls' := [(2, Int.ofNat o0), (0, v1), (1, (h (o0 + 67) ((wr ((h o0 105) - 1)) : Int).toNat)), (3, 0), (1, (h (o0 + 67) ((wr ((h o0 105) - 2)) : Int).toNat)), (3, 0)]) (st' := [(1, 1), (2, Int.ofNat o0)]) rfl ?_
                        refine jEv.goto (t := 270) (show jfI 295 266 (.goto 4) 3 [] = true by decide +kernel) rfl ?_
                        exact jEv.weak (a := [(3, 0), (3, 0), (3, 0), (3, 0), (3, 0), (3, 0)]) (jles.c0 (jles.c0 (jles.c0 (jles.c0 (jles.c0 (jles.c0 jles.nl)))))) (t_M_qJoins_p270 (T := T) (xs := xs) (y := y) hd ho0 H HY)
                      · refine jEv.blk [(.lconst 0, 1, [])] (by decide +kernel) (pc' := 270) (ls' := [(2, Int.ofNat o0), (0, v1), (1, (h (o0 + 67) ((wr ((h o0 105) - 1)) : Int).toNat)), (3, 0), (1, (h (o0 + 67) ((wr ((h o0 105) - 2)) : Int).toNat)), (3, 0)]) (st' := [(1, 0), (2, Int.ofNat o0)]) rfl ?_
                        exact jEv.weak (a := [(3, 0), (3, 0), (3, 0), (3, 0), (3, 0), (3, 0)]) (jles.c0 (jles.c0 (jles.c0 (jles.c0 (jles.c0 (jles.c0 jles.nl)))))) (t_M_qJoins_p270 (T := T) (xs := xs) (y := y) hd ho0 H HY)
def yk_M_codesTell_L19 (T : jT) (xs : List Int) (d : Nat) (y : jV × jS)  (o0 : Nat) (v1 : Int) : ((Int × jH) ⊕ (Int × jH)) → Prop
  | .inl (v2, h) => jEv xs d (292, 19, [(2, Int.ofNat o0), (0, v1), (0, v2), (3, 0)], []) (T, h) y
  | .inr o => ykJ T y o
set_option maxRecDepth 20000 in
noncomputable def M_codesTell_B19  (h : jH) (o0 : Nat) (v1 : Int) (v2 : Int) : Option ((Int × jH) ⊕ (Int × jH)) := (if (0 : Int) ≤ (wr (2 + v1)) ∧ ((wr (2 + v1)) : Int).toNat < 4 then (if v2 < (h (o0 + 31) ((wr (2 + v1)) : Int).toNat) then (if (0 : Int) ≤ (wr (1600 + v2)) ∧ ((wr (1600 + v2)) : Int).toNat < 3200 then (if (h (o0 + 32) ((wr (1600 + v2)) : Int).toNat) < 1000 then (if (h (o0 + 32) ((wr (1600 + v2)) : Int).toNat) < 40 then (if (h (o0 + 32) ((wr (1600 + v2)) : Int).toNat) = 13 then Option.bind (M_qPuts h o0 1) (fun b8 => some (.inl ((wr (v2 + 1)), b8))) else (if (h (o0 + 32) ((wr (1600 + v2)) : Int).toNat) = 12 then (if (0 : Int) ≤ (wr ((h o0 105) - 1)) ∧ ((wr ((h o0 105) - 1)) : Int).toNat < 1700 then (if (0 : Int) ≤ (wr ((h o0 105) - 1)) ∧ ((wr ((h o0 105) - 1)) : Int).toNat < 1700 then some (.inl ((wr (v2 + 1)), (jup h (o0 + 67) ((wr ((h o0 105) - 1)) : Int).toNat (wl (1 - (h (o0 + 67) ((wr ((h o0 105) - 1)) : Int).toNat)))))) else none) else none) else Option.bind (M_qJoins h o0 (h (o0 + 32) ((wr (1600 + v2)) : Int).toNat)) (fun b12 => some (.inl ((wr (v2 + 1)), b12))))) else Option.bind (M_qPartOf h o0 (wr ((h (o0 + 32) ((wr (1600 + v2)) : Int).toNat) - 40)) 0) (fun b13 => Option.bind (M_qPuts b13.2 o0 b13.1) (fun b14 => some (.inl ((wr (v2 + 1)), b14))))) else Option.bind (M_qPuts h o0 (wr ((h (o0 + 32) ((wr (1600 + v2)) : Int).toNat) - 1000))) (fun b15 => some (.inl ((wr (v2 + 1)), b15)))) else none) else Option.map Sum.inr ((if (0 : Int) ≤ 0 ∧ (0 : Int).toNat < 1700 then some ((h (o0 + 67) (0 : Int).toNat), h) else none))) else none)
noncomputable def M_codesTell_L19  (h : jH) (o0 : Nat) (v1 : Int) (v2 : Int) : Option (Int × jH) := jloop (fun s : (Int × jH) => M_codesTell_B19 s.2 o0 v1 s.1) (v2, h)
set_option maxRecDepth 20000 in
theorem t_M_codesTell_B19 {T : jT} {xs : List Int} {d : Nat} {y : jV × jS} (hd : 6 ≤ d) {h : jH}  {o0 : Nat} {v1 : Int} {v2 : Int} {out : ((Int × jH) ⊕ (Int × jH))} (ho0 : isX12 T o0) (H : M_codesTell_B19 h o0 v1 v2 = some out) (HY : yk_M_codesTell_L19 T xs d y o0 v1 out) : jEv xs d (292, 19, [(2, Int.ofNat o0), (0, v1), (0, v2), (3, 0)], []) (T, h) y := by
  unfold M_codesTell_B19 at H
  refine jEv.blk [(.iload_n 2, 1, []), (.aload_n 0, 1, [])] (by decide +kernel) (pc' := 21) (ls' := [(2, Int.ofNat o0), (0, v1), (0, v2), (3, 0)]) (st' := [(2, Int.ofNat o0), (0, v2)]) rfl ?_
  refine jEv.gfR (o' := (o0 + 31)) (show jfI 292 21 (.getfield 105) 3 [12, 39, 5, 0, 7075] = true by decide +kernel) (isX12_L ho0) (by decide) (isX12_r39 ho0) ?_
  refine jEv.blk [(.iconst 2, 1, []), (.iload_n 1, 1, []), (.iadd, 1, [])] (by decide +kernel) (pc' := 27) (ls' := [(2, Int.ofNat o0), (0, v1), (0, v2), (3, 0)]) (st' := [(0, (wr (2 + v1))), (2, Int.ofNat (o0 + 31)), (0, v2)]) rfl ?_
  refine jEv.ald (Or.inl ⟨rfl, rfl, rfl⟩) (show jfI 292 27 (.iaload) 1 [] = true by decide +kernel) (isX12_a39 ho0) H (fun c2 H => ?_)
  refine jEv.ic_ge (t := 142) (show jfI 292 28 (.if_icmp .ge 114) 3 [] = true by decide +kernel) rfl H (fun c3 H => ?_) (fun c3 H => ?_)
  · refine jEv.blk [(.aload_n 0, 1, [])] (by decide +kernel) (pc' := 32) (ls' := [(2, Int.ofNat o0), (0, v1), (0, v2), (3, 0)]) (st' := [(2, Int.ofNat o0)]) rfl ?_
    refine jEv.gfR (o' := (o0 + 32)) (show jfI 292 32 (.getfield 108) 3 [12, 40, 5, 0, 7076] = true by decide +kernel) (isX12_L ho0) (by decide) (isX12_r40 ho0) ?_
    refine jEv.blk [(.sipush 1600, 3, []), (.iload_n 2, 1, []), (.iadd, 1, [])] (by decide +kernel) (pc' := 40) (ls' := [(2, Int.ofNat o0), (0, v1), (0, v2), (3, 0)]) (st' := [(0, (wr (1600 + v2))), (2, Int.ofNat (o0 + 32))]) rfl ?_
    refine jEv.ald (Or.inl ⟨rfl, rfl, rfl⟩) (show jfI 292 40 (.iaload) 1 [] = true by decide +kernel) (isX12_a40 ho0) H (fun c4 H => ?_)
    refine jEv.blk [(.istore_n 3, 1, []), (.iload_n 3, 1, []), (.sipush 1000, 3, [])] (by decide +kernel) (pc' := 46) (ls' := [(2, Int.ofNat o0), (0, v1), (0, v2), (0, (h (o0 + 32) ((wr (1600 + v2)) : Int).toNat))]) (st' := [(0, 1000), (0, (h (o0 + 32) ((wr (1600 + v2)) : Int).toNat))]) rfl ?_
    refine jEv.ic_lt (t := 62) (show jfI 292 46 (.if_icmp .lt 16) 3 [] = true by decide +kernel) rfl H (fun c5 H => ?_) (fun c5 H => ?_)
    · refine jEv.blk [(.iload_n 3, 1, []), (.bipush 40, 2, [])] (by decide +kernel) (pc' := 65) (ls' := [(2, Int.ofNat o0), (0, v1), (0, v2), (0, (h (o0 + 32) ((wr (1600 + v2)) : Int).toNat))]) (st' := [(0, 40), (0, (h (o0 + 32) ((wr (1600 + v2)) : Int).toNat))]) rfl ?_
      refine jEv.ic_lt (t := 84) (show jfI 292 65 (.if_icmp .lt 19) 3 [] = true by decide +kernel) rfl H (fun c6 H => ?_) (fun c6 H => ?_)
      · refine jEv.blk [(.iload_n 3, 1, []), (.bipush 13, 2, [])] (by decide +kernel) (pc' := 87) (ls' := [(2, Int.ofNat o0), (0, v1), (0, v2), (0, (h (o0 + 32) ((wr (1600 + v2)) : Int).toNat))]) (st' := [(0, 13), (0, (h (o0 + 32) ((wr (1600 + v2)) : Int).toNat))]) rfl ?_
        refine jEv.ic_ne (t := 98) (show jfI 292 87 (.if_icmp .ne 11) 3 [] = true by decide +kernel) rfl H (fun c7 H => ?_) (fun c7 H => ?_)
        · refine jEv.blk [(.aload_n 0, 1, []), (.lconst 1, 1, [])] (by decide +kernel) (pc' := 92) (ls' := [(2, Int.ofNat o0), (0, v1), (0, v2), (0, (h (o0 + 32) ((wr (1600 + v2)) : Int).toNat))]) (st' := [(1, 1), (2, Int.ofNat o0)]) rfl ?_
          refine jbind H (fun b8 Hb8 H => ?_)
          refine jEv.calV (st' := []) (show jfI 292 92 (.invokevirtual 369) 3 [1, 293, 1, 10018] = true by decide +kernel) rfl (Or.inl rfl) rfl (Nat.le_of_ble_eq_true rfl) (by decide +kernel) (by decide) (isX12_L ho0) ((t_M_qPuts (T := T) (xs := xs) ho0 Hb8).mono (jKle 1 hd)) rfl ?_
          refine jEv.goto (t := 136) (show jfI 292 95 (.goto 41) 3 [] = true by decide +kernel) rfl ?_
          refine jEv.blk [(.iinc 2 1, 3, [])] (by decide +kernel) (pc' := 139) (ls' := [(2, Int.ofNat o0), (0, v1), (0, (wr (v2 + 1))), (0, (h (o0 + 32) ((wr (1600 + v2)) : Int).toNat))]) (st' := []) rfl ?_
          refine jEv.goto (t := 19) (show jfI 292 139 (.goto (-120)) 3 [] = true by decide +kernel) rfl ?_
          exact jEv.weak (a := [(2, Int.ofNat o0), (0, v1), (0, (wr (v2 + 1))), (3, 0)]) (jles.c1 (jles.c1 (jles.c1 (jles.c0 jles.nl)))) ((by cases H; exact HY))
        · refine jEv.blk [(.iload_n 3, 1, []), (.bipush 12, 2, [])] (by decide +kernel) (pc' := 101) (ls' := [(2, Int.ofNat o0), (0, v1), (0, v2), (0, (h (o0 + 32) ((wr (1600 + v2)) : Int).toNat))]) (st' := [(0, 12), (0, (h (o0 + 32) ((wr (1600 + v2)) : Int).toNat))]) rfl ?_
          refine jEv.ic_ne (t := 131) (show jfI 292 101 (.if_icmp .ne 30) 3 [] = true by decide +kernel) rfl H (fun c9 H => ?_) (fun c9 H => ?_)
          · refine jEv.blk [(.aload_n 0, 1, [])] (by decide +kernel) (pc' := 105) (ls' := [(2, Int.ofNat o0), (0, v1), (0, v2), (0, (h (o0 + 32) ((wr (1600 + v2)) : Int).toNat))]) (st' := [(2, Int.ofNat o0)]) rfl ?_
            refine jEv.gfR (o' := (o0 + 67)) (show jfI 292 105 (.getfield 222) 3 [12, 104, 5, 0, 7140] = true by decide +kernel) (isX12_L ho0) (by decide) (isX12_r104 ho0) ?_
            refine jEv.blk [(.aload_n 0, 1, [])] (by decide +kernel) (pc' := 109) (ls' := [(2, Int.ofNat o0), (0, v1), (0, v2), (0, (h (o0 + 32) ((wr (1600 + v2)) : Int).toNat))]) (st' := [(2, Int.ofNat o0), (2, Int.ofNat (o0 + 67))]) rfl ?_
            refine jEv.gfI (show jfI 292 109 (.getfield 366) 3 [12, 105, 0, 0, 7141] = true by decide +kernel) (isX12_L ho0) (by decide) ?_
            refine jEv.blk [(.iconst 1, 1, []), (.isub, 1, []), (.lconst 1, 1, []), (.aload_n 0, 1, [])] (by decide +kernel) (pc' := 116) (ls' := [(2, Int.ofNat o0), (0, v1), (0, v2), (0, (h (o0 + 32) ((wr (1600 + v2)) : Int).toNat))]) (st' := [(2, Int.ofNat o0), (1, 1), (0, (wr ((h o0 105) - 1))), (2, Int.ofNat (o0 + 67))]) rfl ?_
            refine jEv.gfR (o' := (o0 + 67)) (show jfI 292 116 (.getfield 222) 3 [12, 104, 5, 0, 7140] = true by decide +kernel) (isX12_L ho0) (by decide) (isX12_r104 ho0) ?_
            refine jEv.blk [(.aload_n 0, 1, [])] (by decide +kernel) (pc' := 120) (ls' := [(2, Int.ofNat o0), (0, v1), (0, v2), (0, (h (o0 + 32) ((wr (1600 + v2)) : Int).toNat))]) (st' := [(2, Int.ofNat o0), (2, Int.ofNat (o0 + 67)), (1, 1), (0, (wr ((h o0 105) - 1))), (2, Int.ofNat (o0 + 67))]) rfl ?_
            refine jEv.gfI (show jfI 292 120 (.getfield 366) 3 [12, 105, 0, 0, 7141] = true by decide +kernel) (isX12_L ho0) (by decide) ?_
            refine jEv.blk [(.iconst 1, 1, []), (.isub, 1, [])] (by decide +kernel) (pc' := 125) (ls' := [(2, Int.ofNat o0), (0, v1), (0, v2), (0, (h (o0 + 32) ((wr (1600 + v2)) : Int).toNat))]) (st' := [(0, (wr ((h o0 105) - 1))), (2, Int.ofNat (o0 + 67)), (1, 1), (0, (wr ((h o0 105) - 1))), (2, Int.ofNat (o0 + 67))]) rfl ?_
            refine jEv.ald (Or.inr (Or.inl ⟨rfl, rfl, rfl⟩)) (show jfI 292 125 (.laload) 1 [] = true by decide +kernel) (isX12_a104 ho0) H (fun c10 H => ?_)
            refine jEv.blk [(.lsub, 1, [])] (by decide +kernel) (pc' := 127) (ls' := [(2, Int.ofNat o0), (0, v1), (0, v2), (0, (h (o0 + 32) ((wr (1600 + v2)) : Int).toNat))]) (st' := [(1, (wl (1 - (h (o0 + 67) ((wr ((h o0 105) - 1)) : Int).toNat)))), (0, (wr ((h o0 105) - 1))), (2, Int.ofNat (o0 + 67))]) rfl ?_
            refine jEv.ast (Or.inr (Or.inl ⟨rfl, rfl, rfl⟩)) (show jfI 292 127 (.lastore) 1 [] = true by decide +kernel) (isX12_a104 ho0) rfl H (fun c11 H => ?_)
            refine jEv.goto (t := 136) (show jfI 292 128 (.goto 8) 3 [] = true by decide +kernel) rfl ?_
            refine jEv.blk [(.iinc 2 1, 3, [])] (by decide +kernel) (pc' := 139) (ls' := [(2, Int.ofNat o0), (0, v1), (0, (wr (v2 + 1))), (0, (h (o0 + 32) ((wr (1600 + v2)) : Int).toNat))]) (st' := []) rfl ?_
            refine jEv.goto (t := 19) (show jfI 292 139 (.goto (-120)) 3 [] = true by decide +kernel) rfl ?_
            exact jEv.weak (a := [(2, Int.ofNat o0), (0, v1), (0, (wr (v2 + 1))), (3, 0)]) (jles.c1 (jles.c1 (jles.c1 (jles.c0 jles.nl)))) ((by cases H; exact HY))
          · refine jEv.blk [(.aload_n 0, 1, []), (.iload_n 3, 1, [])] (by decide +kernel) (pc' := 133) (ls' := [(2, Int.ofNat o0), (0, v1), (0, v2), (0, (h (o0 + 32) ((wr (1600 + v2)) : Int).toNat))]) (st' := [(0, (h (o0 + 32) ((wr (1600 + v2)) : Int).toNat)), (2, Int.ofNat o0)]) rfl ?_
            refine jbind H (fun b12 Hb12 H => ?_)
            refine jEv.calV (st' := []) (show jfI 292 133 (.invokevirtual 377) 3 [1, 295, 1, 10026] = true by decide +kernel) rfl (Or.inl rfl) rfl (Nat.le_of_ble_eq_true rfl) (by decide +kernel) (by decide) (isX12_L ho0) ((t_M_qJoins (T := T) (xs := xs) ho0 Hb12).mono (jKle 2 hd)) rfl ?_
            refine jEv.blk [(.iinc 2 1, 3, [])] (by decide +kernel) (pc' := 139) (ls' := [(2, Int.ofNat o0), (0, v1), (0, (wr (v2 + 1))), (0, (h (o0 + 32) ((wr (1600 + v2)) : Int).toNat))]) (st' := []) rfl ?_
            refine jEv.goto (t := 19) (show jfI 292 139 (.goto (-120)) 3 [] = true by decide +kernel) rfl ?_
            exact jEv.weak (a := [(2, Int.ofNat o0), (0, v1), (0, (wr (v2 + 1))), (3, 0)]) (jles.c1 (jles.c1 (jles.c1 (jles.c0 jles.nl)))) ((by cases H; exact HY))
      · refine jEv.blk [(.aload_n 0, 1, []), (.aload_n 0, 1, []), (.iload_n 3, 1, []), (.bipush 40, 2, []), (.isub, 1, []), (.iconst 0, 1, [])] (by decide +kernel) (pc' := 75) (ls' := [(2, Int.ofNat o0), (0, v1), (0, v2), (0, (h (o0 + 32) ((wr (1600 + v2)) : Int).toNat))]) (st' := [(0, 0), (0, (wr ((h (o0 + 32) ((wr (1600 + v2)) : Int).toNat) - 40))), (2, Int.ofNat o0), (2, Int.ofNat o0)]) rfl ?_
        refine jbind H (fun b13 Hb13 H => ?_)
        refine jEv.calV (st' := [(1, b13.1), (2, Int.ofNat o0)]) (show jfI 292 75 (.invokevirtual 373) 3 [1, 294, 2, 10022] = true by decide +kernel) rfl (Or.inl rfl) rfl (Nat.le_of_ble_eq_true rfl) (by decide +kernel) (by decide) (isX12_L ho0) ((t_M_qPartOf (T := T) (xs := xs) ho0 Hb13).mono (jKle 6 hd)) rfl ?_
        refine jbind H (fun b14 Hb14 H => ?_)
        refine jEv.calV (st' := []) (show jfI 292 78 (.invokevirtual 369) 3 [1, 293, 1, 10018] = true by decide +kernel) rfl (Or.inl rfl) rfl (Nat.le_of_ble_eq_true rfl) (by decide +kernel) (by decide) (isX12_L ho0) ((t_M_qPuts (T := T) (xs := xs) ho0 Hb14).mono (jKle 1 hd)) rfl ?_
        refine jEv.goto (t := 136) (show jfI 292 81 (.goto 55) 3 [] = true by decide +kernel) rfl ?_
        refine jEv.blk [(.iinc 2 1, 3, [])] (by decide +kernel) (pc' := 139) (ls' := [(2, Int.ofNat o0), (0, v1), (0, (wr (v2 + 1))), (0, (h (o0 + 32) ((wr (1600 + v2)) : Int).toNat))]) (st' := []) rfl ?_
        refine jEv.goto (t := 19) (show jfI 292 139 (.goto (-120)) 3 [] = true by decide +kernel) rfl ?_
        exact jEv.weak (a := [(2, Int.ofNat o0), (0, v1), (0, (wr (v2 + 1))), (3, 0)]) (jles.c1 (jles.c1 (jles.c1 (jles.c0 jles.nl)))) ((by cases H; exact HY))
    · refine jEv.blk [(.aload_n 0, 1, []), (.iload_n 3, 1, []), (.sipush 1000, 3, []), (.isub, 1, []), (.i2l, 1, [])] (by decide +kernel) (pc' := 56) (ls' := [(2, Int.ofNat o0), (0, v1), (0, v2), (0, (h (o0 + 32) ((wr (1600 + v2)) : Int).toNat))]) (st' := [(1, (wr ((h (o0 + 32) ((wr (1600 + v2)) : Int).toNat) - 1000))), (2, Int.ofNat o0)]) rfl ?_
      refine jbind H (fun b15 Hb15 H => ?_)
      refine jEv.calV (st' := []) (show jfI 292 56 (.invokevirtual 369) 3 [1, 293, 1, 10018] = true by decide +kernel) rfl (Or.inl rfl) rfl (Nat.le_of_ble_eq_true rfl) (by decide +kernel) (by decide) (isX12_L ho0) ((t_M_qPuts (T := T) (xs := xs) ho0 Hb15).mono (jKle 1 hd)) rfl ?_
      refine jEv.goto (t := 136) (show jfI 292 59 (.goto 77) 3 [] = true by decide +kernel) rfl ?_
      refine jEv.blk [(.iinc 2 1, 3, [])] (by decide +kernel) (pc' := 139) (ls' := [(2, Int.ofNat o0), (0, v1), (0, (wr (v2 + 1))), (0, (h (o0 + 32) ((wr (1600 + v2)) : Int).toNat))]) (st' := []) rfl ?_
      refine jEv.goto (t := 19) (show jfI 292 139 (.goto (-120)) 3 [] = true by decide +kernel) rfl ?_
      exact jEv.weak (a := [(2, Int.ofNat o0), (0, v1), (0, (wr (v2 + 1))), (3, 0)]) (jles.c1 (jles.c1 (jles.c1 (jles.c0 jles.nl)))) ((by cases H; exact HY))
  · refine jmapr H HY (fun out H (HY : ykJ T y out) => ?_)
    refine jEv.blk [(.aload_n 0, 1, [])] (by decide +kernel) (pc' := 143) (ls' := [(2, Int.ofNat o0), (0, v1), (0, v2), (3, 0)]) (st' := [(2, Int.ofNat o0)]) rfl ?_
    refine jEv.gfR (o' := (o0 + 67)) (show jfI 292 143 (.getfield 222) 3 [12, 104, 5, 0, 7140] = true by decide +kernel) (isX12_L ho0) (by decide) (isX12_r104 ho0) ?_
    refine jEv.blk [(.iconst 0, 1, [])] (by decide +kernel) (pc' := 147) (ls' := [(2, Int.ofNat o0), (0, v1), (0, v2), (3, 0)]) (st' := [(0, 0), (2, Int.ofNat (o0 + 67))]) rfl ?_
    refine jEv.ald (Or.inr (Or.inl ⟨rfl, rfl, rfl⟩)) (show jfI 292 147 (.laload) 1 [] = true by decide +kernel) (isX12_a104 ho0) H (fun c16 H => ?_)
    exact jEv.retJ (show jfI 292 148 (.lreturn) 1 [] = true by decide +kernel) (by decide +kernel) (by cases H; exact HY)
theorem t_M_codesTell_L19 {T : jT} {xs : List Int} {d : Nat} {y : jV × jS} (hd : 6 ≤ d) {h : jH}  {o0 : Nat} {v1 : Int} {v2 : Int} {out : (Int × jH)} (ho0 : isX12 T o0) (H : M_codesTell_L19 h o0 v1 v2 = some out) (HY : ykJ T y out) : jEv xs d (292, 19, [(2, Int.ofNat o0), (0, v1), (0, v2), (3, 0)], []) (T, h) y :=
  jloop_sound (G := fun s : (Int × jH) => jEv xs d (292, 19, [(2, Int.ofNat o0), (0, v1), (0, s.1), (3, 0)], []) (T, s.2) y) (K := yk_M_codesTell_L19 T xs d y o0 v1) (fun s out H HY => t_M_codesTell_B19 hd ho0 H HY) (fun s' hg => hg) (s := (v2, h)) H HY
set_option maxRecDepth 20000 in
noncomputable def M_codesTell  (h : jH) (o0 : Nat) (v1 : Int) : Option (Int × jH) := (if (0 : Int) ≤ (wr (2 + v1)) ∧ ((wr (2 + v1)) : Int).toNat < 4 then M_codesTell_L19 (jup (jup h o0 44 v1) o0 105 0) o0 v1 ((jup (jup h o0 44 v1) o0 105 0) (o0 + 30) ((wr (2 + v1)) : Int).toNat) else none)
set_option maxRecDepth 20000 in
theorem t_M_codesTell {T : jT} {xs : List Int} {h : jH}  {o0 : Nat} {v1 : Int} {out : (Int × jH)} (ho0 : isX12 T o0) (H : M_codesTell h o0 v1 = some out) : jEm xs 7 292 [(2, Int.ofNat o0), (0, v1)] (T, h) ((1, out.1), (T, out.2)) := by
  have hd : 6 ≤ 6 := Nat.le_refl _
  obtain ⟨y, ey⟩ : ∃ y : jV × jS, y = ((1, out.1), (T, out.2)) := ⟨_, rfl⟩
  rw [← ey]
  have HY : ykJ T y out := ey
  refine jEm.ent (n := 4) (by decide +kernel) (Nat.le_of_ble_eq_true rfl) ?_
  show jEv xs 6 (292, 0, [(2, Int.ofNat o0), (0, v1), (3, 0), (3, 0)], []) (T, h) y
  unfold M_codesTell at H
  refine jEv.blk [(.aload_n 0, 1, []), (.iload_n 1, 1, [])] (by decide +kernel) (pc' := 2) (ls' := [(2, Int.ofNat o0), (0, v1), (3, 0), (3, 0)]) (st' := [(0, v1), (2, Int.ofNat o0)]) rfl ?_
  refine jEv.pfI (show jfI 292 2 (.putfield 279) 3 [12, 44, 0, 0, 7080] = true by decide +kernel) (isX12_L ho0) (by decide) ?_
  refine jEv.blk [(.aload_n 0, 1, []), (.iconst 0, 1, [])] (by decide +kernel) (pc' := 7) (ls' := [(2, Int.ofNat o0), (0, v1), (3, 0), (3, 0)]) (st' := [(0, 0), (2, Int.ofNat o0)]) rfl ?_
  refine jEv.pfI (show jfI 292 7 (.putfield 366) 3 [12, 105, 0, 0, 7141] = true by decide +kernel) (isX12_L ho0) (by decide) ?_
  refine jEv.blk [(.aload_n 0, 1, [])] (by decide +kernel) (pc' := 11) (ls' := [(2, Int.ofNat o0), (0, v1), (3, 0), (3, 0)]) (st' := [(2, Int.ofNat o0)]) rfl ?_
  refine jEv.gfR (o' := (o0 + 30)) (show jfI 292 11 (.getfield 102) 3 [12, 38, 5, 0, 7074] = true by decide +kernel) (isX12_L ho0) (by decide) (isX12_r38 ho0) ?_
  refine jEv.blk [(.iconst 2, 1, []), (.iload_n 1, 1, []), (.iadd, 1, [])] (by decide +kernel) (pc' := 17) (ls' := [(2, Int.ofNat o0), (0, v1), (3, 0), (3, 0)]) (st' := [(0, (wr (2 + v1))), (2, Int.ofNat (o0 + 30))]) rfl ?_
  refine jEv.ald (Or.inl ⟨rfl, rfl, rfl⟩) (show jfI 292 17 (.iaload) 1 [] = true by decide +kernel) (isX12_a38 ho0) H (fun c1 H => ?_)
  refine jEv.blk [(.istore_n 2, 1, [])] (by decide +kernel) (pc' := 19) (ls' := [(2, Int.ofNat o0), (0, v1), (0, ((jup (jup h o0 44 v1) o0 105 0) (o0 + 30) ((wr (2 + v1)) : Int).toNat)), (3, 0)]) (st' := []) rfl ?_
  exact t_M_codesTell_L19 (T := T) (xs := xs) (y := y) hd ho0 H HY
set_option maxRecDepth 20000 in
noncomputable def M_doesClose_p76  (h : jH)  : Option (Int × jH) := some (1, h)
set_option maxRecDepth 20000 in
theorem t_M_doesClose_p76 {T : jT} {xs : List Int} {d : Nat} {y : jV × jS} (hd : 7 ≤ d) {h : jH}   {out : (Int × jH)}  (H : M_doesClose_p76 h = some out) (HY : ykI T y out) : jEv xs d (288, 76, [(3, 0)], []) (T, h) y := by
  unfold M_doesClose_p76 at H
  refine jEv.blk [(.iconst 1, 1, [])] (by decide +kernel) (pc' := 77) (ls' := [(3, 0)]) (st' := [(0, 1)]) rfl ?_
  refine jEv.goto (t := 81) (show jfI 288 77 (.goto 4) 3 [] = true by decide +kernel) rfl ?_
  exact jEv.retZ (show jfI 288 81 (.ireturn) 1 [] = true by decide +kernel) (by decide +kernel) (by decide) (by cases H; exact HY)
set_option maxRecDepth 20000 in
noncomputable def M_doesClose  (h : jH) (o0 : Nat) : Option (Int × jH) := (if (0 : Int) ≤ 11 ∧ (11 : Int).toNat < 2365 then Option.bind (M_asksOf h o0 (h (o0 + 33) (11 : Int).toNat)) (fun b2 => Option.bind (M_isCoded b2 o0 0) (fun b3 => (if b3 = 0 then (if (0 : Int) ≤ 11 ∧ (11 : Int).toNat < 2365 then (if 3 < (b2 (o0 + 33) (11 : Int).toNat) then M_doesClose_p76 b2 else (if (0 : Int) ≤ 0 ∧ (0 : Int).toNat < 2365 then (if (0 : Int) ≤ 1 ∧ (1 : Int).toNat < 2365 then (if (0 : Int) ≤ 11 ∧ (11 : Int).toNat < 2365 then Option.bind (M_recordOf b2 o0 (wr ((b2 (o0 + 33) (1 : Int).toNat) - (b2 (o0 + 33) (11 : Int).toNat))) 3) (fun b10 => (if 4 < (wr ((b2 (o0 + 33) (0 : Int).toNat) - b10)) then M_doesClose_p76 b2 else some (0, b2))) else none) else none) else none)) else none) else Option.bind (M_codesTell b2 o0 0) (fun b12 => (if (jcmp b12.1 1) = 0 then some (1, b12.2) else some (0, b12.2)))))) else none)
set_option maxRecDepth 20000 in
theorem t_M_doesClose {T : jT} {xs : List Int} {h : jH}  {o0 : Nat} {out : (Int × jH)} (ho0 : isX12 T o0) (H : M_doesClose h o0 = some out) : jEm xs 8 288 [(2, Int.ofNat o0)] (T, h) ((0, out.1), (T, out.2)) := by
  have hd : 7 ≤ 7 := Nat.le_refl _
  obtain ⟨y, ey⟩ : ∃ y : jV × jS, y = ((0, out.1), (T, out.2)) := ⟨_, rfl⟩
  rw [← ey]
  have HY : ykI T y out := ey
  refine jEm.ent (n := 1) (by decide +kernel) (Nat.le_of_ble_eq_true rfl) ?_
  show jEv xs 7 (288, 0, [(2, Int.ofNat o0)], []) (T, h) y
  unfold M_doesClose at H
  refine jEv.blk [(.aload_n 0, 1, []), (.aload_n 0, 1, [])] (by decide +kernel) (pc' := 2) (ls' := [(2, Int.ofNat o0)]) (st' := [(2, Int.ofNat o0), (2, Int.ofNat o0)]) rfl ?_
  refine jEv.gfR (o' := (o0 + 33)) (show jfI 288 2 (.getfield 111) 3 [12, 45, 5, 0, 7081] = true by decide +kernel) (isX12_L ho0) (by decide) (isX12_r45 ho0) ?_
  refine jEv.blk [(.bipush 11, 2, [])] (by decide +kernel) (pc' := 7) (ls' := [(2, Int.ofNat o0)]) (st' := [(0, 11), (2, Int.ofNat (o0 + 33)), (2, Int.ofNat o0)]) rfl ?_
  refine jEv.ald (Or.inl ⟨rfl, rfl, rfl⟩) (show jfI 288 7 (.iaload) 1 [] = true by decide +kernel) (isX12_a45 ho0) H (fun c1 H => ?_)
  refine jbind H (fun b2 Hb2 H => ?_)
  refine jEv.calV (st' := []) (show jfI 288 8 (.invokevirtual 442) 3 [1, 289, 1, 10002] = true by decide +kernel) rfl (Or.inl rfl) rfl (Nat.le_of_ble_eq_true rfl) (by decide +kernel) (by decide) (isX12_L ho0) ((t_M_asksOf (T := T) (xs := xs) ho0 Hb2).mono (jKle 3 hd)) rfl ?_
  refine jEv.blk [(.aload_n 0, 1, []), (.iconst 0, 1, [])] (by decide +kernel) (pc' := 13) (ls' := [(2, Int.ofNat o0)]) (st' := [(0, 0), (2, Int.ofNat o0)]) rfl ?_
  refine jbind H (fun b3 Hb3 H => ?_)
  refine jEv.calV (st' := [(0, b3)]) (show jfI 288 13 (.invokevirtual 445) 3 [1, 291, 1, 10010] = true by decide +kernel) rfl (Or.inl rfl) rfl (Nat.le_of_ble_eq_true rfl) (by decide +kernel) (by decide) (isX12_L ho0) ((t_M_isCoded (T := T) (xs := xs) ho0 Hb3).mono (jKle 1 hd)) rfl ?_
  refine jEv.if_eq (t := 35) (show jfI 288 16 (.ifCond .eq 19) 3 [] = true by decide +kernel) rfl H (fun c4 H => ?_) (fun c4 H => ?_)
  · refine jEv.blk [(.aload_n 0, 1, [])] (by decide +kernel) (pc' := 36) (ls' := [(2, Int.ofNat o0)]) (st' := [(2, Int.ofNat o0)]) rfl ?_
    refine jEv.gfR (o' := (o0 + 33)) (show jfI 288 36 (.getfield 111) 3 [12, 45, 5, 0, 7081] = true by decide +kernel) (isX12_L ho0) (by decide) (isX12_r45 ho0) ?_
    refine jEv.blk [(.bipush 11, 2, [])] (by decide +kernel) (pc' := 41) (ls' := [(2, Int.ofNat o0)]) (st' := [(0, 11), (2, Int.ofNat (o0 + 33))]) rfl ?_
    refine jEv.ald (Or.inl ⟨rfl, rfl, rfl⟩) (show jfI 288 41 (.iaload) 1 [] = true by decide +kernel) (isX12_a45 ho0) H (fun c5 H => ?_)
    refine jEv.blk [(.iconst 3, 1, [])] (by decide +kernel) (pc' := 43) (ls' := [(2, Int.ofNat o0)]) (st' := [(0, 3), (0, (b2 (o0 + 33) (11 : Int).toNat))]) rfl ?_
    refine jEv.ic_gt (t := 76) (show jfI 288 43 (.if_icmp .gt 33) 3 [] = true by decide +kernel) rfl H (fun c6 H => ?_) (fun c6 H => ?_)
    · exact jEv.weak (a := [(3, 0)]) (jles.c0 jles.nl) (t_M_doesClose_p76 (T := T) (xs := xs) (y := y) hd H HY)
    · refine jEv.blk [(.aload_n 0, 1, [])] (by decide +kernel) (pc' := 47) (ls' := [(2, Int.ofNat o0)]) (st' := [(2, Int.ofNat o0)]) rfl ?_
      refine jEv.gfR (o' := (o0 + 33)) (show jfI 288 47 (.getfield 111) 3 [12, 45, 5, 0, 7081] = true by decide +kernel) (isX12_L ho0) (by decide) (isX12_r45 ho0) ?_
      refine jEv.blk [(.iconst 0, 1, [])] (by decide +kernel) (pc' := 51) (ls' := [(2, Int.ofNat o0)]) (st' := [(0, 0), (2, Int.ofNat (o0 + 33))]) rfl ?_
      refine jEv.ald (Or.inl ⟨rfl, rfl, rfl⟩) (show jfI 288 51 (.iaload) 1 [] = true by decide +kernel) (isX12_a45 ho0) H (fun c7 H => ?_)
      refine jEv.blk [(.aload_n 0, 1, []), (.aload_n 0, 1, [])] (by decide +kernel) (pc' := 54) (ls' := [(2, Int.ofNat o0)]) (st' := [(2, Int.ofNat o0), (2, Int.ofNat o0), (0, (b2 (o0 + 33) (0 : Int).toNat))]) rfl ?_
      refine jEv.gfR (o' := (o0 + 33)) (show jfI 288 54 (.getfield 111) 3 [12, 45, 5, 0, 7081] = true by decide +kernel) (isX12_L ho0) (by decide) (isX12_r45 ho0) ?_
      refine jEv.blk [(.iconst 1, 1, [])] (by decide +kernel) (pc' := 58) (ls' := [(2, Int.ofNat o0)]) (st' := [(0, 1), (2, Int.ofNat (o0 + 33)), (2, Int.ofNat o0), (0, (b2 (o0 + 33) (0 : Int).toNat))]) rfl ?_
      refine jEv.ald (Or.inl ⟨rfl, rfl, rfl⟩) (show jfI 288 58 (.iaload) 1 [] = true by decide +kernel) (isX12_a45 ho0) H (fun c8 H => ?_)
      refine jEv.blk [(.aload_n 0, 1, [])] (by decide +kernel) (pc' := 60) (ls' := [(2, Int.ofNat o0)]) (st' := [(2, Int.ofNat o0), (0, (b2 (o0 + 33) (1 : Int).toNat)), (2, Int.ofNat o0), (0, (b2 (o0 + 33) (0 : Int).toNat))]) rfl ?_
      refine jEv.gfR (o' := (o0 + 33)) (show jfI 288 60 (.getfield 111) 3 [12, 45, 5, 0, 7081] = true by decide +kernel) (isX12_L ho0) (by decide) (isX12_r45 ho0) ?_
      refine jEv.blk [(.bipush 11, 2, [])] (by decide +kernel) (pc' := 65) (ls' := [(2, Int.ofNat o0)]) (st' := [(0, 11), (2, Int.ofNat (o0 + 33)), (0, (b2 (o0 + 33) (1 : Int).toNat)), (2, Int.ofNat o0), (0, (b2 (o0 + 33) (0 : Int).toNat))]) rfl ?_
      refine jEv.ald (Or.inl ⟨rfl, rfl, rfl⟩) (show jfI 288 65 (.iaload) 1 [] = true by decide +kernel) (isX12_a45 ho0) H (fun c9 H => ?_)
      refine jEv.blk [(.isub, 1, []), (.iconst 3, 1, [])] (by decide +kernel) (pc' := 68) (ls' := [(2, Int.ofNat o0)]) (st' := [(0, 3), (0, (wr ((b2 (o0 + 33) (1 : Int).toNat) - (b2 (o0 + 33) (11 : Int).toNat)))), (2, Int.ofNat o0), (0, (b2 (o0 + 33) (0 : Int).toNat))]) rfl ?_
      refine jbind H (fun b10 Hb10 H => ?_)
      refine jEv.calV (st' := [(0, b10), (0, (b2 (o0 + 33) (0 : Int).toNat))]) (show jfI 288 68 (.invokevirtual 363) 3 [1, 275, 2, 9184] = true by decide +kernel) rfl (Or.inl rfl) rfl (Nat.le_of_ble_eq_true rfl) (by decide +kernel) (by decide) (isX12_L ho0) ((t_M_recordOf (T := T) (xs := xs) ho0 Hb10).mono (jKle 1 hd)) rfl ?_
      refine jEv.blk [(.isub, 1, []), (.iconst 4, 1, [])] (by decide +kernel) (pc' := 73) (ls' := [(2, Int.ofNat o0)]) (st' := [(0, 4), (0, (wr ((b2 (o0 + 33) (0 : Int).toNat) - b10)))]) rfl ?_
      refine jEv.ic_le (t := 80) (show jfI 288 73 (.if_icmp .le 7) 3 [] = true by decide +kernel) rfl H (fun c11 H => ?_) (fun c11 H => ?_)
      · exact jEv.weak (a := [(3, 0)]) (jles.c0 jles.nl) (t_M_doesClose_p76 (T := T) (xs := xs) (y := y) hd H HY)
      · refine jEv.blk [(.iconst 0, 1, [])] (by decide +kernel) (pc' := 81) (ls' := [(2, Int.ofNat o0)]) (st' := [(0, 0)]) rfl ?_
        exact jEv.retZ (show jfI 288 81 (.ireturn) 1 [] = true by decide +kernel) (by decide +kernel) (by decide) (by cases H; exact HY)
  · refine jEv.blk [(.aload_n 0, 1, []), (.iconst 0, 1, [])] (by decide +kernel) (pc' := 21) (ls' := [(2, Int.ofNat o0)]) (st' := [(0, 0), (2, Int.ofNat o0)]) rfl ?_
    refine jbind H (fun b12 Hb12 H => ?_)
    refine jEv.calV (st' := [(1, b12.1)]) (show jfI 288 21 (.invokevirtual 448) 3 [1, 292, 1, 10014] = true by decide +kernel) rfl (Or.inl rfl) rfl (Nat.le_of_ble_eq_true rfl) (by decide +kernel) (by decide) (isX12_L ho0) ((t_M_codesTell (T := T) (xs := xs) ho0 Hb12).mono (jKle 7 hd)) rfl ?_
    refine jEv.blk [(.lconst 1, 1, []), (.lcmp, 1, [])] (by decide +kernel) (pc' := 26) (ls' := [(2, Int.ofNat o0)]) (st' := [(0, (jcmp b12.1 1))]) rfl ?_
    refine jEv.if_ne (t := 33) (show jfI 288 26 (.ifCond .ne 7) 3 [] = true by decide +kernel) rfl H (fun c13 H => ?_) (fun c13 H => ?_)
    · refine jEv.blk [(.iconst 1, 1, [])] (by decide +kernel) (pc' := 30) (ls' := [(2, Int.ofNat o0)]) (st' := [(0, 1)]) rfl ?_
      refine jEv.goto (t := 34) (show jfI 288 30 (.goto 4) 3 [] = true by decide +kernel) rfl ?_
      exact jEv.retZ (show jfI 288 34 (.ireturn) 1 [] = true by decide +kernel) (by decide +kernel) (by decide) (by cases H; exact HY)
    · refine jEv.blk [(.iconst 0, 1, [])] (by decide +kernel) (pc' := 34) (ls' := [(2, Int.ofNat o0)]) (st' := [(0, 0)]) rfl ?_
      exact jEv.retZ (show jfI 288 34 (.ireturn) 1 [] = true by decide +kernel) (by decide +kernel) (by decide) (by cases H; exact HY)
def yk_M_freeOne_L2 (T : jT) (xs : List Int) (d : Nat) (y : jV × jS) (h : jH)  (o0 : Nat) : (Int ⊕ Int) → Prop
  | .inl v1 => jEv xs d (300, 2, [(2, Int.ofNat o0), (0, v1)], []) (T, h) y
  | .inr o => ykIp T h y o
set_option maxRecDepth 20000 in
noncomputable def M_freeOne_B2  (h : jH) (o0 : Nat) (v1 : Int) : Option (Int ⊕ Int) := Option.bind (M_segmentMany h o0) (fun b1 => (if v1 < b1 then Option.bind (M_isFree h o0 v1) (fun b3 => (if b3 = 0 then some (.inl ((wr (v1 + 1)))) else Option.map Sum.inr (some v1))) else Option.map Sum.inr (some (-1))))
noncomputable def M_freeOne_L2  (h : jH) (o0 : Nat) (v1 : Int) : Option Int := jloop (fun s : Int => M_freeOne_B2 h o0 s) (v1)
set_option maxRecDepth 20000 in
theorem t_M_freeOne_B2 {T : jT} {xs : List Int} {d : Nat} {y : jV × jS} (hd : 2 ≤ d) {h : jH}  {o0 : Nat} {v1 : Int} {out : (Int ⊕ Int)} (ho0 : isX12 T o0) (H : M_freeOne_B2 h o0 v1 = some out) (HY : yk_M_freeOne_L2 T xs d y h o0 out) : jEv xs d (300, 2, [(2, Int.ofNat o0), (0, v1)], []) (T, h) y := by
  unfold M_freeOne_B2 at H
  refine jEv.blk [(.iload_n 1, 1, []), (.aload_n 0, 1, [])] (by decide +kernel) (pc' := 4) (ls' := [(2, Int.ofNat o0), (0, v1)]) (st' := [(2, Int.ofNat o0), (0, v1)]) rfl ?_
  refine jbind H (fun b1 Hb1 H => ?_)
  refine jEv.calV (st' := [(0, b1), (0, v1)]) (show jfI 300 4 (.invokevirtual 360) 3 [1, 254, 0, 9096] = true by decide +kernel) rfl (Or.inl rfl) rfl (Nat.le_of_ble_eq_true rfl) (by decide +kernel) (by decide) (isX12_L ho0) ((t_M_segmentMany (T := T) (xs := xs) ho0 Hb1).mono (jKle 1 hd)) rfl ?_
  refine jEv.ic_ge (t := 26) (show jfI 300 7 (.if_icmp .ge 19) 3 [] = true by decide +kernel) rfl H (fun c2 H => ?_) (fun c2 H => ?_)
  · refine jEv.blk [(.aload_n 0, 1, []), (.iload_n 1, 1, [])] (by decide +kernel) (pc' := 12) (ls' := [(2, Int.ofNat o0), (0, v1)]) (st' := [(0, v1), (2, Int.ofNat o0)]) rfl ?_
    refine jbind H (fun b3 Hb3 H => ?_)
    refine jEv.calV (st' := [(0, b3)]) (show jfI 300 12 (.invokevirtual 399) 3 [1, 262, 1, 9128] = true by decide +kernel) rfl (Or.inl rfl) rfl (Nat.le_of_ble_eq_true rfl) (by decide +kernel) (by decide) (isX12_L ho0) ((t_M_isFree (T := T) (xs := xs) ho0 Hb3).mono (jKle 2 hd)) rfl ?_
    refine jEv.if_eq (t := 20) (show jfI 300 15 (.ifCond .eq 5) 3 [] = true by decide +kernel) rfl H (fun c4 H => ?_) (fun c4 H => ?_)
    · refine jEv.blk [(.iinc 1 1, 3, [])] (by decide +kernel) (pc' := 23) (ls' := [(2, Int.ofNat o0), (0, (wr (v1 + 1)))]) (st' := []) rfl ?_
      refine jEv.goto (t := 2) (show jfI 300 23 (.goto (-21)) 3 [] = true by decide +kernel) rfl ?_
      exact (by cases H; exact HY)
    · refine jmapr H HY (fun out H (HY : ykIp T h y out) => ?_)
      refine jEv.blk [(.iload_n 1, 1, [])] (by decide +kernel) (pc' := 19) (ls' := [(2, Int.ofNat o0), (0, v1)]) (st' := [(0, v1)]) rfl ?_
      exact jEv.retI (show jfI 300 19 (.ireturn) 1 [] = true by decide +kernel) (by decide +kernel) (by cases H; exact HY)
  · refine jmapr H HY (fun out H (HY : ykIp T h y out) => ?_)
    refine jEv.blk [(.iconst (-1), 1, [])] (by decide +kernel) (pc' := 27) (ls' := [(2, Int.ofNat o0), (0, v1)]) (st' := [(0, (-1))]) rfl ?_
    exact jEv.retI (show jfI 300 27 (.ireturn) 1 [] = true by decide +kernel) (by decide +kernel) (by cases H; exact HY)
theorem t_M_freeOne_L2 {T : jT} {xs : List Int} {d : Nat} {y : jV × jS} (hd : 2 ≤ d) {h : jH}  {o0 : Nat} {v1 : Int} {out : Int} (ho0 : isX12 T o0) (H : M_freeOne_L2 h o0 v1 = some out) (HY : ykIp T h y out) : jEv xs d (300, 2, [(2, Int.ofNat o0), (0, v1)], []) (T, h) y :=
  jloop_sound (G := fun s : Int => jEv xs d (300, 2, [(2, Int.ofNat o0), (0, s)], []) (T, h) y) (K := yk_M_freeOne_L2 T xs d y h o0) (fun s out H HY => t_M_freeOne_B2 hd ho0 H HY) (fun s' hg => hg) (s := (v1)) H HY
set_option maxRecDepth 20000 in
noncomputable def M_freeOne  (h : jH) (o0 : Nat) : Option Int := M_freeOne_L2 h o0 0
set_option maxRecDepth 20000 in
theorem t_M_freeOne {T : jT} {xs : List Int} {h : jH}  {o0 : Nat} {out : Int} (ho0 : isX12 T o0) (H : M_freeOne h o0 = some out) : jEm xs 3 300 [(2, Int.ofNat o0)] (T, h) ((0, out), (T, h)) := by
  have hd : 2 ≤ 2 := Nat.le_refl _
  obtain ⟨y, ey⟩ : ∃ y : jV × jS, y = ((0, out), (T, h)) := ⟨_, rfl⟩
  rw [← ey]
  have HY : ykIp T h y out := ey
  refine jEm.ent (n := 2) (by decide +kernel) (Nat.le_of_ble_eq_true rfl) ?_
  show jEv xs 2 (300, 0, [(2, Int.ofNat o0), (3, 0)], []) (T, h) y
  unfold M_freeOne at H
  refine jEv.blk [(.iconst 0, 1, []), (.istore_n 1, 1, [])] (by decide +kernel) (pc' := 2) (ls' := [(2, Int.ofNat o0), (0, 0)]) (st' := []) rfl ?_
  exact t_M_freeOne_L2 (T := T) (xs := xs) (y := y) hd ho0 H HY
set_option maxRecDepth 20000 in
noncomputable def M_goesOut  (h : jH) (o0 : Nat) (v1 : Int) : Option jH := (if (0 : Int) ≤ 4 ∧ (4 : Int).toNat < 2365 then (if (0 : Int) ≤ 5 ∧ (5 : Int).toNat < 2365 then (if (0 : Int) ≤ 6 ∧ (6 : Int).toNat < 2365 then (if (0 : Int) ≤ (wr (1220 + (h (o0 + 33) (4 : Int).toNat))) ∧ ((wr (1220 + (h (o0 + 33) (4 : Int).toNat))) : Int).toNat < 2365 then (if (0 : Int) ≤ 4 ∧ (4 : Int).toNat < 2365 then (if (0 : Int) ≤ (wr (1732 + ((jup h (o0 + 33) ((wr (1220 + (h (o0 + 33) (4 : Int).toNat))) : Int).toNat (wr ((wr (128 * (h (o0 + 33) (5 : Int).toNat))) + (h (o0 + 33) (6 : Int).toNat)))) (o0 + 33) (4 : Int).toNat))) ∧ ((wr (1732 + ((jup h (o0 + 33) ((wr (1220 + (h (o0 + 33) (4 : Int).toNat))) : Int).toNat (wr ((wr (128 * (h (o0 + 33) (5 : Int).toNat))) + (h (o0 + 33) (6 : Int).toNat)))) (o0 + 33) (4 : Int).toNat))) : Int).toNat < 2365 then (if (0 : Int) ≤ 4 ∧ (4 : Int).toNat < 2365 then (if (0 : Int) ≤ 4 ∧ (4 : Int).toNat < 2365 then (if (0 : Int) ≤ 6 ∧ (6 : Int).toNat < 2365 then (if (0 : Int) ≤ 6 ∧ (6 : Int).toNat < 2365 then some (jup (jup (jup (jup h (o0 + 33) ((wr (1220 + (h (o0 + 33) (4 : Int).toNat))) : Int).toNat (wr ((wr (128 * (h (o0 + 33) (5 : Int).toNat))) + (h (o0 + 33) (6 : Int).toNat)))) (o0 + 33) ((wr (1732 + ((jup h (o0 + 33) ((wr (1220 + (h (o0 + 33) (4 : Int).toNat))) : Int).toNat (wr ((wr (128 * (h (o0 + 33) (5 : Int).toNat))) + (h (o0 + 33) (6 : Int).toNat)))) (o0 + 33) (4 : Int).toNat))) : Int).toNat v1) (o0 + 33) (4 : Int).toNat (wr (((jup (jup h (o0 + 33) ((wr (1220 + (h (o0 + 33) (4 : Int).toNat))) : Int).toNat (wr ((wr (128 * (h (o0 + 33) (5 : Int).toNat))) + (h (o0 + 33) (6 : Int).toNat)))) (o0 + 33) ((wr (1732 + ((jup h (o0 + 33) ((wr (1220 + (h (o0 + 33) (4 : Int).toNat))) : Int).toNat (wr ((wr (128 * (h (o0 + 33) (5 : Int).toNat))) + (h (o0 + 33) (6 : Int).toNat)))) (o0 + 33) (4 : Int).toNat))) : Int).toNat v1) (o0 + 33) (4 : Int).toNat) + 1))) (o0 + 33) (6 : Int).toNat (wr (((jup (jup (jup h (o0 + 33) ((wr (1220 + (h (o0 + 33) (4 : Int).toNat))) : Int).toNat (wr ((wr (128 * (h (o0 + 33) (5 : Int).toNat))) + (h (o0 + 33) (6 : Int).toNat)))) (o0 + 33) ((wr (1732 + ((jup h (o0 + 33) ((wr (1220 + (h (o0 + 33) (4 : Int).toNat))) : Int).toNat (wr ((wr (128 * (h (o0 + 33) (5 : Int).toNat))) + (h (o0 + 33) (6 : Int).toNat)))) (o0 + 33) (4 : Int).toNat))) : Int).toNat v1) (o0 + 33) (4 : Int).toNat (wr (((jup (jup h (o0 + 33) ((wr (1220 + (h (o0 + 33) (4 : Int).toNat))) : Int).toNat (wr ((wr (128 * (h (o0 + 33) (5 : Int).toNat))) + (h (o0 + 33) (6 : Int).toNat)))) (o0 + 33) ((wr (1732 + ((jup h (o0 + 33) ((wr (1220 + (h (o0 + 33) (4 : Int).toNat))) : Int).toNat (wr ((wr (128 * (h (o0 + 33) (5 : Int).toNat))) + (h (o0 + 33) (6 : Int).toNat)))) (o0 + 33) (4 : Int).toNat))) : Int).toNat v1) (o0 + 33) (4 : Int).toNat) + 1))) (o0 + 33) (6 : Int).toNat) + 1))) else none) else none) else none) else none) else none) else none) else none) else none) else none) else none)
set_option maxRecDepth 20000 in
theorem t_M_goesOut {T : jT} {xs : List Int} {h : jH}  {o0 : Nat} {v1 : Int} {out : jH} (ho0 : isX12 T o0) (H : M_goesOut h o0 v1 = some out) : jEm xs 1 301 [(2, Int.ofNat o0), (0, v1)] (T, h) ((3, 0), (T, out)) := by
  have hd : 0 ≤ 0 := Nat.le_refl _
  obtain ⟨y, ey⟩ : ∃ y : jV × jS, y = ((3, 0), (T, out)) := ⟨_, rfl⟩
  rw [← ey]
  have HY : ykV T y out := ey
  refine jEm.ent (n := 2) (by decide +kernel) (Nat.le_of_ble_eq_true rfl) ?_
  show jEv xs 0 (301, 0, [(2, Int.ofNat o0), (0, v1)], []) (T, h) y
  unfold M_goesOut at H
  refine jEv.blk [(.aload_n 0, 1, [])] (by decide +kernel) (pc' := 1) (ls' := [(2, Int.ofNat o0), (0, v1)]) (st' := [(2, Int.ofNat o0)]) rfl ?_
  refine jEv.gfR (o' := (o0 + 33)) (show jfI 301 1 (.getfield 111) 3 [12, 45, 5, 0, 7081] = true by decide +kernel) (isX12_L ho0) (by decide) (isX12_r45 ho0) ?_
  refine jEv.blk [(.sipush 1220, 3, []), (.aload_n 0, 1, [])] (by decide +kernel) (pc' := 8) (ls' := [(2, Int.ofNat o0), (0, v1)]) (st' := [(2, Int.ofNat o0), (0, 1220), (2, Int.ofNat (o0 + 33))]) rfl ?_
  refine jEv.gfR (o' := (o0 + 33)) (show jfI 301 8 (.getfield 111) 3 [12, 45, 5, 0, 7081] = true by decide +kernel) (isX12_L ho0) (by decide) (isX12_r45 ho0) ?_
  refine jEv.blk [(.iconst 4, 1, [])] (by decide +kernel) (pc' := 12) (ls' := [(2, Int.ofNat o0), (0, v1)]) (st' := [(0, 4), (2, Int.ofNat (o0 + 33)), (0, 1220), (2, Int.ofNat (o0 + 33))]) rfl ?_
  refine jEv.ald (Or.inl ⟨rfl, rfl, rfl⟩) (show jfI 301 12 (.iaload) 1 [] = true by decide +kernel) (isX12_a45 ho0) H (fun c1 H => ?_)
  refine jEv.blk [(.iadd, 1, []), (.sipush 128, 3, []), (.aload_n 0, 1, [])] (by decide +kernel) (pc' := 18) (ls' := [(2, Int.ofNat o0), (0, v1)]) (st' := [(2, Int.ofNat o0), (0, 128), (0, (wr (1220 + (h (o0 + 33) (4 : Int).toNat)))), (2, Int.ofNat (o0 + 33))]) rfl ?_
  refine jEv.gfR (o' := (o0 + 33)) (show jfI 301 18 (.getfield 111) 3 [12, 45, 5, 0, 7081] = true by decide +kernel) (isX12_L ho0) (by decide) (isX12_r45 ho0) ?_
  refine jEv.blk [(.iconst 5, 1, [])] (by decide +kernel) (pc' := 22) (ls' := [(2, Int.ofNat o0), (0, v1)]) (st' := [(0, 5), (2, Int.ofNat (o0 + 33)), (0, 128), (0, (wr (1220 + (h (o0 + 33) (4 : Int).toNat)))), (2, Int.ofNat (o0 + 33))]) rfl ?_
  refine jEv.ald (Or.inl ⟨rfl, rfl, rfl⟩) (show jfI 301 22 (.iaload) 1 [] = true by decide +kernel) (isX12_a45 ho0) H (fun c2 H => ?_)
  refine jEv.blk [(.imul, 1, []), (.aload_n 0, 1, [])] (by decide +kernel) (pc' := 25) (ls' := [(2, Int.ofNat o0), (0, v1)]) (st' := [(2, Int.ofNat o0), (0, (wr (128 * (h (o0 + 33) (5 : Int).toNat)))), (0, (wr (1220 + (h (o0 + 33) (4 : Int).toNat)))), (2, Int.ofNat (o0 + 33))]) rfl ?_
  refine jEv.gfR (o' := (o0 + 33)) (show jfI 301 25 (.getfield 111) 3 [12, 45, 5, 0, 7081] = true by decide +kernel) (isX12_L ho0) (by decide) (isX12_r45 ho0) ?_
  refine jEv.blk [(.bipush 6, 2, [])] (by decide +kernel) (pc' := 30) (ls' := [(2, Int.ofNat o0), (0, v1)]) (st' := [(0, 6), (2, Int.ofNat (o0 + 33)), (0, (wr (128 * (h (o0 + 33) (5 : Int).toNat)))), (0, (wr (1220 + (h (o0 + 33) (4 : Int).toNat)))), (2, Int.ofNat (o0 + 33))]) rfl ?_
  refine jEv.ald (Or.inl ⟨rfl, rfl, rfl⟩) (show jfI 301 30 (.iaload) 1 [] = true by decide +kernel) (isX12_a45 ho0) H (fun c3 H => ?_)
  refine jEv.blk [(.iadd, 1, [])] (by decide +kernel) (pc' := 32) (ls' := [(2, Int.ofNat o0), (0, v1)]) (st' := [(0, (wr ((wr (128 * (h (o0 + 33) (5 : Int).toNat))) + (h (o0 + 33) (6 : Int).toNat)))), (0, (wr (1220 + (h (o0 + 33) (4 : Int).toNat)))), (2, Int.ofNat (o0 + 33))]) rfl ?_
  refine jEv.ast (Or.inl ⟨rfl, rfl, rfl⟩) (show jfI 301 32 (.iastore) 1 [] = true by decide +kernel) (isX12_a45 ho0) rfl H (fun c4 H => ?_)
  refine jEv.blk [(.aload_n 0, 1, [])] (by decide +kernel) (pc' := 34) (ls' := [(2, Int.ofNat o0), (0, v1)]) (st' := [(2, Int.ofNat o0)]) rfl ?_
  refine jEv.gfR (o' := (o0 + 33)) (show jfI 301 34 (.getfield 111) 3 [12, 45, 5, 0, 7081] = true by decide +kernel) (isX12_L ho0) (by decide) (isX12_r45 ho0) ?_
  refine jEv.blk [(.sipush 1732, 3, []), (.aload_n 0, 1, [])] (by decide +kernel) (pc' := 41) (ls' := [(2, Int.ofNat o0), (0, v1)]) (st' := [(2, Int.ofNat o0), (0, 1732), (2, Int.ofNat (o0 + 33))]) rfl ?_
  refine jEv.gfR (o' := (o0 + 33)) (show jfI 301 41 (.getfield 111) 3 [12, 45, 5, 0, 7081] = true by decide +kernel) (isX12_L ho0) (by decide) (isX12_r45 ho0) ?_
  refine jEv.blk [(.iconst 4, 1, [])] (by decide +kernel) (pc' := 45) (ls' := [(2, Int.ofNat o0), (0, v1)]) (st' := [(0, 4), (2, Int.ofNat (o0 + 33)), (0, 1732), (2, Int.ofNat (o0 + 33))]) rfl ?_
  refine jEv.ald (Or.inl ⟨rfl, rfl, rfl⟩) (show jfI 301 45 (.iaload) 1 [] = true by decide +kernel) (isX12_a45 ho0) H (fun c5 H => ?_)
  refine jEv.blk [(.iadd, 1, []), (.iload_n 1, 1, [])] (by decide +kernel) (pc' := 48) (ls' := [(2, Int.ofNat o0), (0, v1)]) (st' := [(0, v1), (0, (wr (1732 + ((jup h (o0 + 33) ((wr (1220 + (h (o0 + 33) (4 : Int).toNat))) : Int).toNat (wr ((wr (128 * (h (o0 + 33) (5 : Int).toNat))) + (h (o0 + 33) (6 : Int).toNat)))) (o0 + 33) (4 : Int).toNat)))), (2, Int.ofNat (o0 + 33))]) rfl ?_
  refine jEv.ast (Or.inl ⟨rfl, rfl, rfl⟩) (show jfI 301 48 (.iastore) 1 [] = true by decide +kernel) (isX12_a45 ho0) rfl H (fun c6 H => ?_)
  refine jEv.blk [(.aload_n 0, 1, [])] (by decide +kernel) (pc' := 50) (ls' := [(2, Int.ofNat o0), (0, v1)]) (st' := [(2, Int.ofNat o0)]) rfl ?_
  refine jEv.gfR (o' := (o0 + 33)) (show jfI 301 50 (.getfield 111) 3 [12, 45, 5, 0, 7081] = true by decide +kernel) (isX12_L ho0) (by decide) (isX12_r45 ho0) ?_
  refine jEv.blk [(.iconst 4, 1, []), (.dup2, 1, [])] (by decide +kernel) (pc' := 55) (ls' := [(2, Int.ofNat o0), (0, v1)]) (st' := [(0, 4), (2, Int.ofNat (o0 + 33)), (0, 4), (2, Int.ofNat (o0 + 33))]) rfl ?_
  refine jEv.ald (Or.inl ⟨rfl, rfl, rfl⟩) (show jfI 301 55 (.iaload) 1 [] = true by decide +kernel) (isX12_a45 ho0) H (fun c7 H => ?_)
  refine jEv.blk [(.iconst 1, 1, []), (.iadd, 1, [])] (by decide +kernel) (pc' := 58) (ls' := [(2, Int.ofNat o0), (0, v1)]) (st' := [(0, (wr (((jup (jup h (o0 + 33) ((wr (1220 + (h (o0 + 33) (4 : Int).toNat))) : Int).toNat (wr ((wr (128 * (h (o0 + 33) (5 : Int).toNat))) + (h (o0 + 33) (6 : Int).toNat)))) (o0 + 33) ((wr (1732 + ((jup h (o0 + 33) ((wr (1220 + (h (o0 + 33) (4 : Int).toNat))) : Int).toNat (wr ((wr (128 * (h (o0 + 33) (5 : Int).toNat))) + (h (o0 + 33) (6 : Int).toNat)))) (o0 + 33) (4 : Int).toNat))) : Int).toNat v1) (o0 + 33) (4 : Int).toNat) + 1))), (0, 4), (2, Int.ofNat (o0 + 33))]) rfl ?_
  refine jEv.ast (Or.inl ⟨rfl, rfl, rfl⟩) (show jfI 301 58 (.iastore) 1 [] = true by decide +kernel) (isX12_a45 ho0) rfl H (fun c8 H => ?_)
  refine jEv.blk [(.aload_n 0, 1, [])] (by decide +kernel) (pc' := 60) (ls' := [(2, Int.ofNat o0), (0, v1)]) (st' := [(2, Int.ofNat o0)]) rfl ?_
  refine jEv.gfR (o' := (o0 + 33)) (show jfI 301 60 (.getfield 111) 3 [12, 45, 5, 0, 7081] = true by decide +kernel) (isX12_L ho0) (by decide) (isX12_r45 ho0) ?_
  refine jEv.blk [(.bipush 6, 2, []), (.dup2, 1, [])] (by decide +kernel) (pc' := 66) (ls' := [(2, Int.ofNat o0), (0, v1)]) (st' := [(0, 6), (2, Int.ofNat (o0 + 33)), (0, 6), (2, Int.ofNat (o0 + 33))]) rfl ?_
  refine jEv.ald (Or.inl ⟨rfl, rfl, rfl⟩) (show jfI 301 66 (.iaload) 1 [] = true by decide +kernel) (isX12_a45 ho0) H (fun c9 H => ?_)
  refine jEv.blk [(.iconst 1, 1, []), (.iadd, 1, [])] (by decide +kernel) (pc' := 69) (ls' := [(2, Int.ofNat o0), (0, v1)]) (st' := [(0, (wr (((jup (jup (jup h (o0 + 33) ((wr (1220 + (h (o0 + 33) (4 : Int).toNat))) : Int).toNat (wr ((wr (128 * (h (o0 + 33) (5 : Int).toNat))) + (h (o0 + 33) (6 : Int).toNat)))) (o0 + 33) ((wr (1732 + ((jup h (o0 + 33) ((wr (1220 + (h (o0 + 33) (4 : Int).toNat))) : Int).toNat (wr ((wr (128 * (h (o0 + 33) (5 : Int).toNat))) + (h (o0 + 33) (6 : Int).toNat)))) (o0 + 33) (4 : Int).toNat))) : Int).toNat v1) (o0 + 33) (4 : Int).toNat (wr (((jup (jup h (o0 + 33) ((wr (1220 + (h (o0 + 33) (4 : Int).toNat))) : Int).toNat (wr ((wr (128 * (h (o0 + 33) (5 : Int).toNat))) + (h (o0 + 33) (6 : Int).toNat)))) (o0 + 33) ((wr (1732 + ((jup h (o0 + 33) ((wr (1220 + (h (o0 + 33) (4 : Int).toNat))) : Int).toNat (wr ((wr (128 * (h (o0 + 33) (5 : Int).toNat))) + (h (o0 + 33) (6 : Int).toNat)))) (o0 + 33) (4 : Int).toNat))) : Int).toNat v1) (o0 + 33) (4 : Int).toNat) + 1))) (o0 + 33) (6 : Int).toNat) + 1))), (0, 6), (2, Int.ofNat (o0 + 33))]) rfl ?_
  refine jEv.ast (Or.inl ⟨rfl, rfl, rfl⟩) (show jfI 301 69 (.iastore) 1 [] = true by decide +kernel) (isX12_a45 ho0) rfl H (fun c10 H => ?_)
  exact jEv.retV (show jfI 301 70 (.return_) 1 [] = true by decide +kernel) (by decide +kernel) (by cases H; exact HY)
set_option maxRecDepth 20000 in
noncomputable def M_frames  (h : jH) (o0 : Nat) (v1 : Int) : Option jH := (if (0 : Int) ≤ (h o0 50) ∧ ((h o0 50) : Int).toNat < 64 then some (jup (jup h (o0 + 34) ((h o0 50) : Int).toNat v1) o0 50 (wr (((jup h (o0 + 34) ((h o0 50) : Int).toNat v1) o0 50) + 1))) else none)
set_option maxRecDepth 20000 in
theorem t_M_frames {T : jT} {xs : List Int} {h : jH}  {o0 : Nat} {v1 : Int} {out : jH} (ho0 : isX12 T o0) (H : M_frames h o0 v1 = some out) : jEm xs 1 303 [(2, Int.ofNat o0), (0, v1)] (T, h) ((3, 0), (T, out)) := by
  have hd : 0 ≤ 0 := Nat.le_refl _
  obtain ⟨y, ey⟩ : ∃ y : jV × jS, y = ((3, 0), (T, out)) := ⟨_, rfl⟩
  rw [← ey]
  have HY : ykV T y out := ey
  refine jEm.ent (n := 2) (by decide +kernel) (Nat.le_of_ble_eq_true rfl) ?_
  show jEv xs 0 (303, 0, [(2, Int.ofNat o0), (0, v1)], []) (T, h) y
  unfold M_frames at H
  refine jEv.blk [(.aload_n 0, 1, [])] (by decide +kernel) (pc' := 1) (ls' := [(2, Int.ofNat o0), (0, v1)]) (st' := [(2, Int.ofNat o0)]) rfl ?_
  refine jEv.gfR (o' := (o0 + 34)) (show jfI 303 1 (.getfield 114) 3 [12, 49, 5, 0, 7085] = true by decide +kernel) (isX12_L ho0) (by decide) (isX12_r49 ho0) ?_
  refine jEv.blk [(.aload_n 0, 1, [])] (by decide +kernel) (pc' := 5) (ls' := [(2, Int.ofNat o0), (0, v1)]) (st' := [(2, Int.ofNat o0), (2, Int.ofNat (o0 + 34))]) rfl ?_
  refine jEv.gfI (show jfI 303 5 (.getfield 411) 3 [12, 50, 0, 0, 7086] = true by decide +kernel) (isX12_L ho0) (by decide) ?_
  refine jEv.blk [(.iload_n 1, 1, [])] (by decide +kernel) (pc' := 9) (ls' := [(2, Int.ofNat o0), (0, v1)]) (st' := [(0, v1), (0, (h o0 50)), (2, Int.ofNat (o0 + 34))]) rfl ?_
  refine jEv.ast (Or.inl ⟨rfl, rfl, rfl⟩) (show jfI 303 9 (.iastore) 1 [] = true by decide +kernel) (isX12_a49 ho0) rfl H (fun c1 H => ?_)
  refine jEv.blk [(.aload_n 0, 1, []), (.dup, 1, [])] (by decide +kernel) (pc' := 12) (ls' := [(2, Int.ofNat o0), (0, v1)]) (st' := [(2, Int.ofNat o0), (2, Int.ofNat o0)]) rfl ?_
  refine jEv.gfI (show jfI 303 12 (.getfield 411) 3 [12, 50, 0, 0, 7086] = true by decide +kernel) (isX12_L ho0) (by decide) ?_
  refine jEv.blk [(.iconst 1, 1, []), (.iadd, 1, [])] (by decide +kernel) (pc' := 17) (ls' := [(2, Int.ofNat o0), (0, v1)]) (st' := [(0, (wr (((jup h (o0 + 34) ((h o0 50) : Int).toNat v1) o0 50) + 1))), (2, Int.ofNat o0)]) rfl ?_
  refine jEv.pfI (show jfI 303 17 (.putfield 411) 3 [12, 50, 0, 0, 7086] = true by decide +kernel) (isX12_L ho0) (by decide) ?_
  exact jEv.retV (show jfI 303 20 (.return_) 1 [] = true by decide +kernel) (by decide +kernel) (by cases H; exact HY)
set_option maxRecDepth 20000 in
noncomputable def M_payloadAt  (h : jH) (o0 : Nat) (v1 : Int) (v2 : Int) : Option Int := Option.bind (M_recordOf h o0 v1 1) (fun b1 => (if v2 = 0 then Option.bind (M_recordOf h o0 v1 0) (fun b3 => some b3) else (if v2 = 1 then some (jshr b1 8) else (if v2 = 2 then some (jand b1 255) else some (jand (wr (b1 + (wr (7 * (wr (v2 - 3)))))) 255)))))
set_option maxRecDepth 20000 in
theorem t_M_payloadAt {T : jT} {xs : List Int} {h : jH}  {o0 : Nat} {v1 : Int} {v2 : Int} {out : Int} (ho0 : isX12 T o0) (H : M_payloadAt h o0 v1 v2 = some out) : jEm xs 2 304 [(2, Int.ofNat o0), (0, v1), (0, v2)] (T, h) ((0, out), (T, h)) := by
  have hd : 1 ≤ 1 := Nat.le_refl _
  obtain ⟨y, ey⟩ : ∃ y : jV × jS, y = ((0, out), (T, h)) := ⟨_, rfl⟩
  rw [← ey]
  have HY : ykIp T h y out := ey
  refine jEm.ent (n := 4) (by decide +kernel) (Nat.le_of_ble_eq_true rfl) ?_
  show jEv xs 1 (304, 0, [(2, Int.ofNat o0), (0, v1), (0, v2), (3, 0)], []) (T, h) y
  unfold M_payloadAt at H
  refine jEv.blk [(.aload_n 0, 1, []), (.iload_n 1, 1, []), (.iconst 1, 1, [])] (by decide +kernel) (pc' := 3) (ls' := [(2, Int.ofNat o0), (0, v1), (0, v2), (3, 0)]) (st' := [(0, 1), (0, v1), (2, Int.ofNat o0)]) rfl ?_
  refine jbind H (fun b1 Hb1 H => ?_)
  refine jEv.calV (st' := [(0, b1)]) (show jfI 304 3 (.invokevirtual 363) 3 [1, 275, 2, 9184] = true by decide +kernel) rfl (Or.inl rfl) rfl (Nat.le_of_ble_eq_true rfl) (by decide +kernel) (by decide) (isX12_L ho0) ((t_M_recordOf (T := T) (xs := xs) ho0 Hb1).mono (jKle 1 hd)) rfl ?_
  refine jEv.blk [(.istore_n 3, 1, []), (.iload_n 2, 1, [])] (by decide +kernel) (pc' := 8) (ls' := [(2, Int.ofNat o0), (0, v1), (0, v2), (0, b1)]) (st' := [(0, v2)]) rfl ?_
  refine jEv.if_ne (t := 20) (show jfI 304 8 (.ifCond .ne 12) 3 [] = true by decide +kernel) rfl H (fun c2 H => ?_) (fun c2 H => ?_)
  · refine jEv.blk [(.aload_n 0, 1, []), (.iload_n 1, 1, []), (.iconst 0, 1, [])] (by decide +kernel) (pc' := 14) (ls' := [(2, Int.ofNat o0), (0, v1), (0, v2), (0, b1)]) (st' := [(0, 0), (0, v1), (2, Int.ofNat o0)]) rfl ?_
    refine jbind H (fun b3 Hb3 H => ?_)
    refine jEv.calV (st' := [(0, b3)]) (show jfI 304 14 (.invokevirtual 363) 3 [1, 275, 2, 9184] = true by decide +kernel) rfl (Or.inl rfl) rfl (Nat.le_of_ble_eq_true rfl) (by decide +kernel) (by decide) (isX12_L ho0) ((t_M_recordOf (T := T) (xs := xs) ho0 Hb3).mono (jKle 1 hd)) rfl ?_
    refine jEv.goto (t := 57) (show jfI 304 17 (.goto 40) 3 [] = true by decide +kernel) rfl ?_
    exact jEv.retI (show jfI 304 57 (.ireturn) 1 [] = true by decide +kernel) (by decide +kernel) (by cases H; exact HY)
  · refine jEv.blk [(.iload_n 2, 1, []), (.iconst 1, 1, [])] (by decide +kernel) (pc' := 22) (ls' := [(2, Int.ofNat o0), (0, v1), (0, v2), (0, b1)]) (st' := [(0, 1), (0, v2)]) rfl ?_
    refine jEv.ic_ne (t := 32) (show jfI 304 22 (.if_icmp .ne 10) 3 [] = true by decide +kernel) rfl H (fun c4 H => ?_) (fun c4 H => ?_)
    · refine jEv.blk [(.iload_n 3, 1, []), (.bipush 8, 2, []), (.ishr, 1, [])] (by decide +kernel) (pc' := 29) (ls' := [(2, Int.ofNat o0), (0, v1), (0, v2), (0, b1)]) (st' := [(0, (jshr b1 8))]) rfl ?_
      refine jEv.goto (t := 57) (show jfI 304 29 (.goto 28) 3 [] = true by decide +kernel) rfl ?_
      exact jEv.retI (show jfI 304 57 (.ireturn) 1 [] = true by decide +kernel) (by decide +kernel) (by cases H; exact HY)
    · refine jEv.blk [(.iload_n 2, 1, []), (.iconst 2, 1, [])] (by decide +kernel) (pc' := 34) (ls' := [(2, Int.ofNat o0), (0, v1), (0, v2), (0, b1)]) (st' := [(0, 2), (0, v2)]) rfl ?_
      refine jEv.ic_ne (t := 45) (show jfI 304 34 (.if_icmp .ne 11) 3 [] = true by decide +kernel) rfl H (fun c5 H => ?_) (fun c5 H => ?_)
      · refine jEv.blk [(.iload_n 3, 1, []), (.sipush 255, 3, []), (.iand, 1, [])] (by decide +kernel) (pc' := 42) (ls' := [(2, Int.ofNat o0), (0, v1), (0, v2), (0, b1)]) (st' := [(0, (jand b1 255))]) rfl ?_
        refine jEv.goto (t := 57) (show jfI 304 42 (.goto 15) 3 [] = true by decide +kernel) rfl ?_
        exact jEv.retI (show jfI 304 57 (.ireturn) 1 [] = true by decide +kernel) (by decide +kernel) (by cases H; exact HY)
      · refine jEv.blk [(.iload_n 3, 1, []), (.bipush 7, 2, []), (.iload_n 2, 1, []), (.iconst 3, 1, []), (.isub, 1, []), (.imul, 1, []), (.iadd, 1, []), (.sipush 255, 3, []), (.iand, 1, [])] (by decide +kernel) (pc' := 57) (ls' := [(2, Int.ofNat o0), (0, v1), (0, v2), (0, b1)]) (st' := [(0, (jand (wr (b1 + (wr (7 * (wr (v2 - 3)))))) 255))]) rfl ?_
        exact jEv.retI (show jfI 304 57 (.ireturn) 1 [] = true by decide +kernel) (by decide +kernel) (by cases H; exact HY)
