/-! methods as functions -/
set_option maxRecDepth 20000 in
noncomputable def M_has  (h : jH) (o0 : Nat) (v1 : Int) : Option Int := (if v1 = 0 then Option.bind (M_segmentMany h o0) (fun b2 => some b2) else (if v1 = 1 then Option.bind (M_length h o0) (fun b4 => some b4) else (if v1 = 2 then (if (0 : Int) ≤ 0 ∧ (0 : Int).toNat < 2365 then some (h (o0 + 33) (0 : Int).toNat) else none) else (if v1 = 3 then (if (0 : Int) ≤ 1 ∧ (1 : Int).toNat < 2365 then some (h (o0 + 33) (1 : Int).toNat) else none) else (if v1 = 4 then (if (0 : Int) ≤ 2 ∧ (2 : Int).toNat < 2365 then some (h (o0 + 33) (2 : Int).toNat) else none) else (if v1 = 5 then (if (0 : Int) ≤ 11 ∧ (11 : Int).toNat < 2365 then some (h (o0 + 33) (11 : Int).toNat) else none) else (if v1 = 6 then (if (0 : Int) ≤ 4 ∧ (4 : Int).toNat < 2365 then some (h (o0 + 33) (4 : Int).toNat) else none) else (if v1 = 7 then (if (0 : Int) ≤ 3 ∧ (3 : Int).toNat < 2365 then some (h (o0 + 33) (3 : Int).toNat) else none) else (if v1 = 8 then (if (0 : Int) ≤ 9 ∧ (9 : Int).toNat < 2365 then some (h (o0 + 33) (9 : Int).toNat) else none) else (if v1 = 9 then (if (0 : Int) ≤ 12 ∧ (12 : Int).toNat < 2365 then some (h (o0 + 33) (12 : Int).toNat) else none) else (if v1 = 10 then Option.bind (M_scarMany h o0) (fun b22 => some b22) else (if v1 = 11 then (if (0 : Int) ≤ 2244 ∧ (2244 : Int).toNat < 2365 then some (h (o0 + 33) (2244 : Int).toNat) else none) else (if v1 = 12 then some (h o0 66) else (if v1 = 13 then some (h o0 73) else (if v1 = 14 then (if (0 : Int) ≤ 10 ∧ (10 : Int).toNat < 2365 then some (h (o0 + 33) (10 : Int).toNat) else none) else some (-1))))))))))))))))
set_option maxRecDepth 20000 in
theorem t_M_has {T : jT} {xs : List Int} {h : jH}  {o0 : Nat} {v1 : Int} {out : Int} (ho0 : isX12 T o0) (H : M_has h o0 v1 = some out) : jEm xs 2 253 [(2, Int.ofNat o0), (0, v1)] (T, h) ((0, out), (T, h)) := by
  have hd : 1 ≤ 1 := Nat.le_refl _
  obtain ⟨y, ey⟩ : ∃ y : jV × jS, y = ((0, out), (T, h)) := ⟨_, rfl⟩
  rw [← ey]
  have HY : ykIp T h y out := ey
  refine jEm.ent (n := 2) (by decide +kernel) (Nat.le_of_ble_eq_true rfl) ?_
  show jEv xs 1 (253, 0, [(2, Int.ofNat o0), (0, v1)], []) (T, h) y
  unfold M_has at H
  refine jEv.blk [(.iload_n 1, 1, [])] (by decide +kernel) (pc' := 1) (ls' := [(2, Int.ofNat o0), (0, v1)]) (st' := [(0, v1)]) rfl ?_
  refine jite H (fun c1 H => ?_) (fun c1 H => ?_)
  · refine jEv.tsI (v := 0) (off := 75) (t := 76) (show jfI 253 1 (.tableswitch 176 0 14 #[75, 80, 85, 92, 99, 106, 114, 121, 128, 136, 144, 149, 158, 163, 168]) 75 [] = true by decide +kernel) c1 (by decide) (by decide) rfl (by decide) ?_
    refine jEv.blk [(.aload_n 0, 1, [])] (by decide +kernel) (pc' := 77) (ls' := [(2, Int.ofNat o0), (0, v1)]) (st' := [(2, Int.ofNat o0)]) rfl ?_
    refine jbind H (fun b2 Hb2 H => ?_)
    refine jEv.calV (st' := [(0, b2)]) (show jfI 253 77 (.invokevirtual 360) 3 [1, 254, 0, 9096] = true by decide +kernel) rfl (Or.inl rfl) rfl (Nat.le_of_ble_eq_true rfl) (by decide +kernel) (by decide) (isX12_L ho0) ((t_M_segmentMany (T := T) (xs := xs) ho0 Hb2).mono (jKle 1 hd)) rfl ?_
    exact jEv.retI (show jfI 253 80 (.ireturn) 1 [] = true by decide +kernel) (by decide +kernel) (by cases H; exact HY)
  · refine jite H (fun c3 H => ?_) (fun c3 H => ?_)
    · refine jEv.tsI (v := 1) (off := 80) (t := 81) (show jfI 253 1 (.tableswitch 176 0 14 #[75, 80, 85, 92, 99, 106, 114, 121, 128, 136, 144, 149, 158, 163, 168]) 75 [] = true by decide +kernel) c3 (by decide) (by decide) rfl (by decide) ?_
      refine jEv.blk [(.aload_n 0, 1, [])] (by decide +kernel) (pc' := 82) (ls' := [(2, Int.ofNat o0), (0, v1)]) (st' := [(2, Int.ofNat o0)]) rfl ?_
      refine jbind H (fun b4 Hb4 H => ?_)
      refine jEv.calV (st' := [(0, b4)]) (show jfI 253 82 (.invokevirtual 402) 3 [1, 249, 0, 9076] = true by decide +kernel) rfl (Or.inl rfl) rfl (Nat.le_of_ble_eq_true rfl) (by decide +kernel) (by decide) (isX12_L ho0) ((t_M_length (T := T) (xs := xs) ho0 Hb4).mono (jKle 1 hd)) rfl ?_
      exact jEv.retI (show jfI 253 85 (.ireturn) 1 [] = true by decide +kernel) (by decide +kernel) (by cases H; exact HY)
    · refine jite H (fun c5 H => ?_) (fun c5 H => ?_)
      · refine jEv.tsI (v := 2) (off := 85) (t := 86) (show jfI 253 1 (.tableswitch 176 0 14 #[75, 80, 85, 92, 99, 106, 114, 121, 128, 136, 144, 149, 158, 163, 168]) 75 [] = true by decide +kernel) c5 (by decide) (by decide) rfl (by decide) ?_
        refine jEv.blk [(.aload_n 0, 1, [])] (by decide +kernel) (pc' := 87) (ls' := [(2, Int.ofNat o0), (0, v1)]) (st' := [(2, Int.ofNat o0)]) rfl ?_
        refine jEv.gfR (o' := (o0 + 33)) (show jfI 253 87 (.getfield 111) 3 [12, 45, 5, 0, 7081] = true by decide +kernel) (isX12_L ho0) (by decide) (isX12_r45 ho0) ?_
        refine jEv.blk [(.iconst 0, 1, [])] (by decide +kernel) (pc' := 91) (ls' := [(2, Int.ofNat o0), (0, v1)]) (st' := [(0, 0), (2, Int.ofNat (o0 + 33))]) rfl ?_
        refine jEv.ald (Or.inl ⟨rfl, rfl, rfl⟩) (show jfI 253 91 (.iaload) 1 [] = true by decide +kernel) (isX12_a45 ho0) H (fun c6 H => ?_)
        exact jEv.retI (show jfI 253 92 (.ireturn) 1 [] = true by decide +kernel) (by decide +kernel) (by cases H; exact HY)
      · refine jite H (fun c7 H => ?_) (fun c7 H => ?_)
        · refine jEv.tsI (v := 3) (off := 92) (t := 93) (show jfI 253 1 (.tableswitch 176 0 14 #[75, 80, 85, 92, 99, 106, 114, 121, 128, 136, 144, 149, 158, 163, 168]) 75 [] = true by decide +kernel) c7 (by decide) (by decide) rfl (by decide) ?_
          refine jEv.blk [(.aload_n 0, 1, [])] (by decide +kernel) (pc' := 94) (ls' := [(2, Int.ofNat o0), (0, v1)]) (st' := [(2, Int.ofNat o0)]) rfl ?_
          refine jEv.gfR (o' := (o0 + 33)) (show jfI 253 94 (.getfield 111) 3 [12, 45, 5, 0, 7081] = true by decide +kernel) (isX12_L ho0) (by decide) (isX12_r45 ho0) ?_
          refine jEv.blk [(.iconst 1, 1, [])] (by decide +kernel) (pc' := 98) (ls' := [(2, Int.ofNat o0), (0, v1)]) (st' := [(0, 1), (2, Int.ofNat (o0 + 33))]) rfl ?_
          refine jEv.ald (Or.inl ⟨rfl, rfl, rfl⟩) (show jfI 253 98 (.iaload) 1 [] = true by decide +kernel) (isX12_a45 ho0) H (fun c8 H => ?_)
          exact jEv.retI (show jfI 253 99 (.ireturn) 1 [] = true by decide +kernel) (by decide +kernel) (by cases H; exact HY)
        · refine jite H (fun c9 H => ?_) (fun c9 H => ?_)
          · refine jEv.tsI (v := 4) (off := 99) (t := 100) (show jfI 253 1 (.tableswitch 176 0 14 #[75, 80, 85, 92, 99, 106, 114, 121, 128, 136, 144, 149, 158, 163, 168]) 75 [] = true by decide +kernel) c9 (by decide) (by decide) rfl (by decide) ?_
            refine jEv.blk [(.aload_n 0, 1, [])] (by decide +kernel) (pc' := 101) (ls' := [(2, Int.ofNat o0), (0, v1)]) (st' := [(2, Int.ofNat o0)]) rfl ?_
            refine jEv.gfR (o' := (o0 + 33)) (show jfI 253 101 (.getfield 111) 3 [12, 45, 5, 0, 7081] = true by decide +kernel) (isX12_L ho0) (by decide) (isX12_r45 ho0) ?_
            refine jEv.blk [(.iconst 2, 1, [])] (by decide +kernel) (pc' := 105) (ls' := [(2, Int.ofNat o0), (0, v1)]) (st' := [(0, 2), (2, Int.ofNat (o0 + 33))]) rfl ?_
            refine jEv.ald (Or.inl ⟨rfl, rfl, rfl⟩) (show jfI 253 105 (.iaload) 1 [] = true by decide +kernel) (isX12_a45 ho0) H (fun c10 H => ?_)
            exact jEv.retI (show jfI 253 106 (.ireturn) 1 [] = true by decide +kernel) (by decide +kernel) (by cases H; exact HY)
          · refine jite H (fun c11 H => ?_) (fun c11 H => ?_)
            · refine jEv.tsI (v := 5) (off := 106) (t := 107) (show jfI 253 1 (.tableswitch 176 0 14 #[75, 80, 85, 92, 99, 106, 114, 121, 128, 136, 144, 149, 158, 163, 168]) 75 [] = true by decide +kernel) c11 (by decide) (by decide) rfl (by decide) ?_
              refine jEv.blk [(.aload_n 0, 1, [])] (by decide +kernel) (pc' := 108) (ls' := [(2, Int.ofNat o0), (0, v1)]) (st' := [(2, Int.ofNat o0)]) rfl ?_
              refine jEv.gfR (o' := (o0 + 33)) (show jfI 253 108 (.getfield 111) 3 [12, 45, 5, 0, 7081] = true by decide +kernel) (isX12_L ho0) (by decide) (isX12_r45 ho0) ?_
              refine jEv.blk [(.bipush 11, 2, [])] (by decide +kernel) (pc' := 113) (ls' := [(2, Int.ofNat o0), (0, v1)]) (st' := [(0, 11), (2, Int.ofNat (o0 + 33))]) rfl ?_
              refine jEv.ald (Or.inl ⟨rfl, rfl, rfl⟩) (show jfI 253 113 (.iaload) 1 [] = true by decide +kernel) (isX12_a45 ho0) H (fun c12 H => ?_)
              exact jEv.retI (show jfI 253 114 (.ireturn) 1 [] = true by decide +kernel) (by decide +kernel) (by cases H; exact HY)
            · refine jite H (fun c13 H => ?_) (fun c13 H => ?_)
              · refine jEv.tsI (v := 6) (off := 114) (t := 115) (show jfI 253 1 (.tableswitch 176 0 14 #[75, 80, 85, 92, 99, 106, 114, 121, 128, 136, 144, 149, 158, 163, 168]) 75 [] = true by decide +kernel) c13 (by decide) (by decide) rfl (by decide) ?_
                refine jEv.blk [(.aload_n 0, 1, [])] (by decide +kernel) (pc' := 116) (ls' := [(2, Int.ofNat o0), (0, v1)]) (st' := [(2, Int.ofNat o0)]) rfl ?_
                refine jEv.gfR (o' := (o0 + 33)) (show jfI 253 116 (.getfield 111) 3 [12, 45, 5, 0, 7081] = true by decide +kernel) (isX12_L ho0) (by decide) (isX12_r45 ho0) ?_
                refine jEv.blk [(.iconst 4, 1, [])] (by decide +kernel) (pc' := 120) (ls' := [(2, Int.ofNat o0), (0, v1)]) (st' := [(0, 4), (2, Int.ofNat (o0 + 33))]) rfl ?_
                refine jEv.ald (Or.inl ⟨rfl, rfl, rfl⟩) (show jfI 253 120 (.iaload) 1 [] = true by decide +kernel) (isX12_a45 ho0) H (fun c14 H => ?_)
                exact jEv.retI (show jfI 253 121 (.ireturn) 1 [] = true by decide +kernel) (by decide +kernel) (by cases H; exact HY)
              · refine jite H (fun c15 H => ?_) (fun c15 H => ?_)
                · refine jEv.tsI (v := 7) (off := 121) (t := 122) (show jfI 253 1 (.tableswitch 176 0 14 #[75, 80, 85, 92, 99, 106, 114, 121, 128, 136, 144, 149, 158, 163, 168]) 75 [] = true by decide +kernel) c15 (by decide) (by decide) rfl (by decide) ?_
                  refine jEv.blk [(.aload_n 0, 1, [])] (by decide +kernel) (pc' := 123) (ls' := [(2, Int.ofNat o0), (0, v1)]) (st' := [(2, Int.ofNat o0)]) rfl ?_
                  refine jEv.gfR (o' := (o0 + 33)) (show jfI 253 123 (.getfield 111) 3 [12, 45, 5, 0, 7081] = true by decide +kernel) (isX12_L ho0) (by decide) (isX12_r45 ho0) ?_
                  refine jEv.blk [(.iconst 3, 1, [])] (by decide +kernel) (pc' := 127) (ls' := [(2, Int.ofNat o0), (0, v1)]) (st' := [(0, 3), (2, Int.ofNat (o0 + 33))]) rfl ?_
                  refine jEv.ald (Or.inl ⟨rfl, rfl, rfl⟩) (show jfI 253 127 (.iaload) 1 [] = true by decide +kernel) (isX12_a45 ho0) H (fun c16 H => ?_)
                  exact jEv.retI (show jfI 253 128 (.ireturn) 1 [] = true by decide +kernel) (by decide +kernel) (by cases H; exact HY)
                · refine jite H (fun c17 H => ?_) (fun c17 H => ?_)
                  · refine jEv.tsI (v := 8) (off := 128) (t := 129) (show jfI 253 1 (.tableswitch 176 0 14 #[75, 80, 85, 92, 99, 106, 114, 121, 128, 136, 144, 149, 158, 163, 168]) 75 [] = true by decide +kernel) c17 (by decide) (by decide) rfl (by decide) ?_
                    refine jEv.blk [(.aload_n 0, 1, [])] (by decide +kernel) (pc' := 130) (ls' := [(2, Int.ofNat o0), (0, v1)]) (st' := [(2, Int.ofNat o0)]) rfl ?_
                    refine jEv.gfR (o' := (o0 + 33)) (show jfI 253 130 (.getfield 111) 3 [12, 45, 5, 0, 7081] = true by decide +kernel) (isX12_L ho0) (by decide) (isX12_r45 ho0) ?_
                    refine jEv.blk [(.bipush 9, 2, [])] (by decide +kernel) (pc' := 135) (ls' := [(2, Int.ofNat o0), (0, v1)]) (st' := [(0, 9), (2, Int.ofNat (o0 + 33))]) rfl ?_
                    refine jEv.ald (Or.inl ⟨rfl, rfl, rfl⟩) (show jfI 253 135 (.iaload) 1 [] = true by decide +kernel) (isX12_a45 ho0) H (fun c18 H => ?_)
                    exact jEv.retI (show jfI 253 136 (.ireturn) 1 [] = true by decide +kernel) (by decide +kernel) (by cases H; exact HY)
                  · refine jite H (fun c19 H => ?_) (fun c19 H => ?_)
                    · refine jEv.tsI (v := 9) (off := 136) (t := 137) (show jfI 253 1 (.tableswitch 176 0 14 #[75, 80, 85, 92, 99, 106, 114, 121, 128, 136, 144, 149, 158, 163, 168]) 75 [] = true by decide +kernel) c19 (by decide) (by decide) rfl (by decide) ?_
                      refine jEv.blk [(.aload_n 0, 1, [])] (by decide +kernel) (pc' := 138) (ls' := [(2, Int.ofNat o0), (0, v1)]) (st' := [(2, Int.ofNat o0)]) rfl ?_
                      refine jEv.gfR (o' := (o0 + 33)) (show jfI 253 138 (.getfield 111) 3 [12, 45, 5, 0, 7081] = true by decide +kernel) (isX12_L ho0) (by decide) (isX12_r45 ho0) ?_
                      refine jEv.blk [(.bipush 12, 2, [])] (by decide +kernel) (pc' := 143) (ls' := [(2, Int.ofNat o0), (0, v1)]) (st' := [(0, 12), (2, Int.ofNat (o0 + 33))]) rfl ?_
                      refine jEv.ald (Or.inl ⟨rfl, rfl, rfl⟩) (show jfI 253 143 (.iaload) 1 [] = true by decide +kernel) (isX12_a45 ho0) H (fun c20 H => ?_)
                      exact jEv.retI (show jfI 253 144 (.ireturn) 1 [] = true by decide +kernel) (by decide +kernel) (by cases H; exact HY)
                    · refine jite H (fun c21 H => ?_) (fun c21 H => ?_)
                      · refine jEv.tsI (v := 10) (off := 144) (t := 145) (show jfI 253 1 (.tableswitch 176 0 14 #[75, 80, 85, 92, 99, 106, 114, 121, 128, 136, 144, 149, 158, 163, 168]) 75 [] = true by decide +kernel) c21 (by decide) (by decide) rfl (by decide) ?_
                        refine jEv.blk [(.aload_n 0, 1, [])] (by decide +kernel) (pc' := 146) (ls' := [(2, Int.ofNat o0), (0, v1)]) (st' := [(2, Int.ofNat o0)]) rfl ?_
                        refine jbind H (fun b22 Hb22 H => ?_)
                        refine jEv.calV (st' := [(0, b22)]) (show jfI 253 146 (.invokevirtual 567) 3 [1, 255, 0, 9100] = true by decide +kernel) rfl (Or.inl rfl) rfl (Nat.le_of_ble_eq_true rfl) (by decide +kernel) (by decide) (isX12_L ho0) ((t_M_scarMany (T := T) (xs := xs) ho0 Hb22).mono (jKle 1 hd)) rfl ?_
                        exact jEv.retI (show jfI 253 149 (.ireturn) 1 [] = true by decide +kernel) (by decide +kernel) (by cases H; exact HY)
                      · refine jite H (fun c23 H => ?_) (fun c23 H => ?_)
                        · refine jEv.tsI (v := 11) (off := 149) (t := 150) (show jfI 253 1 (.tableswitch 176 0 14 #[75, 80, 85, 92, 99, 106, 114, 121, 128, 136, 144, 149, 158, 163, 168]) 75 [] = true by decide +kernel) c23 (by decide) (by decide) rfl (by decide) ?_
                          refine jEv.blk [(.aload_n 0, 1, [])] (by decide +kernel) (pc' := 151) (ls' := [(2, Int.ofNat o0), (0, v1)]) (st' := [(2, Int.ofNat o0)]) rfl ?_
                          refine jEv.gfR (o' := (o0 + 33)) (show jfI 253 151 (.getfield 111) 3 [12, 45, 5, 0, 7081] = true by decide +kernel) (isX12_L ho0) (by decide) (isX12_r45 ho0) ?_
                          refine jEv.blk [(.sipush 2244, 3, [])] (by decide +kernel) (pc' := 157) (ls' := [(2, Int.ofNat o0), (0, v1)]) (st' := [(0, 2244), (2, Int.ofNat (o0 + 33))]) rfl ?_
                          refine jEv.ald (Or.inl ⟨rfl, rfl, rfl⟩) (show jfI 253 157 (.iaload) 1 [] = true by decide +kernel) (isX12_a45 ho0) H (fun c24 H => ?_)
                          exact jEv.retI (show jfI 253 158 (.ireturn) 1 [] = true by decide +kernel) (by decide +kernel) (by cases H; exact HY)
                        · refine jite H (fun c25 H => ?_) (fun c25 H => ?_)
                          · refine jEv.tsI (v := 12) (off := 158) (t := 159) (show jfI 253 1 (.tableswitch 176 0 14 #[75, 80, 85, 92, 99, 106, 114, 121, 128, 136, 144, 149, 158, 163, 168]) 75 [] = true by decide +kernel) c25 (by decide) (by decide) rfl (by decide) ?_
                            refine jEv.blk [(.aload_n 0, 1, [])] (by decide +kernel) (pc' := 160) (ls' := [(2, Int.ofNat o0), (0, v1)]) (st' := [(2, Int.ofNat o0)]) rfl ?_
                            refine jEv.gfI (show jfI 253 160 (.getfield 350) 3 [12, 66, 0, 0, 7102] = true by decide +kernel) (isX12_L ho0) (by decide) ?_
                            exact jEv.retI (show jfI 253 163 (.ireturn) 1 [] = true by decide +kernel) (by decide +kernel) (by cases H; exact HY)
                          · refine jite H (fun c26 H => ?_) (fun c26 H => ?_)
                            · refine jEv.tsI (v := 13) (off := 163) (t := 164) (show jfI 253 1 (.tableswitch 176 0 14 #[75, 80, 85, 92, 99, 106, 114, 121, 128, 136, 144, 149, 158, 163, 168]) 75 [] = true by decide +kernel) c26 (by decide) (by decide) rfl (by decide) ?_
                              refine jEv.blk [(.aload_n 0, 1, [])] (by decide +kernel) (pc' := 165) (ls' := [(2, Int.ofNat o0), (0, v1)]) (st' := [(2, Int.ofNat o0)]) rfl ?_
                              refine jEv.gfI (show jfI 253 165 (.getfield 347) 3 [12, 73, 0, 0, 7109] = true by decide +kernel) (isX12_L ho0) (by decide) ?_
                              exact jEv.retI (show jfI 253 168 (.ireturn) 1 [] = true by decide +kernel) (by decide +kernel) (by cases H; exact HY)
                            · refine jite H (fun c27 H => ?_) (fun c27 H => ?_)
                              · refine jEv.tsI (v := 14) (off := 168) (t := 169) (show jfI 253 1 (.tableswitch 176 0 14 #[75, 80, 85, 92, 99, 106, 114, 121, 128, 136, 144, 149, 158, 163, 168]) 75 [] = true by decide +kernel) c27 (by decide) (by decide) rfl (by decide) ?_
                                refine jEv.blk [(.aload_n 0, 1, [])] (by decide +kernel) (pc' := 170) (ls' := [(2, Int.ofNat o0), (0, v1)]) (st' := [(2, Int.ofNat o0)]) rfl ?_
                                refine jEv.gfR (o' := (o0 + 33)) (show jfI 253 170 (.getfield 111) 3 [12, 45, 5, 0, 7081] = true by decide +kernel) (isX12_L ho0) (by decide) (isX12_r45 ho0) ?_
                                refine jEv.blk [(.bipush 10, 2, [])] (by decide +kernel) (pc' := 175) (ls' := [(2, Int.ofNat o0), (0, v1)]) (st' := [(0, 10), (2, Int.ofNat (o0 + 33))]) rfl ?_
                                refine jEv.ald (Or.inl ⟨rfl, rfl, rfl⟩) (show jfI 253 175 (.iaload) 1 [] = true by decide +kernel) (isX12_a45 ho0) H (fun c28 H => ?_)
                                exact jEv.retI (show jfI 253 176 (.ireturn) 1 [] = true by decide +kernel) (by decide +kernel) (by cases H; exact HY)
                              · refine jEv.tsO (t := 177) (show jfI 253 1 (.tableswitch 176 0 14 #[75, 80, 85, 92, 99, 106, 114, 121, 128, 136, 144, 149, 158, 163, 168]) 75 [] = true by decide +kernel) (by omega) rfl (by decide) ?_
                                refine jEv.blk [(.iconst (-1), 1, [])] (by decide +kernel) (pc' := 178) (ls' := [(2, Int.ofNat o0), (0, v1)]) (st' := [(0, (-1))]) rfl ?_
                                exact jEv.retI (show jfI 253 178 (.ireturn) 1 [] = true by decide +kernel) (by decide +kernel) (by cases H; exact HY)
set_option maxRecDepth 20000 in
noncomputable def M_isSegment_p27  (h : jH)  : Option Int := some 0
set_option maxRecDepth 20000 in
theorem t_M_isSegment_p27 {T : jT} {xs : List Int} {d : Nat} {y : jV × jS} (hd : 1 ≤ d) {h : jH}   {out : Int}  (H : M_isSegment_p27 h = some out) (HY : ykIp T h y out) : jEv xs d (257, 27, [(3, 0), (3, 0)], []) (T, h) y := by
  unfold M_isSegment_p27 at H
  refine jEv.blk [(.iconst 0, 1, [])] (by decide +kernel) (pc' := 28) (ls' := [(3, 0), (3, 0)]) (st' := [(0, 0)]) rfl ?_
  exact jEv.retZ (show jfI 257 28 (.ireturn) 1 [] = true by decide +kernel) (by decide +kernel) (by decide) (by cases H; exact HY)
set_option maxRecDepth 20000 in
noncomputable def M_isSegment  (h : jH) (o0 : Nat) (v1 : Int) : Option Int := (if (h o0 43) = 0 then M_isSegment_p27 h else Option.bind (M_segmentMany h o0) (fun b2 => Option.bind (M_isIn v1 0 (wr (b2 - 1))) (fun b3 => (if b3 = 0 then M_isSegment_p27 h else some 1))))
set_option maxRecDepth 20000 in
theorem t_M_isSegment {T : jT} {xs : List Int} {h : jH}  {o0 : Nat} {v1 : Int} {out : Int} (ho0 : isX12 T o0) (H : M_isSegment h o0 v1 = some out) : jEm xs 2 257 [(2, Int.ofNat o0), (0, v1)] (T, h) ((0, out), (T, h)) := by
  have hd : 1 ≤ 1 := Nat.le_refl _
  obtain ⟨y, ey⟩ : ∃ y : jV × jS, y = ((0, out), (T, h)) := ⟨_, rfl⟩
  rw [← ey]
  have HY : ykIp T h y out := ey
  refine jEm.ent (n := 2) (by decide +kernel) (Nat.le_of_ble_eq_true rfl) ?_
  show jEv xs 1 (257, 0, [(2, Int.ofNat o0), (0, v1)], []) (T, h) y
  unfold M_isSegment at H
  refine jEv.blk [(.aload_n 0, 1, [])] (by decide +kernel) (pc' := 1) (ls' := [(2, Int.ofNat o0), (0, v1)]) (st' := [(2, Int.ofNat o0)]) rfl ?_
  refine jEv.gfI (show jfI 257 1 (.getfield 340) 3 [12, 43, 0, 1, 7079] = true by decide +kernel) (isX12_L ho0) (by decide) ?_
  refine jEv.if_eq (t := 27) (show jfI 257 4 (.ifCond .eq 23) 3 [] = true by decide +kernel) rfl H (fun c1 H => ?_) (fun c1 H => ?_)
  · exact jEv.weak (a := [(3, 0), (3, 0)]) (jles.c0 (jles.c0 jles.nl)) (t_M_isSegment_p27 (T := T) (xs := xs) (y := y) hd H HY)
  · refine jEv.blk [(.iload_n 1, 1, []), (.i2l, 1, []), (.lconst 0, 1, []), (.aload_n 0, 1, [])] (by decide +kernel) (pc' := 11) (ls' := [(2, Int.ofNat o0), (0, v1)]) (st' := [(2, Int.ofNat o0), (1, 0), (1, v1)]) rfl ?_
    refine jbind H (fun b2 Hb2 H => ?_)
    refine jEv.calV (st' := [(0, b2), (1, 0), (1, v1)]) (show jfI 257 11 (.invokevirtual 360) 3 [1, 254, 0, 9096] = true by decide +kernel) rfl (Or.inl rfl) rfl (Nat.le_of_ble_eq_true rfl) (by decide +kernel) (by decide) (isX12_L ho0) ((t_M_segmentMany (T := T) (xs := xs) ho0 Hb2).mono (jKle 1 hd)) rfl ?_
    refine jEv.blk [(.iconst 1, 1, []), (.isub, 1, []), (.i2l, 1, [])] (by decide +kernel) (pc' := 17) (ls' := [(2, Int.ofNat o0), (0, v1)]) (st' := [(1, (wr (b2 - 1))), (1, 0), (1, v1)]) rfl ?_
    refine jbind H (fun b3 Hb3 H => ?_)
    refine jEv.calS (st' := [(0, b3)]) (show jfI 257 17 (.invokestatic 275) 3 [3, 213, 3, 8176] = true by decide +kernel) rfl (Or.inl rfl) rfl (Nat.le_of_ble_eq_true rfl) ((t_M_isIn (T := T) (xs := xs)  Hb3).mono (jKle 1 hd)) rfl ?_
    refine jEv.if_eq (t := 27) (show jfI 257 20 (.ifCond .eq 7) 3 [] = true by decide +kernel) rfl H (fun c4 H => ?_) (fun c4 H => ?_)
    · exact jEv.weak (a := [(3, 0), (3, 0)]) (jles.c0 (jles.c0 jles.nl)) (t_M_isSegment_p27 (T := T) (xs := xs) (y := y) hd H HY)
    · refine jEv.blk [(.iconst 1, 1, [])] (by decide +kernel) (pc' := 24) (ls' := [(2, Int.ofNat o0), (0, v1)]) (st' := [(0, 1)]) rfl ?_
      refine jEv.goto (t := 28) (show jfI 257 24 (.goto 4) 3 [] = true by decide +kernel) rfl ?_
      exact jEv.retZ (show jfI 257 28 (.ireturn) 1 [] = true by decide +kernel) (by decide +kernel) (by decide) (by cases H; exact HY)
set_option maxRecDepth 20000 in
noncomputable def M_diskAt  (h : jH) (o0 : Nat) (v1 : Int) (v2 : Int) : Option Int := (if (0 : Int) ≤ (wr ((wr (708 + (wr (128 * v1)))) + v2)) ∧ ((wr ((wr (708 + (wr (128 * v1)))) + v2)) : Int).toNat < 2365 then some (h (o0 + 33) ((wr ((wr (708 + (wr (128 * v1)))) + v2)) : Int).toNat) else none)
set_option maxRecDepth 20000 in
theorem t_M_diskAt {T : jT} {xs : List Int} {h : jH}  {o0 : Nat} {v1 : Int} {v2 : Int} {out : Int} (ho0 : isX12 T o0) (H : M_diskAt h o0 v1 v2 = some out) : jEm xs 1 259 [(2, Int.ofNat o0), (0, v1), (0, v2)] (T, h) ((0, out), (T, h)) := by
  have hd : 0 ≤ 0 := Nat.le_refl _
  obtain ⟨y, ey⟩ : ∃ y : jV × jS, y = ((0, out), (T, h)) := ⟨_, rfl⟩
  rw [← ey]
  have HY : ykIp T h y out := ey
  refine jEm.ent (n := 3) (by decide +kernel) (Nat.le_of_ble_eq_true rfl) ?_
  show jEv xs 0 (259, 0, [(2, Int.ofNat o0), (0, v1), (0, v2)], []) (T, h) y
  unfold M_diskAt at H
  refine jEv.blk [(.aload_n 0, 1, [])] (by decide +kernel) (pc' := 1) (ls' := [(2, Int.ofNat o0), (0, v1), (0, v2)]) (st' := [(2, Int.ofNat o0)]) rfl ?_
  refine jEv.gfR (o' := (o0 + 33)) (show jfI 259 1 (.getfield 111) 3 [12, 45, 5, 0, 7081] = true by decide +kernel) (isX12_L ho0) (by decide) (isX12_r45 ho0) ?_
  refine jEv.blk [(.sipush 708, 3, []), (.sipush 128, 3, []), (.iload_n 1, 1, []), (.imul, 1, []), (.iadd, 1, []), (.iload_n 2, 1, []), (.iadd, 1, [])] (by decide +kernel) (pc' := 15) (ls' := [(2, Int.ofNat o0), (0, v1), (0, v2)]) (st' := [(0, (wr ((wr (708 + (wr (128 * v1)))) + v2))), (2, Int.ofNat (o0 + 33))]) rfl ?_
  refine jEv.ald (Or.inl ⟨rfl, rfl, rfl⟩) (show jfI 259 15 (.iaload) 1 [] = true by decide +kernel) (isX12_a45 ho0) H (fun c1 H => ?_)
  exact jEv.retI (show jfI 259 16 (.ireturn) 1 [] = true by decide +kernel) (by decide +kernel) (by cases H; exact HY)
set_option maxRecDepth 20000 in
noncomputable def M_serialOf  (h : jH) (o0 : Nat) (v1 : Int) : Option Int := Option.bind (M_diskAt h o0 v1 0) (fun b1 => Option.bind (M_diskAt h o0 v1 1) (fun b2 => some (wr ((wr (256 * b1)) + b2))))
set_option maxRecDepth 20000 in
theorem t_M_serialOf {T : jT} {xs : List Int} {h : jH}  {o0 : Nat} {v1 : Int} {out : Int} (ho0 : isX12 T o0) (H : M_serialOf h o0 v1 = some out) : jEm xs 2 260 [(2, Int.ofNat o0), (0, v1)] (T, h) ((0, out), (T, h)) := by
  have hd : 1 ≤ 1 := Nat.le_refl _
  obtain ⟨y, ey⟩ : ∃ y : jV × jS, y = ((0, out), (T, h)) := ⟨_, rfl⟩
  rw [← ey]
  have HY : ykIp T h y out := ey
  refine jEm.ent (n := 2) (by decide +kernel) (Nat.le_of_ble_eq_true rfl) ?_
  show jEv xs 1 (260, 0, [(2, Int.ofNat o0), (0, v1)], []) (T, h) y
  unfold M_serialOf at H
  refine jEv.blk [(.sipush 256, 3, []), (.aload_n 0, 1, []), (.iload_n 1, 1, []), (.iconst 0, 1, [])] (by decide +kernel) (pc' := 6) (ls' := [(2, Int.ofNat o0), (0, v1)]) (st' := [(0, 0), (0, v1), (2, Int.ofNat o0), (0, 256)]) rfl ?_
  refine jbind H (fun b1 Hb1 H => ?_)
  refine jEv.calV (st' := [(0, b1), (0, 256)]) (show jfI 260 6 (.invokevirtual 494) 3 [1, 259, 2, 9116] = true by decide +kernel) rfl (Or.inl rfl) rfl (Nat.le_of_ble_eq_true rfl) (by decide +kernel) (by decide) (isX12_L ho0) ((t_M_diskAt (T := T) (xs := xs) ho0 Hb1).mono (jKle 1 hd)) rfl ?_
  refine jEv.blk [(.imul, 1, []), (.aload_n 0, 1, []), (.iload_n 1, 1, []), (.iconst 1, 1, [])] (by decide +kernel) (pc' := 13) (ls' := [(2, Int.ofNat o0), (0, v1)]) (st' := [(0, 1), (0, v1), (2, Int.ofNat o0), (0, (wr (256 * b1)))]) rfl ?_
  refine jbind H (fun b2 Hb2 H => ?_)
  refine jEv.calV (st' := [(0, b2), (0, (wr (256 * b1)))]) (show jfI 260 13 (.invokevirtual 494) 3 [1, 259, 2, 9116] = true by decide +kernel) rfl (Or.inl rfl) rfl (Nat.le_of_ble_eq_true rfl) (by decide +kernel) (by decide) (isX12_L ho0) ((t_M_diskAt (T := T) (xs := xs) ho0 Hb2).mono (jKle 1 hd)) rfl ?_
  refine jEv.blk [(.iadd, 1, [])] (by decide +kernel) (pc' := 17) (ls' := [(2, Int.ofNat o0), (0, v1)]) (st' := [(0, (wr ((wr (256 * b1)) + b2)))]) rfl ?_
  exact jEv.retI (show jfI 260 17 (.ireturn) 1 [] = true by decide +kernel) (by decide +kernel) (by cases H; exact HY)
def yk_M_isHead_L5 (T : jT) (xs : List Int) (d : Nat) (y : jV × jS) (h : jH)  (o0 : Nat) (v1 : Int) : ((Int × Int) ⊕ Int) → Prop
  | .inl (v2, v3) => jEv xs d (258, 5, [(2, Int.ofNat o0), (0, v1), (0, v2), (0, v3)], []) (T, h) y
  | .inr o => ykIp T h y o
set_option maxRecDepth 20000 in
noncomputable def M_isHead_p49  (h : jH)  : Option Int := some 0
set_option maxRecDepth 20000 in
theorem t_M_isHead_p49 {T : jT} {xs : List Int} {d : Nat} {y : jV × jS} (hd : 2 ≤ d) {h : jH}   {out : Int}  (H : M_isHead_p49 h = some out) (HY : ykIp T h y out) : jEv xs d (258, 49, [(3, 0), (3, 0), (3, 0), (3, 0)], []) (T, h) y := by
  unfold M_isHead_p49 at H
  refine jEv.blk [(.iconst 0, 1, [])] (by decide +kernel) (pc' := 50) (ls' := [(3, 0), (3, 0), (3, 0), (3, 0)]) (st' := [(0, 0)]) rfl ?_
  exact jEv.retZ (show jfI 258 50 (.ireturn) 1 [] = true by decide +kernel) (by decide +kernel) (by decide) (by cases H; exact HY)
set_option maxRecDepth 20000 in
noncomputable def M_isHead_B5  (h : jH) (o0 : Nat) (v1 : Int) (v2 : Int) (v3 : Int) : Option ((Int × Int) ⊕ Int) := (if v3 < 4 then Option.bind (M_diskAt h o0 v1 v3) (fun b2 => Option.bind (M_checkBy v2 b2) (fun b3 => some (.inl (b3, (wr (v3 + 1)))))) else Option.map Sum.inr (Option.bind (M_diskAt h o0 v1 4) (fun b4 => (if v2 = b4 then Option.bind (M_serialOf h o0 v1) (fun b6 => (if b6 = 0 then M_isHead_p49 h else some 1)) else M_isHead_p49 h))))
noncomputable def M_isHead_L5  (h : jH) (o0 : Nat) (v1 : Int) (v2 : Int) (v3 : Int) : Option Int := jloop (fun s : (Int × Int) => M_isHead_B5 h o0 v1 s.1 s.2) (v2, v3)
set_option maxRecDepth 20000 in
theorem t_M_isHead_B5 {T : jT} {xs : List Int} {d : Nat} {y : jV × jS} (hd : 2 ≤ d) {h : jH}  {o0 : Nat} {v1 : Int} {v2 : Int} {v3 : Int} {out : ((Int × Int) ⊕ Int)} (ho0 : isX12 T o0) (H : M_isHead_B5 h o0 v1 v2 v3 = some out) (HY : yk_M_isHead_L5 T xs d y h o0 v1 out) : jEv xs d (258, 5, [(2, Int.ofNat o0), (0, v1), (0, v2), (0, v3)], []) (T, h) y := by
  unfold M_isHead_B5 at H
  refine jEv.blk [(.iload_n 3, 1, []), (.iconst 4, 1, [])] (by decide +kernel) (pc' := 7) (ls' := [(2, Int.ofNat o0), (0, v1), (0, v2), (0, v3)]) (st' := [(0, 4), (0, v3)]) rfl ?_
  refine jEv.ic_ge (t := 27) (show jfI 258 7 (.if_icmp .ge 20) 3 [] = true by decide +kernel) rfl H (fun c1 H => ?_) (fun c1 H => ?_)
  · refine jEv.blk [(.iload_n 2, 1, []), (.aload_n 0, 1, []), (.iload_n 1, 1, []), (.iload_n 3, 1, [])] (by decide +kernel) (pc' := 14) (ls' := [(2, Int.ofNat o0), (0, v1), (0, v2), (0, v3)]) (st' := [(0, v3), (0, v1), (2, Int.ofNat o0), (0, v2)]) rfl ?_
    refine jbind H (fun b2 Hb2 H => ?_)
    refine jEv.calV (st' := [(0, b2), (0, v2)]) (show jfI 258 14 (.invokevirtual 494) 3 [1, 259, 2, 9116] = true by decide +kernel) rfl (Or.inl rfl) rfl (Nat.le_of_ble_eq_true rfl) (by decide +kernel) (by decide) (isX12_L ho0) ((t_M_diskAt (T := T) (xs := xs) ho0 Hb2).mono (jKle 1 hd)) rfl ?_
    refine jbind H (fun b3 Hb3 H => ?_)
    refine jEv.calS (st' := [(0, b3)]) (show jfI 258 17 (.invokestatic 384) 3 [3, 245, 2, 9061] = true by decide +kernel) rfl (Or.inl rfl) rfl (Nat.le_of_ble_eq_true rfl) ((t_M_checkBy (T := T) (xs := xs)  Hb3).mono (jKle 1 hd)) rfl ?_
    refine jEv.blk [(.istore_n 2, 1, []), (.iinc 3 1, 3, [])] (by decide +kernel) (pc' := 24) (ls' := [(2, Int.ofNat o0), (0, v1), (0, b3), (0, (wr (v3 + 1)))]) (st' := []) rfl ?_
    refine jEv.goto (t := 5) (show jfI 258 24 (.goto (-19)) 3 [] = true by decide +kernel) rfl ?_
    exact (by cases H; exact HY)
  · refine jmapr H HY (fun out H (HY : ykIp T h y out) => ?_)
    refine jEv.blk [(.iload_n 2, 1, []), (.aload_n 0, 1, []), (.iload_n 1, 1, []), (.iconst 4, 1, [])] (by decide +kernel) (pc' := 31) (ls' := [(2, Int.ofNat o0), (0, v1), (0, v2), (0, v3)]) (st' := [(0, 4), (0, v1), (2, Int.ofNat o0), (0, v2)]) rfl ?_
    refine jbind H (fun b4 Hb4 H => ?_)
    refine jEv.calV (st' := [(0, b4), (0, v2)]) (show jfI 258 31 (.invokevirtual 494) 3 [1, 259, 2, 9116] = true by decide +kernel) rfl (Or.inl rfl) rfl (Nat.le_of_ble_eq_true rfl) (by decide +kernel) (by decide) (isX12_L ho0) ((t_M_diskAt (T := T) (xs := xs) ho0 Hb4).mono (jKle 1 hd)) rfl ?_
    refine jEv.ic_ne (t := 49) (show jfI 258 34 (.if_icmp .ne 15) 3 [] = true by decide +kernel) rfl H (fun c5 H => ?_) (fun c5 H => ?_)
    · refine jEv.blk [(.aload_n 0, 1, []), (.iload_n 1, 1, [])] (by decide +kernel) (pc' := 39) (ls' := [(2, Int.ofNat o0), (0, v1), (0, v2), (0, v3)]) (st' := [(0, v1), (2, Int.ofNat o0)]) rfl ?_
      refine jbind H (fun b6 Hb6 H => ?_)
      refine jEv.calV (st' := [(0, b6)]) (show jfI 258 39 (.invokevirtual 497) 3 [1, 260, 1, 9120] = true by decide +kernel) rfl (Or.inl rfl) rfl (Nat.le_of_ble_eq_true rfl) (by decide +kernel) (by decide) (isX12_L ho0) ((t_M_serialOf (T := T) (xs := xs) ho0 Hb6).mono (jKle 2 hd)) rfl ?_
      refine jEv.if_eq (t := 49) (show jfI 258 42 (.ifCond .eq 7) 3 [] = true by decide +kernel) rfl H (fun c7 H => ?_) (fun c7 H => ?_)
      · exact jEv.weak (a := [(3, 0), (3, 0), (3, 0), (3, 0)]) (jles.c0 (jles.c0 (jles.c0 (jles.c0 jles.nl)))) (t_M_isHead_p49 (T := T) (xs := xs) (y := y) hd H HY)
      · refine jEv.blk [(.iconst 1, 1, [])] (by decide +kernel) (pc' := 46) (ls' := [(2, Int.ofNat o0), (0, v1), (0, v2), (0, v3)]) (st' := [(0, 1)]) rfl ?_
        refine jEv.goto (t := 50) (show jfI 258 46 (.goto 4) 3 [] = true by decide +kernel) rfl ?_
        exact jEv.retZ (show jfI 258 50 (.ireturn) 1 [] = true by decide +kernel) (by decide +kernel) (by decide) (by cases H; exact HY)
    · exact jEv.weak (a := [(3, 0), (3, 0), (3, 0), (3, 0)]) (jles.c0 (jles.c0 (jles.c0 (jles.c0 jles.nl)))) (t_M_isHead_p49 (T := T) (xs := xs) (y := y) hd H HY)
theorem t_M_isHead_L5 {T : jT} {xs : List Int} {d : Nat} {y : jV × jS} (hd : 2 ≤ d) {h : jH}  {o0 : Nat} {v1 : Int} {v2 : Int} {v3 : Int} {out : Int} (ho0 : isX12 T o0) (H : M_isHead_L5 h o0 v1 v2 v3 = some out) (HY : ykIp T h y out) : jEv xs d (258, 5, [(2, Int.ofNat o0), (0, v1), (0, v2), (0, v3)], []) (T, h) y :=
  jloop_sound (G := fun s : (Int × Int) => jEv xs d (258, 5, [(2, Int.ofNat o0), (0, v1), (0, s.1), (0, s.2)], []) (T, h) y) (K := yk_M_isHead_L5 T xs d y h o0 v1) (fun s out H HY => t_M_isHead_B5 hd ho0 H HY) (fun s' hg => hg) (s := (v2, v3)) H HY
set_option maxRecDepth 20000 in
noncomputable def M_isHead  (h : jH) (o0 : Nat) (v1 : Int) : Option Int := M_isHead_L5 h o0 v1 7 0
set_option maxRecDepth 20000 in
theorem t_M_isHead {T : jT} {xs : List Int} {h : jH}  {o0 : Nat} {v1 : Int} {out : Int} (ho0 : isX12 T o0) (H : M_isHead h o0 v1 = some out) : jEm xs 3 258 [(2, Int.ofNat o0), (0, v1)] (T, h) ((0, out), (T, h)) := by
  have hd : 2 ≤ 2 := Nat.le_refl _
  obtain ⟨y, ey⟩ : ∃ y : jV × jS, y = ((0, out), (T, h)) := ⟨_, rfl⟩
  rw [← ey]
  have HY : ykIp T h y out := ey
  refine jEm.ent (n := 4) (by decide +kernel) (Nat.le_of_ble_eq_true rfl) ?_
  show jEv xs 2 (258, 0, [(2, Int.ofNat o0), (0, v1), (3, 0), (3, 0)], []) (T, h) y
  unfold M_isHead at H
  refine jEv.blk [(.bipush 7, 2, []), (.istore_n 2, 1, []), (.iconst 0, 1, []), (.istore_n 3, 1, [])] (by decide +kernel) (pc' := 5) (ls' := [(2, Int.ofNat o0), (0, v1), (0, 7), (0, 0)]) (st' := []) rfl ?_
  exact t_M_isHead_L5 (T := T) (xs := xs) (y := y) hd ho0 H HY
set_option maxRecDepth 20000 in
noncomputable def M_firstOf  (h : jH) (o0 : Nat) (v1 : Int) : Option Int := Option.bind (M_diskAt h o0 v1 2) (fun b1 => Option.bind (M_diskAt h o0 v1 3) (fun b2 => some (wr ((wr (256 * b1)) + b2))))
set_option maxRecDepth 20000 in
theorem t_M_firstOf {T : jT} {xs : List Int} {h : jH}  {o0 : Nat} {v1 : Int} {out : Int} (ho0 : isX12 T o0) (H : M_firstOf h o0 v1 = some out) : jEm xs 2 261 [(2, Int.ofNat o0), (0, v1)] (T, h) ((0, out), (T, h)) := by
  have hd : 1 ≤ 1 := Nat.le_refl _
  obtain ⟨y, ey⟩ : ∃ y : jV × jS, y = ((0, out), (T, h)) := ⟨_, rfl⟩
  rw [← ey]
  have HY : ykIp T h y out := ey
  refine jEm.ent (n := 2) (by decide +kernel) (Nat.le_of_ble_eq_true rfl) ?_
  show jEv xs 1 (261, 0, [(2, Int.ofNat o0), (0, v1)], []) (T, h) y
  unfold M_firstOf at H
  refine jEv.blk [(.sipush 256, 3, []), (.aload_n 0, 1, []), (.iload_n 1, 1, []), (.iconst 2, 1, [])] (by decide +kernel) (pc' := 6) (ls' := [(2, Int.ofNat o0), (0, v1)]) (st' := [(0, 2), (0, v1), (2, Int.ofNat o0), (0, 256)]) rfl ?_
  refine jbind H (fun b1 Hb1 H => ?_)
  refine jEv.calV (st' := [(0, b1), (0, 256)]) (show jfI 261 6 (.invokevirtual 494) 3 [1, 259, 2, 9116] = true by decide +kernel) rfl (Or.inl rfl) rfl (Nat.le_of_ble_eq_true rfl) (by decide +kernel) (by decide) (isX12_L ho0) ((t_M_diskAt (T := T) (xs := xs) ho0 Hb1).mono (jKle 1 hd)) rfl ?_
  refine jEv.blk [(.imul, 1, []), (.aload_n 0, 1, []), (.iload_n 1, 1, []), (.iconst 3, 1, [])] (by decide +kernel) (pc' := 13) (ls' := [(2, Int.ofNat o0), (0, v1)]) (st' := [(0, 3), (0, v1), (2, Int.ofNat o0), (0, (wr (256 * b1)))]) rfl ?_
  refine jbind H (fun b2 Hb2 H => ?_)
  refine jEv.calV (st' := [(0, b2), (0, (wr (256 * b1)))]) (show jfI 261 13 (.invokevirtual 494) 3 [1, 259, 2, 9116] = true by decide +kernel) rfl (Or.inl rfl) rfl (Nat.le_of_ble_eq_true rfl) (by decide +kernel) (by decide) (isX12_L ho0) ((t_M_diskAt (T := T) (xs := xs) ho0 Hb2).mono (jKle 1 hd)) rfl ?_
  refine jEv.blk [(.iadd, 1, [])] (by decide +kernel) (pc' := 17) (ls' := [(2, Int.ofNat o0), (0, v1)]) (st' := [(0, (wr ((wr (256 * b1)) + b2)))]) rfl ?_
  exact jEv.retI (show jfI 261 17 (.ireturn) 1 [] = true by decide +kernel) (by decide +kernel) (by cases H; exact HY)
def yk_M_isOnWay_L2 (T : jT) (xs : List Int) (d : Nat) (y : jV × jS) (h : jH)  (o0 : Nat) (v1 : Int) : (Int ⊕ Int) → Prop
  | .inl v2 => jEv xs d (263, 2, [(2, Int.ofNat o0), (0, v1), (0, v2)], []) (T, h) y
  | .inr o => ykIp T h y o
set_option maxRecDepth 20000 in
noncomputable def M_isOnWay_B2  (h : jH) (o0 : Nat) (v1 : Int) (v2 : Int) : Option (Int ⊕ Int) := (if (0 : Int) ≤ 4 ∧ (4 : Int).toNat < 2365 then (if v2 < (h (o0 + 33) (4 : Int).toNat) then (if (0 : Int) ≤ (wr (1220 + v2)) ∧ ((wr (1220 + v2)) : Int).toNat < 2365 then (if (wr (Int.tdiv (h (o0 + 33) ((wr (1220 + v2)) : Int).toNat) 128)) = v1 then Option.map Sum.inr (some 1) else some (.inl ((wr (v2 + 1))))) else none) else Option.map Sum.inr (some 0)) else none)
noncomputable def M_isOnWay_L2  (h : jH) (o0 : Nat) (v1 : Int) (v2 : Int) : Option Int := jloop (fun s : Int => M_isOnWay_B2 h o0 v1 s) (v2)
set_option maxRecDepth 20000 in
theorem t_M_isOnWay_B2 {T : jT} {xs : List Int} {d : Nat} {y : jV × jS} (hd : 0 ≤ d) {h : jH}  {o0 : Nat} {v1 : Int} {v2 : Int} {out : (Int ⊕ Int)} (ho0 : isX12 T o0) (H : M_isOnWay_B2 h o0 v1 v2 = some out) (HY : yk_M_isOnWay_L2 T xs d y h o0 v1 out) : jEv xs d (263, 2, [(2, Int.ofNat o0), (0, v1), (0, v2)], []) (T, h) y := by
  unfold M_isOnWay_B2 at H
  refine jEv.blk [(.iload_n 2, 1, []), (.aload_n 0, 1, [])] (by decide +kernel) (pc' := 4) (ls' := [(2, Int.ofNat o0), (0, v1), (0, v2)]) (st' := [(2, Int.ofNat o0), (0, v2)]) rfl ?_
  refine jEv.gfR (o' := (o0 + 33)) (show jfI 263 4 (.getfield 111) 3 [12, 45, 5, 0, 7081] = true by decide +kernel) (isX12_L ho0) (by decide) (isX12_r45 ho0) ?_
  refine jEv.blk [(.iconst 4, 1, [])] (by decide +kernel) (pc' := 8) (ls' := [(2, Int.ofNat o0), (0, v1), (0, v2)]) (st' := [(0, 4), (2, Int.ofNat (o0 + 33)), (0, v2)]) rfl ?_
  refine jEv.ald (Or.inl ⟨rfl, rfl, rfl⟩) (show jfI 263 8 (.iaload) 1 [] = true by decide +kernel) (isX12_a45 ho0) H (fun c1 H => ?_)
  refine jEv.ic_ge (t := 38) (show jfI 263 9 (.if_icmp .ge 29) 3 [] = true by decide +kernel) rfl H (fun c2 H => ?_) (fun c2 H => ?_)
  · refine jEv.blk [(.aload_n 0, 1, [])] (by decide +kernel) (pc' := 13) (ls' := [(2, Int.ofNat o0), (0, v1), (0, v2)]) (st' := [(2, Int.ofNat o0)]) rfl ?_
    refine jEv.gfR (o' := (o0 + 33)) (show jfI 263 13 (.getfield 111) 3 [12, 45, 5, 0, 7081] = true by decide +kernel) (isX12_L ho0) (by decide) (isX12_r45 ho0) ?_
    refine jEv.blk [(.sipush 1220, 3, []), (.iload_n 2, 1, []), (.iadd, 1, [])] (by decide +kernel) (pc' := 21) (ls' := [(2, Int.ofNat o0), (0, v1), (0, v2)]) (st' := [(0, (wr (1220 + v2))), (2, Int.ofNat (o0 + 33))]) rfl ?_
    refine jEv.ald (Or.inl ⟨rfl, rfl, rfl⟩) (show jfI 263 21 (.iaload) 1 [] = true by decide +kernel) (isX12_a45 ho0) H (fun c3 H => ?_)
    refine jEv.blk [(.sipush 128, 3, [])] (by decide +kernel) (pc' := 25) (ls' := [(2, Int.ofNat o0), (0, v1), (0, v2)]) (st' := [(0, 128), (0, (h (o0 + 33) ((wr (1220 + v2)) : Int).toNat))]) rfl ?_
    refine jEv.idiv (show jfI 263 25 (.idiv) 1 [] = true by decide +kernel) (by decide) ?_
    refine jEv.blk [(.iload_n 1, 1, [])] (by decide +kernel) (pc' := 27) (ls' := [(2, Int.ofNat o0), (0, v1), (0, v2)]) (st' := [(0, v1), (0, (wr (Int.tdiv (h (o0 + 33) ((wr (1220 + v2)) : Int).toNat) 128)))]) rfl ?_
    refine jEv.ic_ne (t := 32) (show jfI 263 27 (.if_icmp .ne 5) 3 [] = true by decide +kernel) rfl H (fun c4 H => ?_) (fun c4 H => ?_)
    · refine jmapr H HY (fun out H (HY : ykIp T h y out) => ?_)
      refine jEv.blk [(.iconst 1, 1, [])] (by decide +kernel) (pc' := 31) (ls' := [(2, Int.ofNat o0), (0, v1), (0, v2)]) (st' := [(0, 1)]) rfl ?_
      exact jEv.retZ (show jfI 263 31 (.ireturn) 1 [] = true by decide +kernel) (by decide +kernel) (by decide) (by cases H; exact HY)
    · refine jEv.blk [(.iinc 2 1, 3, [])] (by decide +kernel) (pc' := 35) (ls' := [(2, Int.ofNat o0), (0, v1), (0, (wr (v2 + 1)))]) (st' := []) rfl ?_
      refine jEv.goto (t := 2) (show jfI 263 35 (.goto (-33)) 3 [] = true by decide +kernel) rfl ?_
      exact (by cases H; exact HY)
  · refine jmapr H HY (fun out H (HY : ykIp T h y out) => ?_)
    refine jEv.blk [(.iconst 0, 1, [])] (by decide +kernel) (pc' := 39) (ls' := [(2, Int.ofNat o0), (0, v1), (0, v2)]) (st' := [(0, 0)]) rfl ?_
    exact jEv.retZ (show jfI 263 39 (.ireturn) 1 [] = true by decide +kernel) (by decide +kernel) (by decide) (by cases H; exact HY)
theorem t_M_isOnWay_L2 {T : jT} {xs : List Int} {d : Nat} {y : jV × jS} (hd : 0 ≤ d) {h : jH}  {o0 : Nat} {v1 : Int} {v2 : Int} {out : Int} (ho0 : isX12 T o0) (H : M_isOnWay_L2 h o0 v1 v2 = some out) (HY : ykIp T h y out) : jEv xs d (263, 2, [(2, Int.ofNat o0), (0, v1), (0, v2)], []) (T, h) y :=
  jloop_sound (G := fun s : Int => jEv xs d (263, 2, [(2, Int.ofNat o0), (0, v1), (0, s)], []) (T, h) y) (K := yk_M_isOnWay_L2 T xs d y h o0 v1) (fun s out H HY => t_M_isOnWay_B2 hd ho0 H HY) (fun s' hg => hg) (s := (v2)) H HY
set_option maxRecDepth 20000 in
noncomputable def M_isOnWay  (h : jH) (o0 : Nat) (v1 : Int) : Option Int := M_isOnWay_L2 h o0 v1 0
set_option maxRecDepth 20000 in
theorem t_M_isOnWay {T : jT} {xs : List Int} {h : jH}  {o0 : Nat} {v1 : Int} {out : Int} (ho0 : isX12 T o0) (H : M_isOnWay h o0 v1 = some out) : jEm xs 1 263 [(2, Int.ofNat o0), (0, v1)] (T, h) ((0, out), (T, h)) := by
  have hd : 0 ≤ 0 := Nat.le_refl _
  obtain ⟨y, ey⟩ : ∃ y : jV × jS, y = ((0, out), (T, h)) := ⟨_, rfl⟩
  rw [← ey]
  have HY : ykIp T h y out := ey
  refine jEm.ent (n := 3) (by decide +kernel) (Nat.le_of_ble_eq_true rfl) ?_
  show jEv xs 0 (263, 0, [(2, Int.ofNat o0), (0, v1), (3, 0)], []) (T, h) y
  unfold M_isOnWay at H
  refine jEv.blk [(.iconst 0, 1, []), (.istore_n 2, 1, [])] (by decide +kernel) (pc' := 2) (ls' := [(2, Int.ofNat o0), (0, v1), (0, 0)]) (st' := []) rfl ?_
  exact t_M_isOnWay_L2 (T := T) (xs := xs) (y := y) hd ho0 H HY
set_option maxRecDepth 20000 in
noncomputable def M_isFree_p55  (h : jH)  : Option Int := some 0
set_option maxRecDepth 20000 in
theorem t_M_isFree_p55 {T : jT} {xs : List Int} {d : Nat} {y : jV × jS} (hd : 1 ≤ d) {h : jH}   {out : Int}  (H : M_isFree_p55 h = some out) (HY : ykIp T h y out) : jEv xs d (262, 55, [(3, 0), (3, 0)], []) (T, h) y := by
  unfold M_isFree_p55 at H
  refine jEv.blk [(.iconst 0, 1, [])] (by decide +kernel) (pc' := 56) (ls' := [(3, 0), (3, 0)]) (st' := [(0, 0)]) rfl ?_
  exact jEv.retZ (show jfI 262 56 (.ireturn) 1 [] = true by decide +kernel) (by decide +kernel) (by decide) (by cases H; exact HY)
set_option maxRecDepth 20000 in
noncomputable def M_isFree  (h : jH) (o0 : Nat) (v1 : Int) : Option Int := (if (0 : Int) ≤ 5 ∧ (5 : Int).toNat < 2365 then (if (h (o0 + 33) (5 : Int).toNat) = v1 then M_isFree_p55 h else (if (0 : Int) ≤ 13 ∧ (13 : Int).toNat < 2365 then (if (h (o0 + 33) (13 : Int).toNat) = (wr (v1 + 1)) then M_isFree_p55 h else Option.bind (M_isOnWay h o0 v1) (fun b5 => (if b5 = 0 then (if (0 : Int) ≤ (wr (192 + v1)) ∧ ((wr (192 + v1)) : Int).toNat < 2365 then (if (0 : Int) ≤ 9 ∧ (9 : Int).toNat < 2365 then (if (h (o0 + 33) ((wr (192 + v1)) : Int).toNat) < (h (o0 + 33) (9 : Int).toNat) then some 1 else M_isFree_p55 h) else none) else none) else M_isFree_p55 h))) else none)) else none)
set_option maxRecDepth 20000 in
theorem t_M_isFree {T : jT} {xs : List Int} {h : jH}  {o0 : Nat} {v1 : Int} {out : Int} (ho0 : isX12 T o0) (H : M_isFree h o0 v1 = some out) : jEm xs 2 262 [(2, Int.ofNat o0), (0, v1)] (T, h) ((0, out), (T, h)) := by
  have hd : 1 ≤ 1 := Nat.le_refl _
  obtain ⟨y, ey⟩ : ∃ y : jV × jS, y = ((0, out), (T, h)) := ⟨_, rfl⟩
  rw [← ey]
  have HY : ykIp T h y out := ey
  refine jEm.ent (n := 2) (by decide +kernel) (Nat.le_of_ble_eq_true rfl) ?_
  show jEv xs 1 (262, 0, [(2, Int.ofNat o0), (0, v1)], []) (T, h) y
  unfold M_isFree at H
  refine jEv.blk [(.aload_n 0, 1, [])] (by decide +kernel) (pc' := 1) (ls' := [(2, Int.ofNat o0), (0, v1)]) (st' := [(2, Int.ofNat o0)]) rfl ?_
  refine jEv.gfR (o' := (o0 + 33)) (show jfI 262 1 (.getfield 111) 3 [12, 45, 5, 0, 7081] = true by decide +kernel) (isX12_L ho0) (by decide) (isX12_r45 ho0) ?_
  refine jEv.blk [(.iconst 5, 1, [])] (by decide +kernel) (pc' := 5) (ls' := [(2, Int.ofNat o0), (0, v1)]) (st' := [(0, 5), (2, Int.ofNat (o0 + 33))]) rfl ?_
  refine jEv.ald (Or.inl ⟨rfl, rfl, rfl⟩) (show jfI 262 5 (.iaload) 1 [] = true by decide +kernel) (isX12_a45 ho0) H (fun c1 H => ?_)
  refine jEv.blk [(.iload_n 1, 1, [])] (by decide +kernel) (pc' := 7) (ls' := [(2, Int.ofNat o0), (0, v1)]) (st' := [(0, v1), (0, (h (o0 + 33) (5 : Int).toNat))]) rfl ?_
  refine jEv.ic_eq (t := 55) (show jfI 262 7 (.if_icmp .eq 48) 3 [] = true by decide +kernel) rfl H (fun c2 H => ?_) (fun c2 H => ?_)
  · exact jEv.weak (a := [(3, 0), (3, 0)]) (jles.c0 (jles.c0 jles.nl)) (t_M_isFree_p55 (T := T) (xs := xs) (y := y) hd H HY)
  · refine jEv.blk [(.aload_n 0, 1, [])] (by decide +kernel) (pc' := 11) (ls' := [(2, Int.ofNat o0), (0, v1)]) (st' := [(2, Int.ofNat o0)]) rfl ?_
    refine jEv.gfR (o' := (o0 + 33)) (show jfI 262 11 (.getfield 111) 3 [12, 45, 5, 0, 7081] = true by decide +kernel) (isX12_L ho0) (by decide) (isX12_r45 ho0) ?_
    refine jEv.blk [(.bipush 13, 2, [])] (by decide +kernel) (pc' := 16) (ls' := [(2, Int.ofNat o0), (0, v1)]) (st' := [(0, 13), (2, Int.ofNat (o0 + 33))]) rfl ?_
    refine jEv.ald (Or.inl ⟨rfl, rfl, rfl⟩) (show jfI 262 16 (.iaload) 1 [] = true by decide +kernel) (isX12_a45 ho0) H (fun c3 H => ?_)
    refine jEv.blk [(.iload_n 1, 1, []), (.iconst 1, 1, []), (.iadd, 1, [])] (by decide +kernel) (pc' := 20) (ls' := [(2, Int.ofNat o0), (0, v1)]) (st' := [(0, (wr (v1 + 1))), (0, (h (o0 + 33) (13 : Int).toNat))]) rfl ?_
    refine jEv.ic_eq (t := 55) (show jfI 262 20 (.if_icmp .eq 35) 3 [] = true by decide +kernel) rfl H (fun c4 H => ?_) (fun c4 H => ?_)
    · exact jEv.weak (a := [(3, 0), (3, 0)]) (jles.c0 (jles.c0 jles.nl)) (t_M_isFree_p55 (T := T) (xs := xs) (y := y) hd H HY)
    · refine jEv.blk [(.aload_n 0, 1, []), (.iload_n 1, 1, [])] (by decide +kernel) (pc' := 25) (ls' := [(2, Int.ofNat o0), (0, v1)]) (st' := [(0, v1), (2, Int.ofNat o0)]) rfl ?_
      refine jbind H (fun b5 Hb5 H => ?_)
      refine jEv.calV (st' := [(0, b5)]) (show jfI 262 25 (.invokevirtual 396) 3 [1, 263, 1, 9132] = true by decide +kernel) rfl (Or.inl rfl) rfl (Nat.le_of_ble_eq_true rfl) (by decide +kernel) (by decide) (isX12_L ho0) ((t_M_isOnWay (T := T) (xs := xs) ho0 Hb5).mono (jKle 1 hd)) rfl ?_
      refine jEv.if_ne (t := 55) (show jfI 262 28 (.ifCond .ne 27) 3 [] = true by decide +kernel) rfl H (fun c6 H => ?_) (fun c6 H => ?_)
      · refine jEv.blk [(.aload_n 0, 1, [])] (by decide +kernel) (pc' := 32) (ls' := [(2, Int.ofNat o0), (0, v1)]) (st' := [(2, Int.ofNat o0)]) rfl ?_
        refine jEv.gfR (o' := (o0 + 33)) (show jfI 262 32 (.getfield 111) 3 [12, 45, 5, 0, 7081] = true by decide +kernel) (isX12_L ho0) (by decide) (isX12_r45 ho0) ?_
        refine jEv.blk [(.sipush 192, 3, []), (.iload_n 1, 1, []), (.iadd, 1, [])] (by decide +kernel) (pc' := 40) (ls' := [(2, Int.ofNat o0), (0, v1)]) (st' := [(0, (wr (192 + v1))), (2, Int.ofNat (o0 + 33))]) rfl ?_
        refine jEv.ald (Or.inl ⟨rfl, rfl, rfl⟩) (show jfI 262 40 (.iaload) 1 [] = true by decide +kernel) (isX12_a45 ho0) H (fun c7 H => ?_)
        refine jEv.blk [(.aload_n 0, 1, [])] (by decide +kernel) (pc' := 42) (ls' := [(2, Int.ofNat o0), (0, v1)]) (st' := [(2, Int.ofNat o0), (0, (h (o0 + 33) ((wr (192 + v1)) : Int).toNat))]) rfl ?_
        refine jEv.gfR (o' := (o0 + 33)) (show jfI 262 42 (.getfield 111) 3 [12, 45, 5, 0, 7081] = true by decide +kernel) (isX12_L ho0) (by decide) (isX12_r45 ho0) ?_
        refine jEv.blk [(.bipush 9, 2, [])] (by decide +kernel) (pc' := 47) (ls' := [(2, Int.ofNat o0), (0, v1)]) (st' := [(0, 9), (2, Int.ofNat (o0 + 33)), (0, (h (o0 + 33) ((wr (192 + v1)) : Int).toNat))]) rfl ?_
        refine jEv.ald (Or.inl ⟨rfl, rfl, rfl⟩) (show jfI 262 47 (.iaload) 1 [] = true by decide +kernel) (isX12_a45 ho0) H (fun c8 H => ?_)
        refine jEv.ic_ge (t := 55) (show jfI 262 48 (.if_icmp .ge 7) 3 [] = true by decide +kernel) rfl H (fun c9 H => ?_) (fun c9 H => ?_)
        · refine jEv.blk [(.iconst 1, 1, [])] (by decide +kernel) (pc' := 52) (ls' := [(2, Int.ofNat o0), (0, v1)]) (st' := [(0, 1)]) rfl ?_
          refine jEv.goto (t := 56) (show jfI 262 52 (.goto 4) 3 [] = true by decide +kernel) rfl ?_
          exact jEv.retZ (show jfI 262 56 (.ireturn) 1 [] = true by decide +kernel) (by decide +kernel) (by decide) (by cases H; exact HY)
        · exact jEv.weak (a := [(3, 0), (3, 0)]) (jles.c0 (jles.c0 jles.nl)) (t_M_isFree_p55 (T := T) (xs := xs) (y := y) hd H HY)
      · exact jEv.weak (a := [(3, 0), (3, 0)]) (jles.c0 (jles.c0 jles.nl)) (t_M_isFree_p55 (T := T) (xs := xs) (y := y) hd H HY)
def yk_M_isFrame_L79 (T : jT) (xs : List Int) (d : Nat) (y : jV × jS) (h : jH)  (o0 : Nat) (v1 : Int) (v2 : Int) (v4 : Int) : ((Int × Int) ⊕ Int) → Prop
  | .inl (v5, v6) => jEv xs d (266, 79, [(2, Int.ofNat o0), (0, v1), (0, v2), (3, 0), (0, v4), (0, v5), (0, v6)], []) (T, h) y
  | .inr o => ykIp T h y o
set_option maxRecDepth 20000 in
noncomputable def M_isFrame_B79  (h : jH) (o0 : Nat) (v1 : Int) (v2 : Int) (v4 : Int) (v5 : Int) (v6 : Int) : Option ((Int × Int) ⊕ Int) := (if v6 < (wr (4 + v4)) then Option.bind (M_diskAt h o0 v1 (wr (v2 + v6))) (fun b14 => Option.bind (M_checkBy v5 b14) (fun b15 => some (.inl (b15, (wr (v6 + 1)))))) else Option.map Sum.inr (Option.bind (M_diskAt h o0 v1 v2) (fun b16 => (if v5 = b16 then some 1 else some 0))))
noncomputable def M_isFrame_L79  (h : jH) (o0 : Nat) (v1 : Int) (v2 : Int) (v4 : Int) (v5 : Int) (v6 : Int) : Option Int := jloop (fun s : (Int × Int) => M_isFrame_B79 h o0 v1 v2 v4 s.1 s.2) (v5, v6)
set_option maxRecDepth 20000 in
theorem t_M_isFrame_B79 {T : jT} {xs : List Int} {d : Nat} {y : jV × jS} (hd : 2 ≤ d) {h : jH}  {o0 : Nat} {v1 : Int} {v2 : Int} {v4 : Int} {v5 : Int} {v6 : Int} {out : ((Int × Int) ⊕ Int)} (ho0 : isX12 T o0) (H : M_isFrame_B79 h o0 v1 v2 v4 v5 v6 = some out) (HY : yk_M_isFrame_L79 T xs d y h o0 v1 v2 v4 out) : jEv xs d (266, 79, [(2, Int.ofNat o0), (0, v1), (0, v2), (3, 0), (0, v4), (0, v5), (0, v6)], []) (T, h) y := by
  unfold M_isFrame_B79 at H
  refine jEv.blk [(.iload 6, 2, []), (.iconst 4, 1, []), (.iload 4, 2, []), (.iadd, 1, [])] (by decide +kernel) (pc' := 85) (ls' := [(2, Int.ofNat o0), (0, v1), (0, v2), (3, 0), (0, v4), (0, v5), (0, v6)]) (st' := [(0, (wr (4 + v4))), (0, v6)]) rfl ?_
  refine jEv.ic_ge (t := 110) (show jfI 266 85 (.if_icmp .ge 25) 3 [] = true by decide +kernel) rfl H (fun c13 H => ?_) (fun c13 H => ?_)
  · refine jEv.blk [(.iload 5, 2, []), (.aload_n 0, 1, []), (.iload_n 1, 1, []), (.iload_n 2, 1, []), (.iload 6, 2, []), (.iadd, 1, [])] (by decide +kernel) (pc' := 96) (ls' := [(2, Int.ofNat o0), (0, v1), (0, v2), (3, 0), (0, v4), (0, v5), (0, v6)]) (st' := [(0, (wr (v2 + v6))), (0, v1), (2, Int.ofNat o0), (0, v5)]) rfl ?_
    refine jbind H (fun b14 Hb14 H => ?_)
    refine jEv.calV (st' := [(0, b14), (0, v5)]) (show jfI 266 96 (.invokevirtual 494) 3 [1, 259, 2, 9116] = true by decide +kernel) rfl (Or.inl rfl) rfl (Nat.le_of_ble_eq_true rfl) (by decide +kernel) (by decide) (isX12_L ho0) ((t_M_diskAt (T := T) (xs := xs) ho0 Hb14).mono (jKle 1 hd)) rfl ?_
    refine jbind H (fun b15 Hb15 H => ?_)
    refine jEv.calS (st' := [(0, b15)]) (show jfI 266 99 (.invokestatic 384) 3 [3, 245, 2, 9061] = true by decide +kernel) rfl (Or.inl rfl) rfl (Nat.le_of_ble_eq_true rfl) ((t_M_checkBy (T := T) (xs := xs)  Hb15).mono (jKle 1 hd)) rfl ?_
    refine jEv.blk [(.istore 5, 2, []), (.iinc 6 1, 3, [])] (by decide +kernel) (pc' := 107) (ls' := [(2, Int.ofNat o0), (0, v1), (0, v2), (3, 0), (0, v4), (0, b15), (0, (wr (v6 + 1)))]) (st' := []) rfl ?_
    refine jEv.goto (t := 79) (show jfI 266 107 (.goto (-28)) 3 [] = true by decide +kernel) rfl ?_
    exact (by cases H; exact HY)
  · refine jmapr H HY (fun out H (HY : ykIp T h y out) => ?_)
    refine jEv.blk [(.iload 5, 2, []), (.aload_n 0, 1, []), (.iload_n 1, 1, []), (.iload_n 2, 1, [])] (by decide +kernel) (pc' := 115) (ls' := [(2, Int.ofNat o0), (0, v1), (0, v2), (3, 0), (0, v4), (0, v5), (0, v6)]) (st' := [(0, v2), (0, v1), (2, Int.ofNat o0), (0, v5)]) rfl ?_
    refine jbind H (fun b16 Hb16 H => ?_)
    refine jEv.calV (st' := [(0, b16), (0, v5)]) (show jfI 266 115 (.invokevirtual 494) 3 [1, 259, 2, 9116] = true by decide +kernel) rfl (Or.inl rfl) rfl (Nat.le_of_ble_eq_true rfl) (by decide +kernel) (by decide) (isX12_L ho0) ((t_M_diskAt (T := T) (xs := xs) ho0 Hb16).mono (jKle 1 hd)) rfl ?_
    refine jEv.ic_ne (t := 125) (show jfI 266 118 (.if_icmp .ne 7) 3 [] = true by decide +kernel) rfl H (fun c17 H => ?_) (fun c17 H => ?_)
    · refine jEv.blk [(.iconst 1, 1, [])] (by decide +kernel) (pc' := 122) (ls' := [(2, Int.ofNat o0), (0, v1), (0, v2), (3, 0), (0, v4), (0, v5), (0, v6)]) (st' := [(0, 1)]) rfl ?_
      refine jEv.goto (t := 126) (show jfI 266 122 (.goto 4) 3 [] = true by decide +kernel) rfl ?_
      exact jEv.retZ (show jfI 266 126 (.ireturn) 1 [] = true by decide +kernel) (by decide +kernel) (by decide) (by cases H; exact HY)
    · refine jEv.blk [(.iconst 0, 1, [])] (by decide +kernel) (pc' := 126) (ls' := [(2, Int.ofNat o0), (0, v1), (0, v2), (3, 0), (0, v4), (0, v5), (0, v6)]) (st' := [(0, 0)]) rfl ?_
      exact jEv.retZ (show jfI 266 126 (.ireturn) 1 [] = true by decide +kernel) (by decide +kernel) (by decide) (by cases H; exact HY)
theorem t_M_isFrame_L79 {T : jT} {xs : List Int} {d : Nat} {y : jV × jS} (hd : 2 ≤ d) {h : jH}  {o0 : Nat} {v1 : Int} {v2 : Int} {v4 : Int} {v5 : Int} {v6 : Int} {out : Int} (ho0 : isX12 T o0) (H : M_isFrame_L79 h o0 v1 v2 v4 v5 v6 = some out) (HY : ykIp T h y out) : jEv xs d (266, 79, [(2, Int.ofNat o0), (0, v1), (0, v2), (3, 0), (0, v4), (0, v5), (0, v6)], []) (T, h) y :=
  jloop_sound (G := fun s : (Int × Int) => jEv xs d (266, 79, [(2, Int.ofNat o0), (0, v1), (0, v2), (3, 0), (0, v4), (0, s.1), (0, s.2)], []) (T, h) y) (K := yk_M_isFrame_L79 T xs d y h o0 v1 v2 v4) (fun s out H HY => t_M_isFrame_B79 hd ho0 H HY) (fun s' hg => hg) (s := (v5, v6)) H HY
set_option maxRecDepth 20000 in
noncomputable def M_isFrame  (h : jH) (o0 : Nat) (v1 : Int) (v2 : Int) : Option Int := Option.bind (M_blockBytes h o0) (fun b1 => Option.bind (M_blockBytes h o0) (fun b2 => (if b2 ≠ 0 then Option.bind (M_length h o0) (fun b4 => (if v2 < b4 then (if 4 < (wr (b1 - (Int.tmod v2 b2))) then Option.bind (M_diskAt h o0 v1 (wr (v2 + 2))) (fun b7 => (if b7 = 0 then some 0 else (if (wr (b1 - (Int.tmod v2 b2))) < (wr (4 + b7)) then some 0 else Option.bind (M_diskAt h o0 v1 (wr (v2 + 3))) (fun b10 => Option.bind (M_serialOf h o0 v1) (fun b11 => (if b10 = (jand b11 255) then M_isFrame_L79 h o0 v1 v2 b7 7 1 else some 0)))))) else some 0) else some 0)) else none)))
set_option maxRecDepth 20000 in
theorem t_M_isFrame {T : jT} {xs : List Int} {h : jH}  {o0 : Nat} {v1 : Int} {v2 : Int} {out : Int} (ho0 : isX12 T o0) (H : M_isFrame h o0 v1 v2 = some out) : jEm xs 3 266 [(2, Int.ofNat o0), (0, v1), (0, v2)] (T, h) ((0, out), (T, h)) := by
  have hd : 2 ≤ 2 := Nat.le_refl _
  obtain ⟨y, ey⟩ : ∃ y : jV × jS, y = ((0, out), (T, h)) := ⟨_, rfl⟩
  rw [← ey]
  have HY : ykIp T h y out := ey
  refine jEm.ent (n := 7) (by decide +kernel) (Nat.le_of_ble_eq_true rfl) ?_
  show jEv xs 2 (266, 0, [(2, Int.ofNat o0), (0, v1), (0, v2), (3, 0), (3, 0), (3, 0), (3, 0)], []) (T, h) y
  unfold M_isFrame at H
  refine jEv.blk [(.aload_n 0, 1, [])] (by decide +kernel) (pc' := 1) (ls' := [(2, Int.ofNat o0), (0, v1), (0, v2), (3, 0), (3, 0), (3, 0), (3, 0)]) (st' := [(2, Int.ofNat o0)]) rfl ?_
  refine jbind H (fun b1 Hb1 H => ?_)
  refine jEv.calV (st' := [(0, b1)]) (show jfI 266 1 (.invokevirtual 405) 3 [1, 250, 0, 9080] = true by decide +kernel) rfl (Or.inl rfl) rfl (Nat.le_of_ble_eq_true rfl) (by decide +kernel) (by decide) (isX12_L ho0) ((t_M_blockBytes (T := T) (xs := xs) ho0 Hb1).mono (jKle 1 hd)) rfl ?_
  refine jEv.blk [(.iload_n 2, 1, []), (.aload_n 0, 1, [])] (by decide +kernel) (pc' := 6) (ls' := [(2, Int.ofNat o0), (0, v1), (0, v2), (3, 0), (3, 0), (3, 0), (3, 0)]) (st' := [(2, Int.ofNat o0), (0, v2), (0, b1)]) rfl ?_
  refine jbind H (fun b2 Hb2 H => ?_)
  refine jEv.calV (st' := [(0, b2), (0, v2), (0, b1)]) (show jfI 266 6 (.invokevirtual 405) 3 [1, 250, 0, 9080] = true by decide +kernel) rfl (Or.inl rfl) rfl (Nat.le_of_ble_eq_true rfl) (by decide +kernel) (by decide) (isX12_L ho0) ((t_M_blockBytes (T := T) (xs := xs) ho0 Hb2).mono (jKle 1 hd)) rfl ?_
  refine jchk H (fun c3 H => ?_)
  refine jEv.irem (show jfI 266 9 (.irem) 1 [] = true by decide +kernel) c3 ?_
  refine jEv.blk [(.isub, 1, []), (.istore_n 3, 1, []), (.iload_n 2, 1, []), (.aload_n 0, 1, [])] (by decide +kernel) (pc' := 14) (ls' := [(2, Int.ofNat o0), (0, v1), (0, v2), (0, (wr (b1 - (Int.tmod v2 b2)))), (3, 0), (3, 0), (3, 0)]) (st' := [(2, Int.ofNat o0), (0, v2)]) rfl ?_
  refine jbind H (fun b4 Hb4 H => ?_)
  refine jEv.calV (st' := [(0, b4), (0, v2)]) (show jfI 266 14 (.invokevirtual 402) 3 [1, 249, 0, 9076] = true by decide +kernel) rfl (Or.inl rfl) rfl (Nat.le_of_ble_eq_true rfl) (by decide +kernel) (by decide) (isX12_L ho0) ((t_M_length (T := T) (xs := xs) ho0 Hb4).mono (jKle 1 hd)) rfl ?_
  refine jEv.ic_ge (t := 25) (show jfI 266 17 (.if_icmp .ge 8) 3 [] = true by decide +kernel) rfl H (fun c5 H => ?_) (fun c5 H => ?_)
  · refine jEv.blk [(.iload_n 3, 1, []), (.iconst 4, 1, [])] (by decide +kernel) (pc' := 22) (ls' := [(2, Int.ofNat o0), (0, v1), (0, v2), (0, (wr (b1 - (Int.tmod v2 b2)))), (3, 0), (3, 0), (3, 0)]) (st' := [(0, 4), (0, (wr (b1 - (Int.tmod v2 b2))))]) rfl ?_
    refine jEv.ic_gt (t := 27) (show jfI 266 22 (.if_icmp .gt 5) 3 [] = true by decide +kernel) rfl H (fun c6 H => ?_) (fun c6 H => ?_)
    · refine jEv.blk [(.aload_n 0, 1, []), (.iload_n 1, 1, []), (.iload_n 2, 1, []), (.iconst 2, 1, []), (.iadd, 1, [])] (by decide +kernel) (pc' := 32) (ls' := [(2, Int.ofNat o0), (0, v1), (0, v2), (0, (wr (b1 - (Int.tmod v2 b2)))), (3, 0), (3, 0), (3, 0)]) (st' := [(0, (wr (v2 + 2))), (0, v1), (2, Int.ofNat o0)]) rfl ?_
      refine jbind H (fun b7 Hb7 H => ?_)
      refine jEv.calV (st' := [(0, b7)]) (show jfI 266 32 (.invokevirtual 494) 3 [1, 259, 2, 9116] = true by decide +kernel) rfl (Or.inl rfl) rfl (Nat.le_of_ble_eq_true rfl) (by decide +kernel) (by decide) (isX12_L ho0) ((t_M_diskAt (T := T) (xs := xs) ho0 Hb7).mono (jKle 1 hd)) rfl ?_
      refine jEv.blk [(.istore 4, 2, []), (.iload 4, 2, [])] (by decide +kernel) (pc' := 39) (ls' := [(2, Int.ofNat o0), (0, v1), (0, v2), (0, (wr (b1 - (Int.tmod v2 b2)))), (0, b7), (3, 0), (3, 0)]) (st' := [(0, b7)]) rfl ?_
      refine jEv.if_eq (t := 70) (show jfI 266 39 (.ifCond .eq 31) 3 [] = true by decide +kernel) rfl H (fun c8 H => ?_) (fun c8 H => ?_)
      · refine jEv.blk [(.iconst 0, 1, [])] (by decide +kernel) (pc' := 71) (ls' := [(2, Int.ofNat o0), (0, v1), (0, v2), (0, (wr (b1 - (Int.tmod v2 b2)))), (0, b7), (3, 0), (3, 0)]) (st' := [(0, 0)]) rfl ?_
        exact jEv.retZ (show jfI 266 71 (.ireturn) 1 [] = true by decide +kernel) (by decide +kernel) (by decide) (by cases H; exact HY)
      · refine jEv.blk [(.iconst 4, 1, []), (.iload 4, 2, []), (.iadd, 1, []), (.iload_n 3, 1, [])] (by decide +kernel) (pc' := 47) (ls' := [(2, Int.ofNat o0), (0, v1), (0, v2), (0, (wr (b1 - (Int.tmod v2 b2)))), (0, b7), (3, 0), (3, 0)]) (st' := [(0, (wr (b1 - (Int.tmod v2 b2)))), (0, (wr (4 + b7)))]) rfl ?_
        refine jEv.ic_gt (t := 70) (show jfI 266 47 (.if_icmp .gt 23) 3 [] = true by decide +kernel) rfl H (fun c9 H => ?_) (fun c9 H => ?_)
        · refine jEv.blk [(.iconst 0, 1, [])] (by decide +kernel) (pc' := 71) (ls' := [(2, Int.ofNat o0), (0, v1), (0, v2), (0, (wr (b1 - (Int.tmod v2 b2)))), (0, b7), (3, 0), (3, 0)]) (st' := [(0, 0)]) rfl ?_
          exact jEv.retZ (show jfI 266 71 (.ireturn) 1 [] = true by decide +kernel) (by decide +kernel) (by decide) (by cases H; exact HY)
        · refine jEv.blk [(.aload_n 0, 1, []), (.iload_n 1, 1, []), (.iload_n 2, 1, []), (.iconst 3, 1, []), (.iadd, 1, [])] (by decide +kernel) (pc' := 55) (ls' := [(2, Int.ofNat o0), (0, v1), (0, v2), (0, (wr (b1 - (Int.tmod v2 b2)))), (0, b7), (3, 0), (3, 0)]) (st' := [(0, (wr (v2 + 3))), (0, v1), (2, Int.ofNat o0)]) rfl ?_
          refine jbind H (fun b10 Hb10 H => ?_)
          refine jEv.calV (st' := [(0, b10)]) (show jfI 266 55 (.invokevirtual 494) 3 [1, 259, 2, 9116] = true by decide +kernel) rfl (Or.inl rfl) rfl (Nat.le_of_ble_eq_true rfl) (by decide +kernel) (by decide) (isX12_L ho0) ((t_M_diskAt (T := T) (xs := xs) ho0 Hb10).mono (jKle 1 hd)) rfl ?_
          refine jEv.blk [(.aload_n 0, 1, []), (.iload_n 1, 1, [])] (by decide +kernel) (pc' := 60) (ls' := [(2, Int.ofNat o0), (0, v1), (0, v2), (0, (wr (b1 - (Int.tmod v2 b2)))), (0, b7), (3, 0), (3, 0)]) (st' := [(0, v1), (2, Int.ofNat o0), (0, b10)]) rfl ?_
          refine jbind H (fun b11 Hb11 H => ?_)
          refine jEv.calV (st' := [(0, b11), (0, b10)]) (show jfI 266 60 (.invokevirtual 497) 3 [1, 260, 1, 9120] = true by decide +kernel) rfl (Or.inl rfl) rfl (Nat.le_of_ble_eq_true rfl) (by decide +kernel) (by decide) (isX12_L ho0) ((t_M_serialOf (T := T) (xs := xs) ho0 Hb11).mono (jKle 2 hd)) rfl ?_
          refine jEv.blk [(.sipush 255, 3, []), (.iand, 1, [])] (by decide +kernel) (pc' := 67) (ls' := [(2, Int.ofNat o0), (0, v1), (0, v2), (0, (wr (b1 - (Int.tmod v2 b2)))), (0, b7), (3, 0), (3, 0)]) (st' := [(0, (jand b11 255)), (0, b10)]) rfl ?_
          refine jEv.ic_eq (t := 72) (show jfI 266 67 (.if_icmp .eq 5) 3 [] = true by decide +kernel) rfl H (fun c12 H => ?_) (fun c12 H => ?_)
          · refine jEv.blk [(.bipush 7, 2, []), (.istore 5, 2, []), (.iconst 1, 1, []), (.istore 6, 2, [])] (by decide +kernel) (pc' := 79) (ls' := [(2, Int.ofNat o0), (0, v1), (0, v2), (0, (wr (b1 - (Int.tmod v2 b2)))), (0, b7), (0, 7), (0, 1)]) (st' := []) rfl ?_
            exact jEv.weak (a := [(2, Int.ofNat o0), (0, v1), (0, v2), (3, 0), (0, b7), (0, 7), (0, 1)]) (jles.c1 (jles.c1 (jles.c1 (jles.c0 (jles.c1 (jles.c1 (jles.c1 jles.nl))))))) (t_M_isFrame_L79 (T := T) (xs := xs) (y := y) hd ho0 H HY)
          · refine jEv.blk [(.iconst 0, 1, [])] (by decide +kernel) (pc' := 71) (ls' := [(2, Int.ofNat o0), (0, v1), (0, v2), (0, (wr (b1 - (Int.tmod v2 b2)))), (0, b7), (3, 0), (3, 0)]) (st' := [(0, 0)]) rfl ?_
            exact jEv.retZ (show jfI 266 71 (.ireturn) 1 [] = true by decide +kernel) (by decide +kernel) (by decide) (by cases H; exact HY)
    · refine jEv.blk [(.iconst 0, 1, [])] (by decide +kernel) (pc' := 26) (ls' := [(2, Int.ofNat o0), (0, v1), (0, v2), (0, (wr (b1 - (Int.tmod v2 b2)))), (3, 0), (3, 0), (3, 0)]) (st' := [(0, 0)]) rfl ?_
      exact jEv.retZ (show jfI 266 26 (.ireturn) 1 [] = true by decide +kernel) (by decide +kernel) (by decide) (by cases H; exact HY)
  · refine jEv.blk [(.iconst 0, 1, [])] (by decide +kernel) (pc' := 26) (ls' := [(2, Int.ofNat o0), (0, v1), (0, v2), (0, (wr (b1 - (Int.tmod v2 b2)))), (3, 0), (3, 0), (3, 0)]) (st' := [(0, 0)]) rfl ?_
    exact jEv.retZ (show jfI 266 26 (.ireturn) 1 [] = true by decide +kernel) (by decide +kernel) (by decide) (by cases H; exact HY)
set_option maxRecDepth 20000 in
noncomputable def M_canBe_p32   : Option Int := some 1
set_option maxRecDepth 20000 in
theorem t_M_canBe_p32 {T : jT} {xs : List Int} {d : Nat} {y : jV × jS} (hd : 0 ≤ d) {h : jH}   {out : Int}  (H : M_canBe_p32 = some out) (HY : ykIp T h y out) : jEv xs d (267, 32, [(3, 0), (3, 0), (3, 0)], []) (T, h) y := by
  unfold M_canBe_p32 at H
  refine jEv.blk [(.iconst 1, 1, [])] (by decide +kernel) (pc' := 33) (ls' := [(3, 0), (3, 0), (3, 0)]) (st' := [(0, 1)]) rfl ?_
  refine jEv.goto (t := 37) (show jfI 267 33 (.goto 4) 3 [] = true by decide +kernel) rfl ?_
  exact jEv.retZ (show jfI 267 37 (.ireturn) 1 [] = true by decide +kernel) (by decide +kernel) (by decide) (by cases H; exact HY)
set_option maxRecDepth 20000 in
noncomputable def M_canBe_p14   : Option Int := some 1
set_option maxRecDepth 20000 in
theorem t_M_canBe_p14 {T : jT} {xs : List Int} {d : Nat} {y : jV × jS} (hd : 0 ≤ d) {h : jH}   {out : Int}  (H : M_canBe_p14 = some out) (HY : ykIp T h y out) : jEv xs d (267, 14, [(3, 0), (3, 0), (3, 0)], []) (T, h) y := by
  unfold M_canBe_p14 at H
  refine jEv.blk [(.iconst 1, 1, [])] (by decide +kernel) (pc' := 15) (ls' := [(3, 0), (3, 0), (3, 0)]) (st' := [(0, 1)]) rfl ?_
  refine jEv.goto (t := 37) (show jfI 267 15 (.goto 22) 3 [] = true by decide +kernel) rfl ?_
  exact jEv.retZ (show jfI 267 37 (.ireturn) 1 [] = true by decide +kernel) (by decide +kernel) (by decide) (by cases H; exact HY)
set_option maxRecDepth 20000 in
noncomputable def M_canBe  (o0 : Nat) (v1 : Int) (v2 : Int) : Option Int := (if v2 = 0 then (if v1 = 1 then M_canBe_p32 else (if v1 = 2 then M_canBe_p32 else some 0)) else (if v1 = 3 then M_canBe_p14 else (if v1 = 4 then M_canBe_p14 else some 0)))
set_option maxRecDepth 20000 in
theorem t_M_canBe {T : jT} {xs : List Int} {h : jH}  {o0 : Nat} {v1 : Int} {v2 : Int} {out : Int} (ho0 : isX12 T o0) (H : M_canBe o0 v1 v2 = some out) : jEm xs 1 267 [(2, Int.ofNat o0), (0, v1), (0, v2)] (T, h) ((0, out), (T, h)) := by
  have hd : 0 ≤ 0 := Nat.le_refl _
  obtain ⟨y, ey⟩ : ∃ y : jV × jS, y = ((0, out), (T, h)) := ⟨_, rfl⟩
  rw [← ey]
  have HY : ykIp T h y out := ey
  refine jEm.ent (n := 3) (by decide +kernel) (Nat.le_of_ble_eq_true rfl) ?_
  show jEv xs 0 (267, 0, [(2, Int.ofNat o0), (0, v1), (0, v2)], []) (T, h) y
  unfold M_canBe at H
  refine jEv.blk [(.iload_n 2, 1, [])] (by decide +kernel) (pc' := 1) (ls' := [(2, Int.ofNat o0), (0, v1), (0, v2)]) (st' := [(0, v2)]) rfl ?_
  refine jEv.if_eq (t := 22) (show jfI 267 1 (.ifCond .eq 21) 3 [] = true by decide +kernel) rfl H (fun c1 H => ?_) (fun c1 H => ?_)
  · refine jEv.blk [(.iload_n 1, 1, []), (.iconst 1, 1, [])] (by decide +kernel) (pc' := 24) (ls' := [(2, Int.ofNat o0), (0, v1), (0, v2)]) (st' := [(0, 1), (0, v1)]) rfl ?_
    refine jEv.ic_eq (t := 32) (show jfI 267 24 (.if_icmp .eq 8) 3 [] = true by decide +kernel) rfl H (fun c2 H => ?_) (fun c2 H => ?_)
    · exact jEv.weak (a := [(3, 0), (3, 0), (3, 0)]) (jles.c0 (jles.c0 (jles.c0 jles.nl))) (t_M_canBe_p32 (T := T) (xs := xs) (y := y) hd H HY)
    · refine jEv.blk [(.iload_n 1, 1, []), (.iconst 2, 1, [])] (by decide +kernel) (pc' := 29) (ls' := [(2, Int.ofNat o0), (0, v1), (0, v2)]) (st' := [(0, 2), (0, v1)]) rfl ?_
      refine jEv.ic_ne (t := 36) (show jfI 267 29 (.if_icmp .ne 7) 3 [] = true by decide +kernel) rfl H (fun c3 H => ?_) (fun c3 H => ?_)
      · exact jEv.weak (a := [(3, 0), (3, 0), (3, 0)]) (jles.c0 (jles.c0 (jles.c0 jles.nl))) (t_M_canBe_p32 (T := T) (xs := xs) (y := y) hd H HY)
      · refine jEv.blk [(.iconst 0, 1, [])] (by decide +kernel) (pc' := 37) (ls' := [(2, Int.ofNat o0), (0, v1), (0, v2)]) (st' := [(0, 0)]) rfl ?_
        exact jEv.retZ (show jfI 267 37 (.ireturn) 1 [] = true by decide +kernel) (by decide +kernel) (by decide) (by cases H; exact HY)
  · refine jEv.blk [(.iload_n 1, 1, []), (.iconst 3, 1, [])] (by decide +kernel) (pc' := 6) (ls' := [(2, Int.ofNat o0), (0, v1), (0, v2)]) (st' := [(0, 3), (0, v1)]) rfl ?_
    refine jEv.ic_eq (t := 14) (show jfI 267 6 (.if_icmp .eq 8) 3 [] = true by decide +kernel) rfl H (fun c4 H => ?_) (fun c4 H => ?_)
    · exact jEv.weak (a := [(3, 0), (3, 0), (3, 0)]) (jles.c0 (jles.c0 (jles.c0 jles.nl))) (t_M_canBe_p14 (T := T) (xs := xs) (y := y) hd H HY)
    · refine jEv.blk [(.iload_n 1, 1, []), (.iconst 4, 1, [])] (by decide +kernel) (pc' := 11) (ls' := [(2, Int.ofNat o0), (0, v1), (0, v2)]) (st' := [(0, 4), (0, v1)]) rfl ?_
      refine jEv.ic_ne (t := 18) (show jfI 267 11 (.if_icmp .ne 7) 3 [] = true by decide +kernel) rfl H (fun c5 H => ?_) (fun c5 H => ?_)
      · exact jEv.weak (a := [(3, 0), (3, 0), (3, 0)]) (jles.c0 (jles.c0 (jles.c0 jles.nl))) (t_M_canBe_p14 (T := T) (xs := xs) (y := y) hd H HY)
      · refine jEv.blk [(.iconst 0, 1, [])] (by decide +kernel) (pc' := 19) (ls' := [(2, Int.ofNat o0), (0, v1), (0, v2)]) (st' := [(0, 0)]) rfl ?_
        refine jEv.goto (t := 37) (show jfI 267 19 (.goto 18) 3 [] = true by decide +kernel) rfl ?_
        exact jEv.retZ (show jfI 267 37 (.ireturn) 1 [] = true by decide +kernel) (by decide +kernel) (by decide) (by cases H; exact HY)
def yk_M_isBorne_L34 (T : jT) (xs : List Int) (d : Nat) (y : jV × jS) (h : jH)  (o0 : Nat) (v1 : Int) (v2 : Int) (v3 : Int) (v4 : Int) : ((Int × Int × Int) ⊕ (Int × jH)) → Prop
  | .inl (v5, v6, v7) => jEv xs d (268, 34, [(2, Int.ofNat o0), (0, v1), (0, v2), (0, v3), (0, v4), (0, v5), (0, v6), (0, v7)], []) (T, h) y
  | .inr o => ykI T y o
set_option maxRecDepth 20000 in
noncomputable def M_isBorne_p117  (h : jH) (o0 : Nat) (v5 : Int) (v6 : Int) : Option (Int × jH) := some (1, (jup (jup h o0 63 v5) o0 64 v6))
set_option maxRecDepth 20000 in
theorem t_M_isBorne_p117 {T : jT} {xs : List Int} {d : Nat} {y : jV × jS} (hd : 1 ≤ d) {h : jH}  {o0 : Nat} {v5 : Int} {v6 : Int} {out : (Int × jH)} (ho0 : isX12 T o0) (H : M_isBorne_p117 h o0 v5 v6 = some out) (HY : ykI T y out) : jEv xs d (268, 117, [(2, Int.ofNat o0), (3, 0), (3, 0), (3, 0), (3, 0), (0, v5), (0, v6), (3, 0)], []) (T, h) y := by
  unfold M_isBorne_p117 at H
  refine jEv.blk [(.aload_n 0, 1, []), (.iload 5, 2, [])] (by decide +kernel) (pc' := 120) (ls' := [(2, Int.ofNat o0), (3, 0), (3, 0), (3, 0), (3, 0), (0, v5), (0, v6), (3, 0)]) (st' := [(0, v5), (2, Int.ofNat o0)]) rfl ?_
  refine jEv.pfI (show jfI 268 120 (.putfield 500) 3 [12, 63, 0, 0, 7099] = true by decide +kernel) (isX12_L ho0) (by decide) ?_
  refine jEv.blk [(.aload_n 0, 1, []), (.iload 6, 2, [])] (by decide +kernel) (pc' := 126) (ls' := [(2, Int.ofNat o0), (3, 0), (3, 0), (3, 0), (3, 0), (0, v5), (0, v6), (3, 0)]) (st' := [(0, v6), (2, Int.ofNat o0)]) rfl ?_
  refine jEv.pfI (show jfI 268 126 (.putfield 503) 3 [12, 64, 0, 0, 7100] = true by decide +kernel) (isX12_L ho0) (by decide) ?_
  refine jEv.blk [(.iconst 1, 1, [])] (by decide +kernel) (pc' := 130) (ls' := [(2, Int.ofNat o0), (3, 0), (3, 0), (3, 0), (3, 0), (0, v5), (0, v6), (3, 0)]) (st' := [(0, 1)]) rfl ?_
  exact jEv.retZ (show jfI 268 130 (.ireturn) 1 [] = true by decide +kernel) (by decide +kernel) (by decide) (by cases H; exact HY)
set_option maxRecDepth 20000 in
noncomputable def M_isBorne_p87  (h : jH) (o0 : Nat) (v5 : Int) (v6 : Int) : Option (Int × jH) := (if v5 < 3 then some (0, h) else (if (jshr v6 16) < 16 then (if 999 < (jand v6 65535) then some (0, h) else M_isBorne_p117 h o0 v5 v6) else some (0, h)))
set_option maxRecDepth 20000 in
theorem t_M_isBorne_p87 {T : jT} {xs : List Int} {d : Nat} {y : jV × jS} (hd : 1 ≤ d) {h : jH}  {o0 : Nat} {v5 : Int} {v6 : Int} {out : (Int × jH)} (ho0 : isX12 T o0) (H : M_isBorne_p87 h o0 v5 v6 = some out) (HY : ykI T y out) : jEv xs d (268, 87, [(2, Int.ofNat o0), (3, 0), (3, 0), (3, 0), (3, 0), (0, v5), (0, v6), (3, 0)], []) (T, h) y := by
  unfold M_isBorne_p87 at H
  refine jEv.blk [(.iload 5, 2, []), (.iconst 3, 1, [])] (by decide +kernel) (pc' := 90) (ls' := [(2, Int.ofNat o0), (3, 0), (3, 0), (3, 0), (3, 0), (0, v5), (0, v6), (3, 0)]) (st' := [(0, 3), (0, v5)]) rfl ?_
  refine jEv.ic_lt (t := 115) (show jfI 268 90 (.if_icmp .lt 25) 3 [] = true by decide +kernel) rfl H (fun c8 H => ?_) (fun c8 H => ?_)
  · refine jEv.blk [(.iconst 0, 1, [])] (by decide +kernel) (pc' := 116) (ls' := [(2, Int.ofNat o0), (3, 0), (3, 0), (3, 0), (3, 0), (0, v5), (0, v6), (3, 0)]) (st' := [(0, 0)]) rfl ?_
    exact jEv.retZ (show jfI 268 116 (.ireturn) 1 [] = true by decide +kernel) (by decide +kernel) (by decide) (by cases H; exact HY)
  · refine jEv.blk [(.iload 6, 2, []), (.bipush 16, 2, []), (.ishr, 1, []), (.bipush 16, 2, [])] (by decide +kernel) (pc' := 100) (ls' := [(2, Int.ofNat o0), (3, 0), (3, 0), (3, 0), (3, 0), (0, v5), (0, v6), (3, 0)]) (st' := [(0, 16), (0, (jshr v6 16))]) rfl ?_
    refine jEv.ic_ge (t := 115) (show jfI 268 100 (.if_icmp .ge 15) 3 [] = true by decide +kernel) rfl H (fun c9 H => ?_) (fun c9 H => ?_)
    · refine jEv.blk [(.iload 6, 2, []), (.ldc_w 506, 3, [0, 0, 65535, 9156]), (.iand, 1, []), (.sipush 999, 3, [])] (by decide +kernel) (pc' := 112) (ls' := [(2, Int.ofNat o0), (3, 0), (3, 0), (3, 0), (3, 0), (0, v5), (0, v6), (3, 0)]) (st' := [(0, 999), (0, (jand v6 65535))]) rfl ?_
      refine jEv.ic_le (t := 117) (show jfI 268 112 (.if_icmp .le 5) 3 [] = true by decide +kernel) rfl H (fun c10 H => ?_) (fun c10 H => ?_)
      · refine jEv.blk [(.iconst 0, 1, [])] (by decide +kernel) (pc' := 116) (ls' := [(2, Int.ofNat o0), (3, 0), (3, 0), (3, 0), (3, 0), (0, v5), (0, v6), (3, 0)]) (st' := [(0, 0)]) rfl ?_
        exact jEv.retZ (show jfI 268 116 (.ireturn) 1 [] = true by decide +kernel) (by decide +kernel) (by decide) (by cases H; exact HY)
      · exact t_M_isBorne_p117 (T := T) (xs := xs) (y := y) hd ho0 H HY
    · refine jEv.blk [(.iconst 0, 1, [])] (by decide +kernel) (pc' := 116) (ls' := [(2, Int.ofNat o0), (3, 0), (3, 0), (3, 0), (3, 0), (0, v5), (0, v6), (3, 0)]) (st' := [(0, 0)]) rfl ?_
      exact jEv.retZ (show jfI 268 116 (.ireturn) 1 [] = true by decide +kernel) (by decide +kernel) (by decide) (by cases H; exact HY)
set_option maxRecDepth 20000 in
noncomputable def M_isBorne_B34  (h : jH) (o0 : Nat) (v1 : Int) (v2 : Int) (v3 : Int) (v4 : Int) (v5 : Int) (v6 : Int) (v7 : Int) : Option ((Int × Int × Int) ⊕ (Int × jH)) := (if v7 < v3 then (if v5 < 3 then Option.bind (M_diskAt h o0 v1 (wr ((wr (v2 + 4)) + v7))) (fun b5 => some (.inl ((wr (v5 + 1)), (wr ((wr (256 * v6)) + b5)), (wr (v7 + 1))))) else some (.inl ((wr (v5 + 1)), v6, (wr (v7 + 1))))) else Option.map Sum.inr ((if v4 = 1 then M_isBorne_p87 h o0 v5 v6 else (if v4 = 4 then M_isBorne_p87 h o0 v5 v6 else M_isBorne_p117 h o0 v5 v6))))
noncomputable def M_isBorne_L34  (h : jH) (o0 : Nat) (v1 : Int) (v2 : Int) (v3 : Int) (v4 : Int) (v5 : Int) (v6 : Int) (v7 : Int) : Option (Int × jH) := jloop (fun s : (Int × Int × Int) => M_isBorne_B34 h o0 v1 v2 v3 v4 s.1 s.2.1 s.2.2) (v5, v6, v7)
set_option maxRecDepth 20000 in
theorem t_M_isBorne_B34 {T : jT} {xs : List Int} {d : Nat} {y : jV × jS} (hd : 1 ≤ d) {h : jH}  {o0 : Nat} {v1 : Int} {v2 : Int} {v3 : Int} {v4 : Int} {v5 : Int} {v6 : Int} {v7 : Int} {out : ((Int × Int × Int) ⊕ (Int × jH))} (ho0 : isX12 T o0) (H : M_isBorne_B34 h o0 v1 v2 v3 v4 v5 v6 v7 = some out) (HY : yk_M_isBorne_L34 T xs d y h o0 v1 v2 v3 v4 out) : jEv xs d (268, 34, [(2, Int.ofNat o0), (0, v1), (0, v2), (0, v3), (0, v4), (0, v5), (0, v6), (0, v7)], []) (T, h) y := by
  unfold M_isBorne_B34 at H
  refine jEv.blk [(.iload 7, 2, []), (.iload_n 3, 1, [])] (by decide +kernel) (pc' := 37) (ls' := [(2, Int.ofNat o0), (0, v1), (0, v2), (0, v3), (0, v4), (0, v5), (0, v6), (0, v7)]) (st' := [(0, v3), (0, v7)]) rfl ?_
  refine jEv.ic_ge (t := 75) (show jfI 268 37 (.if_icmp .ge 38) 3 [] = true by decide +kernel) rfl H (fun c3 H => ?_) (fun c3 H => ?_)
  · refine jEv.blk [(.iload 5, 2, []), (.iconst 3, 1, [])] (by decide +kernel) (pc' := 43) (ls' := [(2, Int.ofNat o0), (0, v1), (0, v2), (0, v3), (0, v4), (0, v5), (0, v6), (0, v7)]) (st' := [(0, 3), (0, v5)]) rfl ?_
    refine jEv.ic_ge (t := 66) (show jfI 268 43 (.if_icmp .ge 23) 3 [] = true by decide +kernel) rfl H (fun c4 H => ?_) (fun c4 H => ?_)
    · refine jEv.blk [(.sipush 256, 3, []), (.iload 6, 2, []), (.imul, 1, []), (.aload_n 0, 1, []), (.iload_n 1, 1, []), (.iload_n 2, 1, []), (.iconst 4, 1, []), (.iadd, 1, []), (.iload 7, 2, []), (.iadd, 1, [])] (by decide +kernel) (pc' := 60) (ls' := [(2, Int.ofNat o0), (0, v1), (0, v2), (0, v3), (0, v4), (0, v5), (0, v6), (0, v7)]) (st' := [(0, (wr ((wr (v2 + 4)) + v7))), (0, v1), (2, Int.ofNat o0), (0, (wr (256 * v6)))]) rfl ?_
      refine jbind H (fun b5 Hb5 H => ?_)
      refine jEv.calV (st' := [(0, b5), (0, (wr (256 * v6)))]) (show jfI 268 60 (.invokevirtual 494) 3 [1, 259, 2, 9116] = true by decide +kernel) rfl (Or.inl rfl) rfl (Nat.le_of_ble_eq_true rfl) (by decide +kernel) (by decide) (isX12_L ho0) ((t_M_diskAt (T := T) (xs := xs) ho0 Hb5).mono (jKle 1 hd)) rfl ?_
      refine jEv.blk [(.iadd, 1, []), (.istore 6, 2, [])] (by decide +kernel) (pc' := 66) (ls' := [(2, Int.ofNat o0), (0, v1), (0, v2), (0, v3), (0, v4), (0, v5), (0, (wr ((wr (256 * v6)) + b5))), (0, v7)]) (st' := []) rfl ?_
      refine jEv.blk [(.iinc 5 1, 3, []), (.iinc 7 1, 3, [])] (by decide +kernel) (pc' := 72) (ls' := [(2, Int.ofNat o0), (0, v1), (0, v2), (0, v3), (0, v4), (0, (wr (v5 + 1))), (0, (wr ((wr (256 * v6)) + b5))), (0, (wr (v7 + 1)))]) (st' := []) rfl ?_
      refine jEv.goto (t := 34) (show jfI 268 72 (.goto (-38)) 3 [] = true by decide +kernel) rfl ?_
      exact (by cases H; exact HY)
    · refine jEv.blk [(.iinc 5 1, 3, []), (.iinc 7 1, 3, [])] (by decide +kernel) (pc' := 72) (ls' := [(2, Int.ofNat o0), (0, v1), (0, v2), (0, v3), (0, v4), (0, (wr (v5 + 1))), (0, v6), (0, (wr (v7 + 1)))]) (st' := []) rfl ?_
      refine jEv.goto (t := 34) (show jfI 268 72 (.goto (-38)) 3 [] = true by decide +kernel) rfl ?_
      exact (by cases H; exact HY)
  · refine jmapr H HY (fun out H (HY : ykI T y out) => ?_)
    refine jEv.blk [(.iload 4, 2, []), (.iconst 1, 1, [])] (by decide +kernel) (pc' := 78) (ls' := [(2, Int.ofNat o0), (0, v1), (0, v2), (0, v3), (0, v4), (0, v5), (0, v6), (0, v7)]) (st' := [(0, 1), (0, v4)]) rfl ?_
    refine jEv.ic_eq (t := 87) (show jfI 268 78 (.if_icmp .eq 9) 3 [] = true by decide +kernel) rfl H (fun c6 H => ?_) (fun c6 H => ?_)
    · exact jEv.weak (a := [(2, Int.ofNat o0), (3, 0), (3, 0), (3, 0), (3, 0), (0, v5), (0, v6), (3, 0)]) (jles.c1 (jles.c0 (jles.c0 (jles.c0 (jles.c0 (jles.c1 (jles.c1 (jles.c0 jles.nl)))))))) (t_M_isBorne_p87 (T := T) (xs := xs) (y := y) hd ho0 H HY)
    · refine jEv.blk [(.iload 4, 2, []), (.iconst 4, 1, [])] (by decide +kernel) (pc' := 84) (ls' := [(2, Int.ofNat o0), (0, v1), (0, v2), (0, v3), (0, v4), (0, v5), (0, v6), (0, v7)]) (st' := [(0, 4), (0, v4)]) rfl ?_
      refine jEv.ic_ne (t := 117) (show jfI 268 84 (.if_icmp .ne 33) 3 [] = true by decide +kernel) rfl H (fun c7 H => ?_) (fun c7 H => ?_)
      · exact jEv.weak (a := [(2, Int.ofNat o0), (3, 0), (3, 0), (3, 0), (3, 0), (0, v5), (0, v6), (3, 0)]) (jles.c1 (jles.c0 (jles.c0 (jles.c0 (jles.c0 (jles.c1 (jles.c1 (jles.c0 jles.nl)))))))) (t_M_isBorne_p87 (T := T) (xs := xs) (y := y) hd ho0 H HY)
      · exact jEv.weak (a := [(2, Int.ofNat o0), (3, 0), (3, 0), (3, 0), (3, 0), (0, v5), (0, v6), (3, 0)]) (jles.c1 (jles.c0 (jles.c0 (jles.c0 (jles.c0 (jles.c1 (jles.c1 (jles.c0 jles.nl)))))))) (t_M_isBorne_p117 (T := T) (xs := xs) (y := y) hd ho0 H HY)
theorem t_M_isBorne_L34 {T : jT} {xs : List Int} {d : Nat} {y : jV × jS} (hd : 1 ≤ d) {h : jH}  {o0 : Nat} {v1 : Int} {v2 : Int} {v3 : Int} {v4 : Int} {v5 : Int} {v6 : Int} {v7 : Int} {out : (Int × jH)} (ho0 : isX12 T o0) (H : M_isBorne_L34 h o0 v1 v2 v3 v4 v5 v6 v7 = some out) (HY : ykI T y out) : jEv xs d (268, 34, [(2, Int.ofNat o0), (0, v1), (0, v2), (0, v3), (0, v4), (0, v5), (0, v6), (0, v7)], []) (T, h) y :=
  jloop_sound (G := fun s : (Int × Int × Int) => jEv xs d (268, 34, [(2, Int.ofNat o0), (0, v1), (0, v2), (0, v3), (0, v4), (0, s.1), (0, s.2.1), (0, s.2.2)], []) (T, h) y) (K := yk_M_isBorne_L34 T xs d y h o0 v1 v2 v3 v4) (fun s out H HY => t_M_isBorne_B34 hd ho0 H HY) (fun s' hg => hg) (s := (v5, v6, v7)) H HY
set_option maxRecDepth 20000 in
noncomputable def M_isBorne  (h : jH) (o0 : Nat) (v1 : Int) (v2 : Int) : Option (Int × jH) := Option.bind (M_diskAt h o0 v1 (wr (v2 + 2))) (fun b1 => Option.bind (M_diskAt h o0 v1 (wr (v2 + 1))) (fun b2 => M_isBorne_L34 h o0 v1 v2 b1 b2 (h o0 63) (h o0 64) 0))
set_option maxRecDepth 20000 in
theorem t_M_isBorne {T : jT} {xs : List Int} {h : jH}  {o0 : Nat} {v1 : Int} {v2 : Int} {out : (Int × jH)} (ho0 : isX12 T o0) (H : M_isBorne h o0 v1 v2 = some out) : jEm xs 2 268 [(2, Int.ofNat o0), (0, v1), (0, v2)] (T, h) ((0, out.1), (T, out.2)) := by
  have hd : 1 ≤ 1 := Nat.le_refl _
  obtain ⟨y, ey⟩ : ∃ y : jV × jS, y = ((0, out.1), (T, out.2)) := ⟨_, rfl⟩
  rw [← ey]
  have HY : ykI T y out := ey
  refine jEm.ent (n := 8) (by decide +kernel) (Nat.le_of_ble_eq_true rfl) ?_
  show jEv xs 1 (268, 0, [(2, Int.ofNat o0), (0, v1), (0, v2), (3, 0), (3, 0), (3, 0), (3, 0), (3, 0)], []) (T, h) y
  unfold M_isBorne at H
  refine jEv.blk [(.aload_n 0, 1, []), (.iload_n 1, 1, []), (.iload_n 2, 1, []), (.iconst 2, 1, []), (.iadd, 1, [])] (by decide +kernel) (pc' := 5) (ls' := [(2, Int.ofNat o0), (0, v1), (0, v2), (3, 0), (3, 0), (3, 0), (3, 0), (3, 0)]) (st' := [(0, (wr (v2 + 2))), (0, v1), (2, Int.ofNat o0)]) rfl ?_
  refine jbind H (fun b1 Hb1 H => ?_)
  refine jEv.calV (st' := [(0, b1)]) (show jfI 268 5 (.invokevirtual 494) 3 [1, 259, 2, 9116] = true by decide +kernel) rfl (Or.inl rfl) rfl (Nat.le_of_ble_eq_true rfl) (by decide +kernel) (by decide) (isX12_L ho0) ((t_M_diskAt (T := T) (xs := xs) ho0 Hb1).mono (jKle 1 hd)) rfl ?_
  refine jEv.blk [(.istore_n 3, 1, []), (.aload_n 0, 1, []), (.iload_n 1, 1, []), (.iload_n 2, 1, []), (.iconst 1, 1, []), (.iadd, 1, [])] (by decide +kernel) (pc' := 14) (ls' := [(2, Int.ofNat o0), (0, v1), (0, v2), (0, b1), (3, 0), (3, 0), (3, 0), (3, 0)]) (st' := [(0, (wr (v2 + 1))), (0, v1), (2, Int.ofNat o0)]) rfl ?_
  refine jbind H (fun b2 Hb2 H => ?_)
  refine jEv.calV (st' := [(0, b2)]) (show jfI 268 14 (.invokevirtual 494) 3 [1, 259, 2, 9116] = true by decide +kernel) rfl (Or.inl rfl) rfl (Nat.le_of_ble_eq_true rfl) (by decide +kernel) (by decide) (isX12_L ho0) ((t_M_diskAt (T := T) (xs := xs) ho0 Hb2).mono (jKle 1 hd)) rfl ?_
  refine jEv.blk [(.istore 4, 2, []), (.aload_n 0, 1, [])] (by decide +kernel) (pc' := 20) (ls' := [(2, Int.ofNat o0), (0, v1), (0, v2), (0, b1), (0, b2), (3, 0), (3, 0), (3, 0)]) (st' := [(2, Int.ofNat o0)]) rfl ?_
  refine jEv.gfI (show jfI 268 20 (.getfield 500) 3 [12, 63, 0, 0, 7099] = true by decide +kernel) (isX12_L ho0) (by decide) ?_
  refine jEv.blk [(.istore 5, 2, []), (.aload_n 0, 1, [])] (by decide +kernel) (pc' := 26) (ls' := [(2, Int.ofNat o0), (0, v1), (0, v2), (0, b1), (0, b2), (0, (h o0 63)), (3, 0), (3, 0)]) (st' := [(2, Int.ofNat o0)]) rfl ?_
  refine jEv.gfI (show jfI 268 26 (.getfield 503) 3 [12, 64, 0, 0, 7100] = true by decide +kernel) (isX12_L ho0) (by decide) ?_
  refine jEv.blk [(.istore 6, 2, []), (.iconst 0, 1, []), (.istore 7, 2, [])] (by decide +kernel) (pc' := 34) (ls' := [(2, Int.ofNat o0), (0, v1), (0, v2), (0, b1), (0, b2), (0, (h o0 63)), (0, (h o0 64)), (0, 0)]) (st' := []) rfl ?_
  exact t_M_isBorne_L34 (T := T) (xs := xs) (y := y) hd ho0 H HY
set_option maxRecDepth 20000 in
noncomputable def M_recordRead_p59  (h : jH) (o0 : Nat) : Option jH := some (jup h o0 62 (wr ((h o0 62) + 1)))
set_option maxRecDepth 20000 in
theorem t_M_recordRead_p59 {T : jT} {xs : List Int} {d : Nat} {y : jV × jS} (hd : 0 ≤ d) {h : jH}  {o0 : Nat} {out : jH} (ho0 : isX12 T o0) (H : M_recordRead_p59 h o0 = some out) (HY : ykV T y out) : jEv xs d (269, 59, [(2, Int.ofNat o0), (3, 0)], []) (T, h) y := by
  unfold M_recordRead_p59 at H
  refine jEv.blk [(.aload_n 0, 1, []), (.dup, 1, [])] (by decide +kernel) (pc' := 61) (ls' := [(2, Int.ofNat o0), (3, 0)]) (st' := [(2, Int.ofNat o0), (2, Int.ofNat o0)]) rfl ?_
  refine jEv.gfI (show jfI 269 61 (.getfield 510) 3 [12, 62, 0, 0, 7098] = true by decide +kernel) (isX12_L ho0) (by decide) ?_
  refine jEv.blk [(.iconst 1, 1, []), (.iadd, 1, [])] (by decide +kernel) (pc' := 66) (ls' := [(2, Int.ofNat o0), (3, 0)]) (st' := [(0, (wr ((h o0 62) + 1))), (2, Int.ofNat o0)]) rfl ?_
  refine jEv.pfI (show jfI 269 66 (.putfield 510) 3 [12, 62, 0, 0, 7098] = true by decide +kernel) (isX12_L ho0) (by decide) ?_
  exact jEv.retV (show jfI 269 69 (.return_) 1 [] = true by decide +kernel) (by decide +kernel) (by cases H; exact HY)
set_option maxRecDepth 20000 in
noncomputable def M_recordRead_p45  (h : jH) (o0 : Nat) (v1 : Int) : Option jH := (if (0 : Int) ≤ (wr (192 + v1)) ∧ ((wr (192 + v1)) : Int).toNat < 2365 then M_recordRead_p59 (jup h (o0 + 33) ((wr (192 + v1)) : Int).toNat (h o0 62)) o0 else none)
set_option maxRecDepth 20000 in
theorem t_M_recordRead_p45 {T : jT} {xs : List Int} {d : Nat} {y : jV × jS} (hd : 0 ≤ d) {h : jH}  {o0 : Nat} {v1 : Int} {out : jH} (ho0 : isX12 T o0) (H : M_recordRead_p45 h o0 v1 = some out) (HY : ykV T y out) : jEv xs d (269, 45, [(2, Int.ofNat o0), (0, v1)], []) (T, h) y := by
  unfold M_recordRead_p45 at H
  refine jEv.blk [(.aload_n 0, 1, [])] (by decide +kernel) (pc' := 46) (ls' := [(2, Int.ofNat o0), (0, v1)]) (st' := [(2, Int.ofNat o0)]) rfl ?_
  refine jEv.gfR (o' := (o0 + 33)) (show jfI 269 46 (.getfield 111) 3 [12, 45, 5, 0, 7081] = true by decide +kernel) (isX12_L ho0) (by decide) (isX12_r45 ho0) ?_
  refine jEv.blk [(.sipush 192, 3, []), (.iload_n 1, 1, []), (.iadd, 1, []), (.aload_n 0, 1, [])] (by decide +kernel) (pc' := 55) (ls' := [(2, Int.ofNat o0), (0, v1)]) (st' := [(2, Int.ofNat o0), (0, (wr (192 + v1))), (2, Int.ofNat (o0 + 33))]) rfl ?_
  refine jEv.gfI (show jfI 269 55 (.getfield 510) 3 [12, 62, 0, 0, 7098] = true by decide +kernel) (isX12_L ho0) (by decide) ?_
  refine jEv.ast (Or.inl ⟨rfl, rfl, rfl⟩) (show jfI 269 58 (.iastore) 1 [] = true by decide +kernel) (isX12_a45 ho0) rfl H (fun c5 H => ?_)
  exact jEv.weak (a := [(2, Int.ofNat o0), (3, 0)]) (jles.c1 (jles.c0 jles.nl)) (t_M_recordRead_p59 (T := T) (xs := xs) (y := y) hd ho0 H HY)
set_option maxRecDepth 20000 in
noncomputable def M_recordRead  (h : jH) (o0 : Nat) (v1 : Int) : Option jH := (if (h o0 65) = 0 then M_recordRead_p59 h o0 else (if (0 : Int) ≤ 9 ∧ (9 : Int).toNat < 2365 then (if (h o0 62) < (h (o0 + 33) (9 : Int).toNat) then M_recordRead_p45 h o0 v1 else (if (0 : Int) ≤ (wr (144 + (jshr (h o0 64) 16))) ∧ ((wr (144 + (jshr (h o0 64) 16))) : Int).toNat < 2365 then M_recordRead_p45 (jup h (o0 + 33) ((wr (144 + (jshr (h o0 64) 16))) : Int).toNat (jand (h o0 64) 65535)) o0 v1 else none)) else none))
set_option maxRecDepth 20000 in
theorem t_M_recordRead {T : jT} {xs : List Int} {h : jH}  {o0 : Nat} {v1 : Int} {out : jH} (ho0 : isX12 T o0) (H : M_recordRead h o0 v1 = some out) : jEm xs 1 269 [(2, Int.ofNat o0), (0, v1)] (T, h) ((3, 0), (T, out)) := by
  have hd : 0 ≤ 0 := Nat.le_refl _
  obtain ⟨y, ey⟩ : ∃ y : jV × jS, y = ((3, 0), (T, out)) := ⟨_, rfl⟩
  rw [← ey]
  have HY : ykV T y out := ey
  refine jEm.ent (n := 2) (by decide +kernel) (Nat.le_of_ble_eq_true rfl) ?_
  show jEv xs 0 (269, 0, [(2, Int.ofNat o0), (0, v1)], []) (T, h) y
  unfold M_recordRead at H
  refine jEv.blk [(.aload_n 0, 1, [])] (by decide +kernel) (pc' := 1) (ls' := [(2, Int.ofNat o0), (0, v1)]) (st' := [(2, Int.ofNat o0)]) rfl ?_
  refine jEv.gfI (show jfI 269 1 (.getfield 507) 3 [12, 65, 0, 1, 7101] = true by decide +kernel) (isX12_L ho0) (by decide) ?_
  refine jEv.if_eq (t := 59) (show jfI 269 4 (.ifCond .eq 55) 3 [] = true by decide +kernel) rfl H (fun c1 H => ?_) (fun c1 H => ?_)
  · exact jEv.weak (a := [(2, Int.ofNat o0), (3, 0)]) (jles.c1 (jles.c0 jles.nl)) (t_M_recordRead_p59 (T := T) (xs := xs) (y := y) hd ho0 H HY)
  · refine jEv.blk [(.aload_n 0, 1, [])] (by decide +kernel) (pc' := 8) (ls' := [(2, Int.ofNat o0), (0, v1)]) (st' := [(2, Int.ofNat o0)]) rfl ?_
    refine jEv.gfI (show jfI 269 8 (.getfield 510) 3 [12, 62, 0, 0, 7098] = true by decide +kernel) (isX12_L ho0) (by decide) ?_
    refine jEv.blk [(.aload_n 0, 1, [])] (by decide +kernel) (pc' := 12) (ls' := [(2, Int.ofNat o0), (0, v1)]) (st' := [(2, Int.ofNat o0), (0, (h o0 62))]) rfl ?_
    refine jEv.gfR (o' := (o0 + 33)) (show jfI 269 12 (.getfield 111) 3 [12, 45, 5, 0, 7081] = true by decide +kernel) (isX12_L ho0) (by decide) (isX12_r45 ho0) ?_
    refine jEv.blk [(.bipush 9, 2, [])] (by decide +kernel) (pc' := 17) (ls' := [(2, Int.ofNat o0), (0, v1)]) (st' := [(0, 9), (2, Int.ofNat (o0 + 33)), (0, (h o0 62))]) rfl ?_
    refine jEv.ald (Or.inl ⟨rfl, rfl, rfl⟩) (show jfI 269 17 (.iaload) 1 [] = true by decide +kernel) (isX12_a45 ho0) H (fun c2 H => ?_)
    refine jEv.ic_lt (t := 45) (show jfI 269 18 (.if_icmp .lt 27) 3 [] = true by decide +kernel) rfl H (fun c3 H => ?_) (fun c3 H => ?_)
    · exact t_M_recordRead_p45 (T := T) (xs := xs) (y := y) hd ho0 H HY
    · refine jEv.blk [(.aload_n 0, 1, [])] (by decide +kernel) (pc' := 22) (ls' := [(2, Int.ofNat o0), (0, v1)]) (st' := [(2, Int.ofNat o0)]) rfl ?_
      refine jEv.gfR (o' := (o0 + 33)) (show jfI 269 22 (.getfield 111) 3 [12, 45, 5, 0, 7081] = true by decide +kernel) (isX12_L ho0) (by decide) (isX12_r45 ho0) ?_
      refine jEv.blk [(.sipush 144, 3, []), (.aload_n 0, 1, [])] (by decide +kernel) (pc' := 29) (ls' := [(2, Int.ofNat o0), (0, v1)]) (st' := [(2, Int.ofNat o0), (0, 144), (2, Int.ofNat (o0 + 33))]) rfl ?_
      refine jEv.gfI (show jfI 269 29 (.getfield 503) 3 [12, 64, 0, 0, 7100] = true by decide +kernel) (isX12_L ho0) (by decide) ?_
      refine jEv.blk [(.bipush 16, 2, []), (.ishr, 1, []), (.iadd, 1, []), (.aload_n 0, 1, [])] (by decide +kernel) (pc' := 37) (ls' := [(2, Int.ofNat o0), (0, v1)]) (st' := [(2, Int.ofNat o0), (0, (wr (144 + (jshr (h o0 64) 16)))), (2, Int.ofNat (o0 + 33))]) rfl ?_
      refine jEv.gfI (show jfI 269 37 (.getfield 503) 3 [12, 64, 0, 0, 7100] = true by decide +kernel) (isX12_L ho0) (by decide) ?_
      refine jEv.blk [(.ldc_w 506, 3, [0, 0, 65535, 9156]), (.iand, 1, [])] (by decide +kernel) (pc' := 44) (ls' := [(2, Int.ofNat o0), (0, v1)]) (st' := [(0, (jand (h o0 64) 65535)), (0, (wr (144 + (jshr (h o0 64) 16)))), (2, Int.ofNat (o0 + 33))]) rfl ?_
      refine jEv.ast (Or.inl ⟨rfl, rfl, rfl⟩) (show jfI 269 44 (.iastore) 1 [] = true by decide +kernel) (isX12_a45 ho0) rfl H (fun c4 H => ?_)
      exact t_M_recordRead_p45 (T := T) (xs := xs) (y := y) hd ho0 H HY
def yk_M_walks_L29 (T : jT) (xs : List Int) (d : Nat) (y : jV × jS)  (o0 : Nat) (v1 : Int) : ((Int × Int × jH) ⊕ jH) → Prop
  | .inl (v2, v3, h) => jEv xs d (265, 29, [(2, Int.ofNat o0), (0, v1), (0, v2), (0, v3), (3, 0)], []) (T, h) y
  | .inr o => ykV T y o
set_option maxRecDepth 20000 in
noncomputable def M_walks_p106  (h : jH) (o0 : Nat) (v1 : Int) (v2 : Int) (v3 : Int) : Option ((Int × Int × jH) ⊕ jH) := some (.inl (v2, v3, (jup h o0 61 v3)))
set_option maxRecDepth 20000 in
theorem t_M_walks_p106 {T : jT} {xs : List Int} {d : Nat} {y : jV × jS} (hd : 3 ≤ d) {h : jH}  {o0 : Nat} {v1 : Int} {v2 : Int} {v3 : Int} {out : ((Int × Int × jH) ⊕ jH)} (ho0 : isX12 T o0) (H : M_walks_p106 h o0 v1 v2 v3 = some out) (HY : yk_M_walks_L29 T xs d y o0 v1 out) : jEv xs d (265, 106, [(2, Int.ofNat o0), (0, v1), (0, v2), (0, v3), (3, 0)], []) (T, h) y := by
  unfold M_walks_p106 at H
  refine jEv.blk [(.aload_n 0, 1, []), (.iload_n 3, 1, [])] (by decide +kernel) (pc' := 108) (ls' := [(2, Int.ofNat o0), (0, v1), (0, v2), (0, v3), (3, 0)]) (st' := [(0, v3), (2, Int.ofNat o0)]) rfl ?_
  refine jEv.pfI (show jfI 265 108 (.putfield 519) 3 [12, 61, 0, 0, 7097] = true by decide +kernel) (isX12_L ho0) (by decide) ?_
  refine jEv.goto (t := 29) (show jfI 265 111 (.goto (-82)) 3 [] = true by decide +kernel) rfl ?_
  exact (by cases H; exact HY)
set_option maxRecDepth 20000 in
noncomputable def M_walks_p163  (h : jH) (o0 : Nat) (v1 : Int) (v3 : Int) (vs0 : Int) : Option ((Int × Int × jH) ⊕ jH) := Option.bind (M_diskAt h o0 v1 (wr (v3 + 2))) (fun b20 => (if vs0 = 0 then Option.bind (M_recordRead h o0 v1) (fun b22 => some (.inl (vs0, (wr (v3 + (wr (4 + b20)))), (jup (jup (jup b22 o0 60 (wr (v3 + (wr (4 + b20))))) o0 63 0) o0 64 0)))) else some (.inl (vs0, (wr (v3 + (wr (4 + b20)))), h))))
set_option maxRecDepth 20000 in
theorem t_M_walks_p163 {T : jT} {xs : List Int} {d : Nat} {y : jV × jS} (hd : 3 ≤ d) {h : jH}  {o0 : Nat} {v1 : Int} {v3 : Int} {vs0 : Int} {out : ((Int × Int × jH) ⊕ jH)} (ho0 : isX12 T o0) (H : M_walks_p163 h o0 v1 v3 vs0 = some out) (HY : yk_M_walks_L29 T xs d y o0 v1 out) : jEv xs d (265, 163, [(2, Int.ofNat o0), (0, v1), (3, 0), (0, v3), (3, 0)], [(0, vs0)]) (T, h) y := by
  unfold M_walks_p163 at H
  refine jEv.blk [(.istore_n 2, 1, []), (.iload_n 3, 1, []), (.iconst 4, 1, []), (.aload_n 0, 1, []), (.iload_n 1, 1, []), (.iload_n 3, 1, []), (.iconst 2, 1, []), (.iadd, 1, [])] (by decide +kernel) (pc' := 171) (ls' := [(2, Int.ofNat o0), (0, v1), (0, vs0), (0, v3), (3, 0)]) (st' := [(0, (wr (v3 + 2))), (0, v1), (2, Int.ofNat o0), (0, 4), (0, v3)]) rfl ?_
  refine jbind H (fun b20 Hb20 H => ?_)
  refine jEv.calV (st' := [(0, b20), (0, 4), (0, v3)]) (show jfI 265 171 (.invokevirtual 494) 3 [1, 259, 2, 9116] = true by decide +kernel) rfl (Or.inl rfl) rfl (Nat.le_of_ble_eq_true rfl) (by decide +kernel) (by decide) (isX12_L ho0) ((t_M_diskAt (T := T) (xs := xs) ho0 Hb20).mono (jKle 1 hd)) rfl ?_
  refine jEv.blk [(.iadd, 1, []), (.iadd, 1, []), (.istore_n 3, 1, []), (.iload_n 2, 1, [])] (by decide +kernel) (pc' := 178) (ls' := [(2, Int.ofNat o0), (0, v1), (0, vs0), (0, (wr (v3 + (wr (4 + b20))))), (3, 0)]) (st' := [(0, vs0)]) rfl ?_
  refine jEv.if_eq (t := 184) (show jfI 265 178 (.ifCond .eq 6) 3 [] = true by decide +kernel) rfl H (fun c21 H => ?_) (fun c21 H => ?_)
  · refine jEv.blk [(.aload_n 0, 1, []), (.iload_n 1, 1, [])] (by decide +kernel) (pc' := 186) (ls' := [(2, Int.ofNat o0), (0, v1), (0, vs0), (0, (wr (v3 + (wr (4 + b20))))), (3, 0)]) (st' := [(0, v1), (2, Int.ofNat o0)]) rfl ?_
    refine jbind H (fun b22 Hb22 H => ?_)
    refine jEv.calV (st' := []) (show jfI 265 186 (.invokevirtual 532) 3 [1, 269, 1, 9157] = true by decide +kernel) rfl (Or.inl rfl) rfl (Nat.le_of_ble_eq_true rfl) (by decide +kernel) (by decide) (isX12_L ho0) ((t_M_recordRead (T := T) (xs := xs) ho0 Hb22).mono (jKle 1 hd)) rfl ?_
    refine jEv.blk [(.aload_n 0, 1, []), (.iload_n 3, 1, [])] (by decide +kernel) (pc' := 191) (ls' := [(2, Int.ofNat o0), (0, v1), (0, vs0), (0, (wr (v3 + (wr (4 + b20))))), (3, 0)]) (st' := [(0, (wr (v3 + (wr (4 + b20))))), (2, Int.ofNat o0)]) rfl ?_
    refine jEv.pfI (show jfI 265 191 (.putfield 516) 3 [12, 60, 0, 0, 7096] = true by decide +kernel) (isX12_L ho0) (by decide) ?_
    refine jEv.blk [(.aload_n 0, 1, []), (.iconst 0, 1, [])] (by decide +kernel) (pc' := 196) (ls' := [(2, Int.ofNat o0), (0, v1), (0, vs0), (0, (wr (v3 + (wr (4 + b20))))), (3, 0)]) (st' := [(0, 0), (2, Int.ofNat o0)]) rfl ?_
    refine jEv.pfI (show jfI 265 196 (.putfield 500) 3 [12, 63, 0, 0, 7099] = true by decide +kernel) (isX12_L ho0) (by decide) ?_
    refine jEv.blk [(.aload_n 0, 1, []), (.iconst 0, 1, [])] (by decide +kernel) (pc' := 201) (ls' := [(2, Int.ofNat o0), (0, v1), (0, vs0), (0, (wr (v3 + (wr (4 + b20))))), (3, 0)]) (st' := [(0, 0), (2, Int.ofNat o0)]) rfl ?_
    refine jEv.pfI (show jfI 265 201 (.putfield 503) 3 [12, 64, 0, 0, 7100] = true by decide +kernel) (isX12_L ho0) (by decide) ?_
    refine jEv.goto (t := 29) (show jfI 265 204 (.goto (-175)) 3 [] = true by decide +kernel) rfl ?_
    exact (by cases H; exact HY)
  · refine jEv.goto (t := 29) (show jfI 265 181 (.goto (-152)) 3 [] = true by decide +kernel) rfl ?_
    exact (by cases H; exact HY)
set_option maxRecDepth 20000 in
noncomputable def M_walks_p158  (h : jH) (o0 : Nat) (v1 : Int) (v3 : Int) : Option ((Int × Int × jH) ⊕ jH) := M_walks_p163 h o0 v1 v3 1
set_option maxRecDepth 20000 in
theorem t_M_walks_p158 {T : jT} {xs : List Int} {d : Nat} {y : jV × jS} (hd : 3 ≤ d) {h : jH}  {o0 : Nat} {v1 : Int} {v3 : Int} {out : ((Int × Int × jH) ⊕ jH)} (ho0 : isX12 T o0) (H : M_walks_p158 h o0 v1 v3 = some out) (HY : yk_M_walks_L29 T xs d y o0 v1 out) : jEv xs d (265, 158, [(2, Int.ofNat o0), (0, v1), (3, 0), (0, v3), (3, 0)], []) (T, h) y := by
  unfold M_walks_p158 at H
  refine jEv.blk [(.iconst 1, 1, [])] (by decide +kernel) (pc' := 159) (ls' := [(2, Int.ofNat o0), (0, v1), (3, 0), (0, v3), (3, 0)]) (st' := [(0, 1)]) rfl ?_
  refine jEv.goto (t := 163) (show jfI 265 159 (.goto 4) 3 [] = true by decide +kernel) rfl ?_
  exact t_M_walks_p163 (T := T) (xs := xs) (y := y) hd ho0 H HY
set_option maxRecDepth 20000 in
noncomputable def M_walks_p207  (h : jH) (o0 : Nat) : Option jH := (if (h o0 61) = (-1) then Option.bind (M_length h o0) (fun b24 => some (jup h o0 61 b24)) else some h)
set_option maxRecDepth 20000 in
theorem t_M_walks_p207 {T : jT} {xs : List Int} {d : Nat} {y : jV × jS} (hd : 3 ≤ d) {h : jH}  {o0 : Nat} {out : jH} (ho0 : isX12 T o0) (H : M_walks_p207 h o0 = some out) (HY : ykV T y out) : jEv xs d (265, 207, [(2, Int.ofNat o0), (3, 0), (3, 0), (3, 0), (3, 0)], []) (T, h) y := by
  unfold M_walks_p207 at H
  refine jEv.blk [(.aload_n 0, 1, [])] (by decide +kernel) (pc' := 208) (ls' := [(2, Int.ofNat o0), (3, 0), (3, 0), (3, 0), (3, 0)]) (st' := [(2, Int.ofNat o0)]) rfl ?_
  refine jEv.gfI (show jfI 265 208 (.getfield 519) 3 [12, 61, 0, 0, 7097] = true by decide +kernel) (isX12_L ho0) (by decide) ?_
  refine jEv.blk [(.iconst (-1), 1, [])] (by decide +kernel) (pc' := 212) (ls' := [(2, Int.ofNat o0), (3, 0), (3, 0), (3, 0), (3, 0)]) (st' := [(0, (-1)), (0, (h o0 61))]) rfl ?_
  refine jEv.ic_ne (t := 223) (show jfI 265 212 (.if_icmp .ne 11) 3 [] = true by decide +kernel) rfl H (fun c23 H => ?_) (fun c23 H => ?_)
  · refine jEv.blk [(.aload_n 0, 1, []), (.aload_n 0, 1, [])] (by decide +kernel) (pc' := 217) (ls' := [(2, Int.ofNat o0), (3, 0), (3, 0), (3, 0), (3, 0)]) (st' := [(2, Int.ofNat o0), (2, Int.ofNat o0)]) rfl ?_
    refine jbind H (fun b24 Hb24 H => ?_)
    refine jEv.calV (st' := [(0, b24), (2, Int.ofNat o0)]) (show jfI 265 217 (.invokevirtual 402) 3 [1, 249, 0, 9076] = true by decide +kernel) rfl (Or.inl rfl) rfl (Nat.le_of_ble_eq_true rfl) (by decide +kernel) (by decide) (isX12_L ho0) ((t_M_length (T := T) (xs := xs) ho0 Hb24).mono (jKle 1 hd)) rfl ?_
    refine jEv.pfI (show jfI 265 220 (.putfield 519) 3 [12, 61, 0, 0, 7097] = true by decide +kernel) (isX12_L ho0) (by decide) ?_
    exact jEv.retV (show jfI 265 223 (.return_) 1 [] = true by decide +kernel) (by decide +kernel) (by cases H; exact HY)
  · exact jEv.retV (show jfI 265 223 (.return_) 1 [] = true by decide +kernel) (by decide +kernel) (by cases H; exact HY)
set_option maxRecDepth 20000 in
noncomputable def M_walks_B29  (h : jH) (o0 : Nat) (v1 : Int) (v2 : Int) (v3 : Int) : Option ((Int × Int × jH) ⊕ jH) := Option.bind (M_length h o0) (fun b1 => (if v3 < b1 then (if (h o0 61) = (-1) then Option.bind (M_blockBytes h o0) (fun b4 => Option.bind (M_blockBytes h o0) (fun b5 => (if b5 ≠ 0 then (if 4 < (wr (b4 - (Int.tmod v3 b5))) then Option.bind (M_isFrame h o0 v1 v3) (fun b8 => (if b8 = 0 then M_walks_p106 h o0 v1 v2 v3 else Option.bind (M_diskAt h o0 v1 (wr (v3 + 1))) (fun b10 => Option.bind (M_canBe o0 b10 v2) (fun b11 => (if b11 = 0 then M_walks_p106 h o0 v1 v2 v3 else Option.bind (M_isBorne h o0 v1 v3) (fun b13 => (if b13.1 = 0 then M_walks_p106 b13.2 o0 v1 v2 v3 else (if (0 : Int) ≤ (b13.2 o0 59) ∧ ((b13.2 o0 59) : Int).toNat < 128 then Option.bind (M_diskAt (jup (jup b13.2 (o0 + 37) ((b13.2 o0 59) : Int).toNat v3) o0 59 (wr (((jup b13.2 (o0 + 37) ((b13.2 o0 59) : Int).toNat v3) o0 59) + 1))) o0 v1 (wr (v3 + 1))) (fun b16 => (if b16 = 2 then M_walks_p158 (jup (jup b13.2 (o0 + 37) ((b13.2 o0 59) : Int).toNat v3) o0 59 (wr (((jup b13.2 (o0 + 37) ((b13.2 o0 59) : Int).toNat v3) o0 59) + 1))) o0 v1 v3 else Option.bind (M_diskAt (jup (jup b13.2 (o0 + 37) ((b13.2 o0 59) : Int).toNat v3) o0 59 (wr (((jup b13.2 (o0 + 37) ((b13.2 o0 59) : Int).toNat v3) o0 59) + 1))) o0 v1 (wr (v3 + 1))) (fun b18 => (if b18 = 3 then M_walks_p158 (jup (jup b13.2 (o0 + 37) ((b13.2 o0 59) : Int).toNat v3) o0 59 (wr (((jup b13.2 (o0 + 37) ((b13.2 o0 59) : Int).toNat v3) o0 59) + 1))) o0 v1 v3 else M_walks_p163 (jup (jup b13.2 (o0 + 37) ((b13.2 o0 59) : Int).toNat v3) o0 59 (wr (((jup b13.2 (o0 + 37) ((b13.2 o0 59) : Int).toNat v3) o0 59) + 1))) o0 v1 v3 0)))) else none)))))))) else some (.inl (v2, (wr (v3 + (wr (b4 - (Int.tmod v3 b5))))), h))) else none))) else Option.map Sum.inr (M_walks_p207 h o0)) else Option.map Sum.inr (M_walks_p207 h o0)))
noncomputable def M_walks_L29  (h : jH) (o0 : Nat) (v1 : Int) (v2 : Int) (v3 : Int) : Option jH := jloop (fun s : (Int × Int × jH) => M_walks_B29 s.2.2 o0 v1 s.1 s.2.1) (v2, v3, h)
set_option maxRecDepth 20000 in
theorem t_M_walks_B29 {T : jT} {xs : List Int} {d : Nat} {y : jV × jS} (hd : 3 ≤ d) {h : jH}  {o0 : Nat} {v1 : Int} {v2 : Int} {v3 : Int} {out : ((Int × Int × jH) ⊕ jH)} (ho0 : isX12 T o0) (H : M_walks_B29 h o0 v1 v2 v3 = some out) (HY : yk_M_walks_L29 T xs d y o0 v1 out) : jEv xs d (265, 29, [(2, Int.ofNat o0), (0, v1), (0, v2), (0, v3), (3, 0)], []) (T, h) y := by
  unfold M_walks_B29 at H
  refine jEv.blk [(.iload_n 3, 1, []), (.aload_n 0, 1, [])] (by decide +kernel) (pc' := 31) (ls' := [(2, Int.ofNat o0), (0, v1), (0, v2), (0, v3), (3, 0)]) (st' := [(2, Int.ofNat o0), (0, v3)]) rfl ?_
  refine jbind H (fun b1 Hb1 H => ?_)
  refine jEv.calV (st' := [(0, b1), (0, v3)]) (show jfI 265 31 (.invokevirtual 402) 3 [1, 249, 0, 9076] = true by decide +kernel) rfl (Or.inl rfl) rfl (Nat.le_of_ble_eq_true rfl) (by decide +kernel) (by decide) (isX12_L ho0) ((t_M_length (T := T) (xs := xs) ho0 Hb1).mono (jKle 1 hd)) rfl ?_
  refine jEv.ic_ge (t := 207) (show jfI 265 34 (.if_icmp .ge 173) 3 [] = true by decide +kernel) rfl H (fun c2 H => ?_) (fun c2 H => ?_)
  · refine jEv.blk [(.aload_n 0, 1, [])] (by decide +kernel) (pc' := 38) (ls' := [(2, Int.ofNat o0), (0, v1), (0, v2), (0, v3), (3, 0)]) (st' := [(2, Int.ofNat o0)]) rfl ?_
    refine jEv.gfI (show jfI 265 38 (.getfield 519) 3 [12, 61, 0, 0, 7097] = true by decide +kernel) (isX12_L ho0) (by decide) ?_
    refine jEv.blk [(.iconst (-1), 1, [])] (by decide +kernel) (pc' := 42) (ls' := [(2, Int.ofNat o0), (0, v1), (0, v2), (0, v3), (3, 0)]) (st' := [(0, (-1)), (0, (h o0 61))]) rfl ?_
    refine jEv.ic_ne (t := 207) (show jfI 265 42 (.if_icmp .ne 165) 3 [] = true by decide +kernel) rfl H (fun c3 H => ?_) (fun c3 H => ?_)
    · refine jEv.blk [(.aload_n 0, 1, [])] (by decide +kernel) (pc' := 46) (ls' := [(2, Int.ofNat o0), (0, v1), (0, v2), (0, v3), (3, 0)]) (st' := [(2, Int.ofNat o0)]) rfl ?_
      refine jbind H (fun b4 Hb4 H => ?_)
      refine jEv.calV (st' := [(0, b4)]) (show jfI 265 46 (.invokevirtual 405) 3 [1, 250, 0, 9080] = true by decide +kernel) rfl (Or.inl rfl) rfl (Nat.le_of_ble_eq_true rfl) (by decide +kernel) (by decide) (isX12_L ho0) ((t_M_blockBytes (T := T) (xs := xs) ho0 Hb4).mono (jKle 1 hd)) rfl ?_
      refine jEv.blk [(.iload_n 3, 1, []), (.aload_n 0, 1, [])] (by decide +kernel) (pc' := 51) (ls' := [(2, Int.ofNat o0), (0, v1), (0, v2), (0, v3), (3, 0)]) (st' := [(2, Int.ofNat o0), (0, v3), (0, b4)]) rfl ?_
      refine jbind H (fun b5 Hb5 H => ?_)
      refine jEv.calV (st' := [(0, b5), (0, v3), (0, b4)]) (show jfI 265 51 (.invokevirtual 405) 3 [1, 250, 0, 9080] = true by decide +kernel) rfl (Or.inl rfl) rfl (Nat.le_of_ble_eq_true rfl) (by decide +kernel) (by decide) (isX12_L ho0) ((t_M_blockBytes (T := T) (xs := xs) ho0 Hb5).mono (jKle 1 hd)) rfl ?_
      refine jchk H (fun c6 H => ?_)
      refine jEv.irem (show jfI 265 54 (.irem) 1 [] = true by decide +kernel) c6 ?_
      refine jEv.blk [(.isub, 1, []), (.istore 4, 2, []), (.iload 4, 2, []), (.iconst 4, 1, [])] (by decide +kernel) (pc' := 61) (ls' := [(2, Int.ofNat o0), (0, v1), (0, v2), (0, v3), (0, (wr (b4 - (Int.tmod v3 b5))))]) (st' := [(0, 4), (0, (wr (b4 - (Int.tmod v3 b5))))]) rfl ?_
      refine jEv.ic_gt (t := 72) (show jfI 265 61 (.if_icmp .gt 11) 3 [] = true by decide +kernel) rfl H (fun c7 H => ?_) (fun c7 H => ?_)
      · refine jEv.blk [(.aload_n 0, 1, []), (.iload_n 1, 1, []), (.iload_n 3, 1, [])] (by decide +kernel) (pc' := 75) (ls' := [(2, Int.ofNat o0), (0, v1), (0, v2), (0, v3), (0, (wr (b4 - (Int.tmod v3 b5))))]) (st' := [(0, v3), (0, v1), (2, Int.ofNat o0)]) rfl ?_
        refine jbind H (fun b8 Hb8 H => ?_)
        refine jEv.calV (st' := [(0, b8)]) (show jfI 265 75 (.invokevirtual 522) 3 [1, 266, 2, 9144] = true by decide +kernel) rfl (Or.inl rfl) rfl (Nat.le_of_ble_eq_true rfl) (by decide +kernel) (by decide) (isX12_L ho0) ((t_M_isFrame (T := T) (xs := xs) ho0 Hb8).mono (jKle 3 hd)) rfl ?_
        refine jEv.if_eq (t := 106) (show jfI 265 78 (.ifCond .eq 28) 3 [] = true by decide +kernel) rfl H (fun c9 H => ?_) (fun c9 H => ?_)
        · exact jEv.weak (a := [(2, Int.ofNat o0), (0, v1), (0, v2), (0, v3), (3, 0)]) (jles.c1 (jles.c1 (jles.c1 (jles.c1 (jles.c0 jles.nl))))) (t_M_walks_p106 (T := T) (xs := xs) (y := y) hd ho0 H HY)
        · refine jEv.blk [(.aload_n 0, 1, []), (.aload_n 0, 1, []), (.iload_n 1, 1, []), (.iload_n 3, 1, []), (.iconst 1, 1, []), (.iadd, 1, [])] (by decide +kernel) (pc' := 87) (ls' := [(2, Int.ofNat o0), (0, v1), (0, v2), (0, v3), (0, (wr (b4 - (Int.tmod v3 b5))))]) (st' := [(0, (wr (v3 + 1))), (0, v1), (2, Int.ofNat o0), (2, Int.ofNat o0)]) rfl ?_
          refine jbind H (fun b10 Hb10 H => ?_)
          refine jEv.calV (st' := [(0, b10), (2, Int.ofNat o0)]) (show jfI 265 87 (.invokevirtual 494) 3 [1, 259, 2, 9116] = true by decide +kernel) rfl (Or.inl rfl) rfl (Nat.le_of_ble_eq_true rfl) (by decide +kernel) (by decide) (isX12_L ho0) ((t_M_diskAt (T := T) (xs := xs) ho0 Hb10).mono (jKle 1 hd)) rfl ?_
          refine jEv.blk [(.iload_n 2, 1, [])] (by decide +kernel) (pc' := 91) (ls' := [(2, Int.ofNat o0), (0, v1), (0, v2), (0, v3), (0, (wr (b4 - (Int.tmod v3 b5))))]) (st' := [(0, v2), (0, b10), (2, Int.ofNat o0)]) rfl ?_
          refine jbind H (fun b11 Hb11 H => ?_)
          refine jEv.calV (st' := [(0, b11)]) (show jfI 265 91 (.invokevirtual 525) 3 [1, 267, 2, 9148] = true by decide +kernel) rfl (Or.inl rfl) rfl (Nat.le_of_ble_eq_true rfl) (by decide +kernel) (by decide) (isX12_L ho0) ((t_M_canBe (T := T) (xs := xs) ho0 Hb11).mono (jKle 1 hd)) rfl ?_
          refine jEv.if_eq (t := 106) (show jfI 265 94 (.ifCond .eq 12) 3 [] = true by decide +kernel) rfl H (fun c12 H => ?_) (fun c12 H => ?_)
          · exact jEv.weak (a := [(2, Int.ofNat o0), (0, v1), (0, v2), (0, v3), (3, 0)]) (jles.c1 (jles.c1 (jles.c1 (jles.c1 (jles.c0 jles.nl))))) (t_M_walks_p106 (T := T) (xs := xs) (y := y) hd ho0 H HY)
          · refine jEv.blk [(.aload_n 0, 1, []), (.iload_n 1, 1, []), (.iload_n 3, 1, [])] (by decide +kernel) (pc' := 100) (ls' := [(2, Int.ofNat o0), (0, v1), (0, v2), (0, v3), (0, (wr (b4 - (Int.tmod v3 b5))))]) (st' := [(0, v3), (0, v1), (2, Int.ofNat o0)]) rfl ?_
            refine jbind H (fun b13 Hb13 H => ?_)
            refine jEv.calV (st' := [(0, b13.1)]) (show jfI 265 100 (.invokevirtual 529) 3 [1, 268, 2, 9152] = true by decide +kernel) rfl (Or.inl rfl) rfl (Nat.le_of_ble_eq_true rfl) (by decide +kernel) (by decide) (isX12_L ho0) ((t_M_isBorne (T := T) (xs := xs) ho0 Hb13).mono (jKle 2 hd)) rfl ?_
            refine jEv.if_ne (t := 114) (show jfI 265 103 (.ifCond .ne 11) 3 [] = true by decide +kernel) rfl H (fun c14 H => ?_) (fun c14 H => ?_)
            · exact jEv.weak (a := [(2, Int.ofNat o0), (0, v1), (0, v2), (0, v3), (3, 0)]) (jles.c1 (jles.c1 (jles.c1 (jles.c1 (jles.c0 jles.nl))))) (t_M_walks_p106 (T := T) (xs := xs) (y := y) hd ho0 H HY)
            · refine jEv.blk [(.aload_n 0, 1, [])] (by decide +kernel) (pc' := 115) (ls' := [(2, Int.ofNat o0), (0, v1), (0, v2), (0, v3), (0, (wr (b4 - (Int.tmod v3 b5))))]) (st' := [(2, Int.ofNat o0)]) rfl ?_
              refine jEv.gfR (o' := (o0 + 37)) (show jfI 265 115 (.getfield 126) 3 [12, 58, 5, 0, 7094] = true by decide +kernel) (isX12_L ho0) (by decide) (isX12_r58 ho0) ?_
              refine jEv.blk [(.aload_n 0, 1, [])] (by decide +kernel) (pc' := 119) (ls' := [(2, Int.ofNat o0), (0, v1), (0, v2), (0, v3), (0, (wr (b4 - (Int.tmod v3 b5))))]) (st' := [(2, Int.ofNat o0), (2, Int.ofNat (o0 + 37))]) rfl ?_
              refine jEv.gfI (show jfI 265 119 (.getfield 513) 3 [12, 59, 0, 0, 7095] = true by decide +kernel) (isX12_L ho0) (by decide) ?_
              refine jEv.blk [(.iload_n 3, 1, [])] (by decide +kernel) (pc' := 123) (ls' := [(2, Int.ofNat o0), (0, v1), (0, v2), (0, v3), (0, (wr (b4 - (Int.tmod v3 b5))))]) (st' := [(0, v3), (0, (b13.2 o0 59)), (2, Int.ofNat (o0 + 37))]) rfl ?_
              refine jEv.ast (Or.inl ⟨rfl, rfl, rfl⟩) (show jfI 265 123 (.iastore) 1 [] = true by decide +kernel) (isX12_a58 ho0) rfl H (fun c15 H => ?_)
              refine jEv.blk [(.aload_n 0, 1, []), (.dup, 1, [])] (by decide +kernel) (pc' := 126) (ls' := [(2, Int.ofNat o0), (0, v1), (0, v2), (0, v3), (0, (wr (b4 - (Int.tmod v3 b5))))]) (st' := [(2, Int.ofNat o0), (2, Int.ofNat o0)]) rfl ?_
              refine jEv.gfI (show jfI 265 126 (.getfield 513) 3 [12, 59, 0, 0, 7095] = true by decide +kernel) (isX12_L ho0) (by decide) ?_
              refine jEv.blk [(.iconst 1, 1, []), (.iadd, 1, [])] (by decide +kernel) (pc' := 131) (ls' := [(2, Int.ofNat o0), (0, v1), (0, v2), (0, v3), (0, (wr (b4 - (Int.tmod v3 b5))))]) (st' := [(0, (wr (((jup b13.2 (o0 + 37) ((b13.2 o0 59) : Int).toNat v3) o0 59) + 1))), (2, Int.ofNat o0)]) rfl ?_
              refine jEv.pfI (show jfI 265 131 (.putfield 513) 3 [12, 59, 0, 0, 7095] = true by decide +kernel) (isX12_L ho0) (by decide) ?_
              refine jEv.blk [(.aload_n 0, 1, []), (.iload_n 1, 1, []), (.iload_n 3, 1, []), (.iconst 1, 1, []), (.iadd, 1, [])] (by decide +kernel) (pc' := 139) (ls' := [(2, Int.ofNat o0), (0, v1), (0, v2), (0, v3), (0, (wr (b4 - (Int.tmod v3 b5))))]) (st' := [(0, (wr (v3 + 1))), (0, v1), (2, Int.ofNat o0)]) rfl ?_
              refine jbind H (fun b16 Hb16 H => ?_)
              refine jEv.calV (st' := [(0, b16)]) (show jfI 265 139 (.invokevirtual 494) 3 [1, 259, 2, 9116] = true by decide +kernel) rfl (Or.inl rfl) rfl (Nat.le_of_ble_eq_true rfl) (by decide +kernel) (by decide) (isX12_L ho0) ((t_M_diskAt (T := T) (xs := xs) ho0 Hb16).mono (jKle 1 hd)) rfl ?_
              refine jEv.blk [(.iconst 2, 1, [])] (by decide +kernel) (pc' := 143) (ls' := [(2, Int.ofNat o0), (0, v1), (0, v2), (0, v3), (0, (wr (b4 - (Int.tmod v3 b5))))]) (st' := [(0, 2), (0, b16)]) rfl ?_
              refine jEv.ic_eq (t := 158) (show jfI 265 143 (.if_icmp .eq 15) 3 [] = true by decide +kernel) rfl H (fun c17 H => ?_) (fun c17 H => ?_)
              · exact jEv.weak (a := [(2, Int.ofNat o0), (0, v1), (3, 0), (0, v3), (3, 0)]) (jles.c1 (jles.c1 (jles.c0 (jles.c1 (jles.c0 jles.nl))))) (t_M_walks_p158 (T := T) (xs := xs) (y := y) hd ho0 H HY)
              · refine jEv.blk [(.aload_n 0, 1, []), (.iload_n 1, 1, []), (.iload_n 3, 1, []), (.iconst 1, 1, []), (.iadd, 1, [])] (by decide +kernel) (pc' := 151) (ls' := [(2, Int.ofNat o0), (0, v1), (0, v2), (0, v3), (0, (wr (b4 - (Int.tmod v3 b5))))]) (st' := [(0, (wr (v3 + 1))), (0, v1), (2, Int.ofNat o0)]) rfl ?_
                refine jbind H (fun b18 Hb18 H => ?_)
                refine jEv.calV (st' := [(0, b18)]) (show jfI 265 151 (.invokevirtual 494) 3 [1, 259, 2, 9116] = true by decide +kernel) rfl (Or.inl rfl) rfl (Nat.le_of_ble_eq_true rfl) (by decide +kernel) (by decide) (isX12_L ho0) ((t_M_diskAt (T := T) (xs := xs) ho0 Hb18).mono (jKle 1 hd)) rfl ?_
                refine jEv.blk [(.iconst 3, 1, [])] (by decide +kernel) (pc' := 155) (ls' := [(2, Int.ofNat o0), (0, v1), (0, v2), (0, v3), (0, (wr (b4 - (Int.tmod v3 b5))))]) (st' := [(0, 3), (0, b18)]) rfl ?_
                refine jEv.ic_ne (t := 162) (show jfI 265 155 (.if_icmp .ne 7) 3 [] = true by decide +kernel) rfl H (fun c19 H => ?_) (fun c19 H => ?_)
                · exact jEv.weak (a := [(2, Int.ofNat o0), (0, v1), (3, 0), (0, v3), (3, 0)]) (jles.c1 (jles.c1 (jles.c0 (jles.c1 (jles.c0 jles.nl))))) (t_M_walks_p158 (T := T) (xs := xs) (y := y) hd ho0 H HY)
                · refine jEv.blk [(.iconst 0, 1, [])] (by decide +kernel) (pc' := 163) (ls' := [(2, Int.ofNat o0), (0, v1), (0, v2), (0, v3), (0, (wr (b4 - (Int.tmod v3 b5))))]) (st' := [(0, 0)]) rfl ?_
                  exact jEv.weak (a := [(2, Int.ofNat o0), (0, v1), (3, 0), (0, v3), (3, 0)]) (jles.c1 (jles.c1 (jles.c0 (jles.c1 (jles.c0 jles.nl))))) (t_M_walks_p163 (T := T) (xs := xs) (y := y) hd ho0 H HY)
      · refine jEv.blk [(.iload_n 3, 1, []), (.iload 4, 2, []), (.iadd, 1, []), (.istore_n 3, 1, [])] (by decide +kernel) (pc' := 69) (ls' := [(2, Int.ofNat o0), (0, v1), (0, v2), (0, (wr (v3 + (wr (b4 - (Int.tmod v3 b5)))))), (0, (wr (b4 - (Int.tmod v3 b5))))]) (st' := []) rfl ?_
        refine jEv.goto (t := 29) (show jfI 265 69 (.goto (-40)) 3 [] = true by decide +kernel) rfl ?_
        exact jEv.weak (a := [(2, Int.ofNat o0), (0, v1), (0, v2), (0, (wr (v3 + (wr (b4 - (Int.tmod v3 b5)))))), (3, 0)]) (jles.c1 (jles.c1 (jles.c1 (jles.c1 (jles.c0 jles.nl))))) ((by cases H; exact HY))
    · refine jmapr H HY (fun out H (HY : ykV T y out) => ?_)
      exact jEv.weak (a := [(2, Int.ofNat o0), (3, 0), (3, 0), (3, 0), (3, 0)]) (jles.c1 (jles.c0 (jles.c0 (jles.c0 (jles.c0 jles.nl))))) (t_M_walks_p207 (T := T) (xs := xs) (y := y) hd ho0 H HY)
  · refine jmapr H HY (fun out H (HY : ykV T y out) => ?_)
    exact jEv.weak (a := [(2, Int.ofNat o0), (3, 0), (3, 0), (3, 0), (3, 0)]) (jles.c1 (jles.c0 (jles.c0 (jles.c0 (jles.c0 jles.nl))))) (t_M_walks_p207 (T := T) (xs := xs) (y := y) hd ho0 H HY)
theorem t_M_walks_L29 {T : jT} {xs : List Int} {d : Nat} {y : jV × jS} (hd : 3 ≤ d) {h : jH}  {o0 : Nat} {v1 : Int} {v2 : Int} {v3 : Int} {out : jH} (ho0 : isX12 T o0) (H : M_walks_L29 h o0 v1 v2 v3 = some out) (HY : ykV T y out) : jEv xs d (265, 29, [(2, Int.ofNat o0), (0, v1), (0, v2), (0, v3), (3, 0)], []) (T, h) y :=
  jloop_sound (G := fun s : (Int × Int × jH) => jEv xs d (265, 29, [(2, Int.ofNat o0), (0, v1), (0, s.1), (0, s.2.1), (3, 0)], []) (T, s.2.2) y) (K := yk_M_walks_L29 T xs d y o0 v1) (fun s out H HY => t_M_walks_B29 hd ho0 H HY) (fun s' hg => hg) (s := (v2, v3, h)) H HY
set_option maxRecDepth 20000 in
noncomputable def M_walks  (h : jH) (o0 : Nat) (v1 : Int) : Option jH := M_walks_L29 (jup (jup (jup (jup (jup h o0 59 0) o0 60 5) o0 63 0) o0 64 0) o0 61 (-1)) o0 v1 0 5
set_option maxRecDepth 20000 in
theorem t_M_walks {T : jT} {xs : List Int} {h : jH}  {o0 : Nat} {v1 : Int} {out : jH} (ho0 : isX12 T o0) (H : M_walks h o0 v1 = some out) : jEm xs 4 265 [(2, Int.ofNat o0), (0, v1)] (T, h) ((3, 0), (T, out)) := by
  have hd : 3 ≤ 3 := Nat.le_refl _
  obtain ⟨y, ey⟩ : ∃ y : jV × jS, y = ((3, 0), (T, out)) := ⟨_, rfl⟩
  rw [← ey]
  have HY : ykV T y out := ey
  refine jEm.ent (n := 5) (by decide +kernel) (Nat.le_of_ble_eq_true rfl) ?_
  show jEv xs 3 (265, 0, [(2, Int.ofNat o0), (0, v1), (3, 0), (3, 0), (3, 0)], []) (T, h) y
  unfold M_walks at H
  refine jEv.blk [(.iconst 0, 1, []), (.istore_n 2, 1, []), (.iconst 5, 1, []), (.istore_n 3, 1, []), (.aload_n 0, 1, []), (.iconst 0, 1, [])] (by decide +kernel) (pc' := 6) (ls' := [(2, Int.ofNat o0), (0, v1), (0, 0), (0, 5), (3, 0)]) (st' := [(0, 0), (2, Int.ofNat o0)]) rfl ?_
  refine jEv.pfI (show jfI 265 6 (.putfield 513) 3 [12, 59, 0, 0, 7095] = true by decide +kernel) (isX12_L ho0) (by decide) ?_
  refine jEv.blk [(.aload_n 0, 1, []), (.iconst 5, 1, [])] (by decide +kernel) (pc' := 11) (ls' := [(2, Int.ofNat o0), (0, v1), (0, 0), (0, 5), (3, 0)]) (st' := [(0, 5), (2, Int.ofNat o0)]) rfl ?_
  refine jEv.pfI (show jfI 265 11 (.putfield 516) 3 [12, 60, 0, 0, 7096] = true by decide +kernel) (isX12_L ho0) (by decide) ?_
  refine jEv.blk [(.aload_n 0, 1, []), (.iconst 0, 1, [])] (by decide +kernel) (pc' := 16) (ls' := [(2, Int.ofNat o0), (0, v1), (0, 0), (0, 5), (3, 0)]) (st' := [(0, 0), (2, Int.ofNat o0)]) rfl ?_
  refine jEv.pfI (show jfI 265 16 (.putfield 500) 3 [12, 63, 0, 0, 7099] = true by decide +kernel) (isX12_L ho0) (by decide) ?_
  refine jEv.blk [(.aload_n 0, 1, []), (.iconst 0, 1, [])] (by decide +kernel) (pc' := 21) (ls' := [(2, Int.ofNat o0), (0, v1), (0, 0), (0, 5), (3, 0)]) (st' := [(0, 0), (2, Int.ofNat o0)]) rfl ?_
  refine jEv.pfI (show jfI 265 21 (.putfield 503) 3 [12, 64, 0, 0, 7100] = true by decide +kernel) (isX12_L ho0) (by decide) ?_
  refine jEv.blk [(.aload_n 0, 1, []), (.iconst (-1), 1, [])] (by decide +kernel) (pc' := 26) (ls' := [(2, Int.ofNat o0), (0, v1), (0, 0), (0, 5), (3, 0)]) (st' := [(0, (-1)), (2, Int.ofNat o0)]) rfl ?_
  refine jEv.pfI (show jfI 265 26 (.putfield 519) 3 [12, 61, 0, 0, 7097] = true by decide +kernel) (isX12_L ho0) (by decide) ?_
  exact t_M_walks_L29 (T := T) (xs := xs) (y := y) hd ho0 H HY
