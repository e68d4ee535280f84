/-! the constructors -/
def sfx_0 : List (Nat × Nat) := [(20, 512)] ++ [(20, 512)]
theorem sfx_0_len : sfx_0.length = 2 := by decide +kernel
def KR_0 (R : Nat → Nat → Nat) (o : Nat) : Nat → Nat → Nat := (jupR (jupR R o 0 (o + 1)) o 1 (o + 2))
def H_0 (h : jH) (o : Nat) : jH := h
theorem KR_0_lt {R : Nat → Nat → Nat} {o o' : Nat} (ho : o' < o) : KR_0 R o o' = R o' := by
  unfold KR_0
  repeat (first | rw [jupR_ne])
  all_goals first | rfl | omega
theorem H_0_lt {h : jH} {o o' : Nat} (ho : o' < o) : H_0 h o o' = h o' := by
  unfold H_0
  repeat (first | rw [jup_ne] | rw [jfill_ne])
  all_goals first | rfl | omega
set_option maxRecDepth 20000 in
set_option maxHeartbeats 4000000 in
theorem c_0 {xs : List Int} {L : List (Nat × Nat)} {R : Nat → Nat → Nat} {h : jH} {o : Nat} (hl : L.length = o + 1) (ho : L[o]? = some (0, 5)) : jEm xs 1 1 [(2, Int.ofNat o)] ((L, R), h) ((3, 0), ((L ++ sfx_0, KR_0 R o), H_0 h o)) := by
  have eL : L ++ sfx_0 = ((L ++ [(20, 512)]) ++ [(20, 512)]) := by simp only [sfx_0, List.append_assoc]
  rw [eL]
  refine jEm.ent (n := 1) (by decide +kernel) (Nat.le_of_ble_eq_true rfl) ?_
  show jEv xs 0 (1, 0, [(2, Int.ofNat o)], []) ((L, R), h) _
  refine jEv.blk [(.aload_n 0, 1, [])] (by decide +kernel) (pc' := 1) (ls' := [(2, Int.ofNat o)]) (st' := [(2, Int.ofNat o)]) rfl ?_
  refine jEv.obj ho (show jfI 1 1 (.invokespecial 3) 3 [7, 0, 0, 1179] = true by decide +kernel) rfl (by decide) (Nat.le_of_ble_eq_true rfl) ?_
  refine jEv.blk [(.aload_n 0, 1, []), (.sipush 512, 3, [])] (by decide +kernel) (pc' := 8) (ls' := [(2, Int.ofNat o)]) (st' := [(0, 512), (2, Int.ofNat o)]) rfl ?_
  refine jEv.nwA (n := 512) hl (show jfI 1 8 (.newarray .int) 2 [20] = true by decide +kernel) (by decide) rfl ?_
  have l1 := jlN (20, 512) hl
  refine jEv.pfR (jlP _ ho) (show jfI 1 10 (.putfield 9) 3 [0, 0, 5, 0, 1180] = true by decide +kernel) (by decide) ?_
  refine jEv.blk [(.aload_n 0, 1, []), (.sipush 512, 3, [])] (by decide +kernel) (pc' := 17) (ls' := [(2, Int.ofNat o)]) (st' := [(0, 512), (2, Int.ofNat o)]) rfl ?_
  refine jEv.nwA (n := 512) l1 (show jfI 1 17 (.newarray .int) 2 [20] = true by decide +kernel) (by decide) rfl ?_
  have l2 := jlN (20, 512) l1
  refine jEv.pfR (jlP _ (jlP _ ho)) (show jfI 1 19 (.putfield 15) 3 [0, 1, 5, 0, 1182] = true by decide +kernel) (by decide) ?_
  exact jEv.retV (show jfI 1 22 (.return_) 1 [] = true by decide +kernel) (by decide +kernel) rfl
def sfx_1 : List (Nat × Nat) := [(20, 512)] ++ [(20, 512)]
theorem sfx_1_len : sfx_1.length = 2 := by decide +kernel
def KR_1 (R : Nat → Nat → Nat) (o : Nat) : Nat → Nat → Nat := (jupR (jupR R o 0 (o + 1)) o 1 (o + 2))
def H_1 (h : jH) (o : Nat) : jH := h
theorem KR_1_lt {R : Nat → Nat → Nat} {o o' : Nat} (ho : o' < o) : KR_1 R o o' = R o' := by
  unfold KR_1
  repeat (first | rw [jupR_ne] | rw [KR_0_lt])
  all_goals first | rfl | omega
theorem H_1_lt {h : jH} {o o' : Nat} (ho : o' < o) : H_1 h o o' = h o' := by
  unfold H_1
  repeat (first | rw [jup_ne] | rw [jfill_ne] | rw [H_0_lt])
  all_goals first | rfl | omega
set_option maxRecDepth 20000 in
set_option maxHeartbeats 4000000 in
theorem c_1 {xs : List Int} {L : List (Nat × Nat)} {R : Nat → Nat → Nat} {h : jH} {o : Nat} (hl : L.length = o + 1) (ho : L[o]? = some (1, 4)) : jEm xs 1 21 [(2, Int.ofNat o)] ((L, R), h) ((3, 0), ((L ++ sfx_1, KR_1 R o), H_1 h o)) := by
  have eL : L ++ sfx_1 = ((L ++ [(20, 512)]) ++ [(20, 512)]) := by simp only [sfx_1, List.append_assoc]
  rw [eL]
  refine jEm.ent (n := 1) (by decide +kernel) (Nat.le_of_ble_eq_true rfl) ?_
  show jEv xs 0 (21, 0, [(2, Int.ofNat o)], []) ((L, R), h) _
  refine jEv.blk [(.aload_n 0, 1, [])] (by decide +kernel) (pc' := 1) (ls' := [(2, Int.ofNat o)]) (st' := [(2, Int.ofNat o)]) rfl ?_
  refine jEv.obj ho (show jfI 21 1 (.invokespecial 3) 3 [7, 0, 0, 1209] = true by decide +kernel) rfl (by decide) (Nat.le_of_ble_eq_true rfl) ?_
  refine jEv.blk [(.aload_n 0, 1, []), (.sipush 512, 3, [])] (by decide +kernel) (pc' := 8) (ls' := [(2, Int.ofNat o)]) (st' := [(0, 512), (2, Int.ofNat o)]) rfl ?_
  refine jEv.nwA (n := 512) hl (show jfI 21 8 (.newarray .int) 2 [20] = true by decide +kernel) (by decide) rfl ?_
  have l1 := jlN (20, 512) hl
  refine jEv.pfR (jlP _ ho) (show jfI 21 10 (.putfield 9) 3 [1, 0, 5, 0, 1210] = true by decide +kernel) (by decide) ?_
  refine jEv.blk [(.aload_n 0, 1, []), (.sipush 512, 3, [])] (by decide +kernel) (pc' := 17) (ls' := [(2, Int.ofNat o)]) (st' := [(0, 512), (2, Int.ofNat o)]) rfl ?_
  refine jEv.nwA (n := 512) l1 (show jfI 21 17 (.newarray .int) 2 [20] = true by decide +kernel) (by decide) rfl ?_
  have l2 := jlN (20, 512) l1
  refine jEv.pfR (jlP _ (jlP _ ho)) (show jfI 21 19 (.putfield 15) 3 [1, 1, 5, 0, 1211] = true by decide +kernel) (by decide) ?_
  exact jEv.retV (show jfI 21 22 (.return_) 1 [] = true by decide +kernel) (by decide +kernel) rfl
def sfx_2 : List (Nat × Nat) := [(20, 1600)] ++ [(20, 160)] ++ [(20, 64)]
theorem sfx_2_len : sfx_2.length = 3 := by decide +kernel
def KR_2 (R : Nat → Nat → Nat) (o : Nat) : Nat → Nat → Nat := (jupR (jupR (jupR R o 0 (o + 1)) o 2 (o + 2)) o 3 (o + 3))
def H_2 (h : jH) (o : Nat) : jH := h
theorem KR_2_lt {R : Nat → Nat → Nat} {o o' : Nat} (ho : o' < o) : KR_2 R o o' = R o' := by
  unfold KR_2
  repeat (first | rw [jupR_ne] | rw [KR_0_lt] | rw [KR_1_lt])
  all_goals first | rfl | omega
theorem H_2_lt {h : jH} {o o' : Nat} (ho : o' < o) : H_2 h o o' = h o' := by
  unfold H_2
  repeat (first | rw [jup_ne] | rw [jfill_ne] | rw [H_0_lt] | rw [H_1_lt])
  all_goals first | rfl | omega
set_option maxRecDepth 20000 in
set_option maxHeartbeats 4000000 in
theorem c_2 {xs : List Int} {L : List (Nat × Nat)} {R : Nat → Nat → Nat} {h : jH} {o : Nat} (hl : L.length = o + 1) (ho : L[o]? = some (2, 5)) : jEm xs 1 26 [(2, Int.ofNat o)] ((L, R), h) ((3, 0), ((L ++ sfx_2, KR_2 R o), H_2 h o)) := by
  have eL : L ++ sfx_2 = (((L ++ [(20, 1600)]) ++ [(20, 160)]) ++ [(20, 64)]) := by simp only [sfx_2, List.append_assoc]
  rw [eL]
  refine jEm.ent (n := 1) (by decide +kernel) (Nat.le_of_ble_eq_true rfl) ?_
  show jEv xs 0 (26, 0, [(2, Int.ofNat o)], []) ((L, R), h) _
  refine jEv.blk [(.aload_n 0, 1, [])] (by decide +kernel) (pc' := 1) (ls' := [(2, Int.ofNat o)]) (st' := [(2, Int.ofNat o)]) rfl ?_
  refine jEv.obj ho (show jfI 26 1 (.invokespecial 3) 3 [7, 0, 0, 1040] = true by decide +kernel) rfl (by decide) (Nat.le_of_ble_eq_true rfl) ?_
  refine jEv.blk [(.aload_n 0, 1, []), (.sipush 1600, 3, [])] (by decide +kernel) (pc' := 8) (ls' := [(2, Int.ofNat o)]) (st' := [(0, 1600), (2, Int.ofNat o)]) rfl ?_
  refine jEv.nwA (n := 1600) hl (show jfI 26 8 (.newarray .int) 2 [20] = true by decide +kernel) (by decide) rfl ?_
  have l1 := jlN (20, 1600) hl
  refine jEv.pfR (jlP _ ho) (show jfI 26 10 (.putfield 9) 3 [2, 0, 5, 0, 1041] = true by decide +kernel) (by decide) ?_
  refine jEv.blk [(.aload_n 0, 1, []), (.sipush 160, 3, [])] (by decide +kernel) (pc' := 17) (ls' := [(2, Int.ofNat o)]) (st' := [(0, 160), (2, Int.ofNat o)]) rfl ?_
  refine jEv.nwA (n := 160) l1 (show jfI 26 17 (.newarray .int) 2 [20] = true by decide +kernel) (by decide) rfl ?_
  have l2 := jlN (20, 160) l1
  refine jEv.pfR (jlP _ (jlP _ ho)) (show jfI 26 19 (.putfield 15) 3 [2, 2, 5, 0, 1043] = true by decide +kernel) (by decide) ?_
  refine jEv.blk [(.aload_n 0, 1, []), (.bipush 64, 2, [])] (by decide +kernel) (pc' := 25) (ls' := [(2, Int.ofNat o)]) (st' := [(0, 64), (2, Int.ofNat o)]) rfl ?_
  refine jEv.nwA (n := 64) l2 (show jfI 26 25 (.newarray .int) 2 [20] = true by decide +kernel) (by decide) rfl ?_
  have l3 := jlN (20, 64) l2
  refine jEv.pfR (jlP _ (jlP _ (jlP _ ho))) (show jfI 26 27 (.putfield 18) 3 [2, 3, 5, 0, 1044] = true by decide +kernel) (by decide) ?_
  exact jEv.retV (show jfI 26 30 (.return_) 1 [] = true by decide +kernel) (by decide +kernel) rfl
def sfx_3 : List (Nat × Nat) := []
theorem sfx_3_len : sfx_3.length = 0 := by decide +kernel
def KR_3 (R : Nat → Nat → Nat) (o : Nat) : Nat → Nat → Nat := R
def H_3 (h : jH) (o : Nat) : jH := h
theorem KR_3_lt {R : Nat → Nat → Nat} {o o' : Nat} (ho : o' < o) : KR_3 R o o' = R o' := by
  unfold KR_3
  repeat (first | rw [jupR_ne] | rw [KR_0_lt] | rw [KR_1_lt] | rw [KR_2_lt])
  all_goals first | rfl | omega
theorem H_3_lt {h : jH} {o o' : Nat} (ho : o' < o) : H_3 h o o' = h o' := by
  unfold H_3
  repeat (first | rw [jup_ne] | rw [jfill_ne] | rw [H_0_lt] | rw [H_1_lt] | rw [H_2_lt])
  all_goals first | rfl | omega
set_option maxRecDepth 20000 in
set_option maxHeartbeats 4000000 in
theorem c_3 {xs : List Int} {L : List (Nat × Nat)} {R : Nat → Nat → Nat} {h : jH} {o : Nat} (hl : L.length = o + 1) (ho : L[o]? = some (3, 10)) : jEm xs 1 38 [(2, Int.ofNat o)] ((L, R), h) ((3, 0), ((L ++ sfx_3, KR_3 R o), H_3 h o)) := by
  have eL : L ++ sfx_3 = L := List.append_nil L
  rw [eL]
  refine jEm.ent (n := 1) (by decide +kernel) (Nat.le_of_ble_eq_true rfl) ?_
  show jEv xs 0 (38, 0, [(2, Int.ofNat o)], []) ((L, R), h) _
  refine jEv.blk [(.aload_n 0, 1, [])] (by decide +kernel) (pc' := 1) (ls' := [(2, Int.ofNat o)]) (st' := [(2, Int.ofNat o)]) rfl ?_
  refine jEv.obj ho (show jfI 38 1 (.invokespecial 3) 3 [7, 0, 0, 2165] = true by decide +kernel) rfl (by decide) (Nat.le_of_ble_eq_true rfl) ?_
  exact jEv.retV (show jfI 38 4 (.return_) 1 [] = true by decide +kernel) (by decide +kernel) rfl
def sfx_10 : List (Nat × Nat) := [(20, 8)] ++ [(20, 8)] ++ [(20, 40)] ++ [(20, 40)] ++ [(20, 40)]
theorem sfx_10_len : sfx_10.length = 5 := by decide +kernel
def KR_10 (R : Nat → Nat → Nat) (o : Nat) : Nat → Nat → Nat := (jupR (jupR (jupR (jupR (jupR R o 0 (o + 1)) o 1 (o + 2)) o 3 (o + 3)) o 4 (o + 4)) o 5 (o + 5))
def H_10 (h : jH) (o : Nat) : jH := h
theorem KR_10_lt {R : Nat → Nat → Nat} {o o' : Nat} (ho : o' < o) : KR_10 R o o' = R o' := by
  unfold KR_10
  repeat (first | rw [jupR_ne] | rw [KR_0_lt] | rw [KR_1_lt] | rw [KR_2_lt] | rw [KR_3_lt])
  all_goals first | rfl | omega
theorem H_10_lt {h : jH} {o o' : Nat} (ho : o' < o) : H_10 h o o' = h o' := by
  unfold H_10
  repeat (first | rw [jup_ne] | rw [jfill_ne] | rw [H_0_lt] | rw [H_1_lt] | rw [H_2_lt] | rw [H_3_lt])
  all_goals first | rfl | omega
set_option maxRecDepth 20000 in
set_option maxHeartbeats 4000000 in
theorem c_10 {xs : List Int} {L : List (Nat × Nat)} {R : Nat → Nat → Nat} {h : jH} {o : Nat} (hl : L.length = o + 1) (ho : L[o]? = some (10, 7)) : jEm xs 1 124 [(2, Int.ofNat o)] ((L, R), h) ((3, 0), ((L ++ sfx_10, KR_10 R o), H_10 h o)) := by
  have eL : L ++ sfx_10 = (((((L ++ [(20, 8)]) ++ [(20, 8)]) ++ [(20, 40)]) ++ [(20, 40)]) ++ [(20, 40)]) := by simp only [sfx_10, List.append_assoc]
  rw [eL]
  refine jEm.ent (n := 1) (by decide +kernel) (Nat.le_of_ble_eq_true rfl) ?_
  show jEv xs 0 (124, 0, [(2, Int.ofNat o)], []) ((L, R), h) _
  refine jEv.blk [(.aload_n 0, 1, [])] (by decide +kernel) (pc' := 1) (ls' := [(2, Int.ofNat o)]) (st' := [(2, Int.ofNat o)]) rfl ?_
  refine jEv.obj ho (show jfI 124 1 (.invokespecial 3) 3 [7, 0, 0, 2036] = true by decide +kernel) rfl (by decide) (Nat.le_of_ble_eq_true rfl) ?_
  refine jEv.blk [(.aload_n 0, 1, []), (.bipush 8, 2, [])] (by decide +kernel) (pc' := 7) (ls' := [(2, Int.ofNat o)]) (st' := [(0, 8), (2, Int.ofNat o)]) rfl ?_
  refine jEv.nwA (n := 8) hl (show jfI 124 7 (.newarray .int) 2 [20] = true by decide +kernel) (by decide) rfl ?_
  have l1 := jlN (20, 8) hl
  refine jEv.pfR (jlP _ ho) (show jfI 124 9 (.putfield 9) 3 [10, 0, 5, 0, 2037] = true by decide +kernel) (by decide) ?_
  refine jEv.blk [(.aload_n 0, 1, []), (.bipush 8, 2, [])] (by decide +kernel) (pc' := 15) (ls' := [(2, Int.ofNat o)]) (st' := [(0, 8), (2, Int.ofNat o)]) rfl ?_
  refine jEv.nwA (n := 8) l1 (show jfI 124 15 (.newarray .int) 2 [20] = true by decide +kernel) (by decide) rfl ?_
  have l2 := jlN (20, 8) l1
  refine jEv.pfR (jlP _ (jlP _ ho)) (show jfI 124 17 (.putfield 15) 3 [10, 1, 5, 0, 2038] = true by decide +kernel) (by decide) ?_
  refine jEv.blk [(.aload_n 0, 1, []), (.bipush 40, 2, [])] (by decide +kernel) (pc' := 23) (ls' := [(2, Int.ofNat o)]) (st' := [(0, 40), (2, Int.ofNat o)]) rfl ?_
  refine jEv.nwA (n := 40) l2 (show jfI 124 23 (.newarray .int) 2 [20] = true by decide +kernel) (by decide) rfl ?_
  have l3 := jlN (20, 40) l2
  refine jEv.pfR (jlP _ (jlP _ (jlP _ ho))) (show jfI 124 25 (.putfield 18) 3 [10, 3, 5, 0, 2042] = true by decide +kernel) (by decide) ?_
  refine jEv.blk [(.aload_n 0, 1, []), (.bipush 40, 2, [])] (by decide +kernel) (pc' := 31) (ls' := [(2, Int.ofNat o)]) (st' := [(0, 40), (2, Int.ofNat o)]) rfl ?_
  refine jEv.nwA (n := 40) l3 (show jfI 124 31 (.newarray .int) 2 [20] = true by decide +kernel) (by decide) rfl ?_
  have l4 := jlN (20, 40) l3
  refine jEv.pfR (jlP _ (jlP _ (jlP _ (jlP _ ho)))) (show jfI 124 33 (.putfield 21) 3 [10, 4, 5, 0, 2043] = true by decide +kernel) (by decide) ?_
  refine jEv.blk [(.aload_n 0, 1, []), (.bipush 40, 2, [])] (by decide +kernel) (pc' := 39) (ls' := [(2, Int.ofNat o)]) (st' := [(0, 40), (2, Int.ofNat o)]) rfl ?_
  refine jEv.nwA (n := 40) l4 (show jfI 124 39 (.newarray .int) 2 [20] = true by decide +kernel) (by decide) rfl ?_
  have l5 := jlN (20, 40) l4
  refine jEv.pfR (jlP _ (jlP _ (jlP _ (jlP _ (jlP _ ho))))) (show jfI 124 41 (.putfield 24) 3 [10, 5, 5, 0, 2044] = true by decide +kernel) (by decide) ?_
  exact jEv.retV (show jfI 124 44 (.return_) 1 [] = true by decide +kernel) (by decide +kernel) rfl
def sfx_7 : List (Nat × Nat) := [(20, 32)] ++ [(20, 32)] ++ [(20, 32)] ++ [(20, 32)]
theorem sfx_7_len : sfx_7.length = 4 := by decide +kernel
def KR_7 (R : Nat → Nat → Nat) (o : Nat) : Nat → Nat → Nat := (jupR (jupR (jupR (jupR R o 0 (o + 1)) o 1 (o + 2)) o 2 (o + 3)) o 3 (o + 4))
def H_7 (h : jH) (o : Nat) : jH := h
theorem KR_7_lt {R : Nat → Nat → Nat} {o o' : Nat} (ho : o' < o) : KR_7 R o o' = R o' := by
  unfold KR_7
  repeat (first | rw [jupR_ne] | rw [KR_0_lt] | rw [KR_1_lt] | rw [KR_2_lt] | rw [KR_3_lt] | rw [KR_10_lt])
  all_goals first | rfl | omega
theorem H_7_lt {h : jH} {o o' : Nat} (ho : o' < o) : H_7 h o o' = h o' := by
  unfold H_7
  repeat (first | rw [jup_ne] | rw [jfill_ne] | rw [H_0_lt] | rw [H_1_lt] | rw [H_2_lt] | rw [H_3_lt] | rw [H_10_lt])
  all_goals first | rfl | omega
set_option maxRecDepth 20000 in
set_option maxHeartbeats 4000000 in
theorem c_7 {xs : List Int} {L : List (Nat × Nat)} {R : Nat → Nat → Nat} {h : jH} {o : Nat} (hl : L.length = o + 1) (ho : L[o]? = some (7, 7)) : jEm xs 1 90 [(2, Int.ofNat o)] ((L, R), h) ((3, 0), ((L ++ sfx_7, KR_7 R o), H_7 h o)) := by
  have eL : L ++ sfx_7 = ((((L ++ [(20, 32)]) ++ [(20, 32)]) ++ [(20, 32)]) ++ [(20, 32)]) := by simp only [sfx_7, List.append_assoc]
  rw [eL]
  refine jEm.ent (n := 1) (by decide +kernel) (Nat.le_of_ble_eq_true rfl) ?_
  show jEv xs 0 (90, 0, [(2, Int.ofNat o)], []) ((L, R), h) _
  refine jEv.blk [(.aload_n 0, 1, [])] (by decide +kernel) (pc' := 1) (ls' := [(2, Int.ofNat o)]) (st' := [(2, Int.ofNat o)]) rfl ?_
  refine jEv.obj ho (show jfI 90 1 (.invokespecial 3) 3 [7, 0, 0, 1234] = true by decide +kernel) rfl (by decide) (Nat.le_of_ble_eq_true rfl) ?_
  refine jEv.blk [(.aload_n 0, 1, []), (.bipush 32, 2, [])] (by decide +kernel) (pc' := 7) (ls' := [(2, Int.ofNat o)]) (st' := [(0, 32), (2, Int.ofNat o)]) rfl ?_
  refine jEv.nwA (n := 32) hl (show jfI 90 7 (.newarray .int) 2 [20] = true by decide +kernel) (by decide) rfl ?_
  have l1 := jlN (20, 32) hl
  refine jEv.pfR (jlP _ ho) (show jfI 90 9 (.putfield 9) 3 [7, 0, 5, 0, 1235] = true by decide +kernel) (by decide) ?_
  refine jEv.blk [(.aload_n 0, 1, []), (.bipush 32, 2, [])] (by decide +kernel) (pc' := 15) (ls' := [(2, Int.ofNat o)]) (st' := [(0, 32), (2, Int.ofNat o)]) rfl ?_
  refine jEv.nwA (n := 32) l1 (show jfI 90 15 (.newarray .int) 2 [20] = true by decide +kernel) (by decide) rfl ?_
  have l2 := jlN (20, 32) l1
  refine jEv.pfR (jlP _ (jlP _ ho)) (show jfI 90 17 (.putfield 15) 3 [7, 1, 5, 0, 1239] = true by decide +kernel) (by decide) ?_
  refine jEv.blk [(.aload_n 0, 1, []), (.bipush 32, 2, [])] (by decide +kernel) (pc' := 23) (ls' := [(2, Int.ofNat o)]) (st' := [(0, 32), (2, Int.ofNat o)]) rfl ?_
  refine jEv.nwA (n := 32) l2 (show jfI 90 23 (.newarray .int) 2 [20] = true by decide +kernel) (by decide) rfl ?_
  have l3 := jlN (20, 32) l2
  refine jEv.pfR (jlP _ (jlP _ (jlP _ ho))) (show jfI 90 25 (.putfield 18) 3 [7, 2, 5, 0, 2003] = true by decide +kernel) (by decide) ?_
  refine jEv.blk [(.aload_n 0, 1, []), (.bipush 32, 2, [])] (by decide +kernel) (pc' := 31) (ls' := [(2, Int.ofNat o)]) (st' := [(0, 32), (2, Int.ofNat o)]) rfl ?_
  refine jEv.nwA (n := 32) l3 (show jfI 90 31 (.newarray .int) 2 [20] = true by decide +kernel) (by decide) rfl ?_
  have l4 := jlN (20, 32) l3
  refine jEv.pfR (jlP _ (jlP _ (jlP _ (jlP _ ho)))) (show jfI 90 33 (.putfield 21) 3 [7, 3, 5, 0, 2005] = true by decide +kernel) (by decide) ?_
  exact jEv.retV (show jfI 90 36 (.return_) 1 [] = true by decide +kernel) (by decide +kernel) rfl
def sfx_5 : List (Nat × Nat) := []
theorem sfx_5_len : sfx_5.length = 0 := by decide +kernel
def KR_5 (R : Nat → Nat → Nat) (o : Nat) : Nat → Nat → Nat := R
def H_5 (h : jH) (o : Nat) : jH := h
theorem KR_5_lt {R : Nat → Nat → Nat} {o o' : Nat} (ho : o' < o) : KR_5 R o o' = R o' := by
  unfold KR_5
  repeat (first | rw [jupR_ne] | rw [KR_0_lt] | rw [KR_1_lt] | rw [KR_2_lt] | rw [KR_3_lt] | rw [KR_10_lt] | rw [KR_7_lt])
  all_goals first | rfl | omega
theorem H_5_lt {h : jH} {o o' : Nat} (ho : o' < o) : H_5 h o o' = h o' := by
  unfold H_5
  repeat (first | rw [jup_ne] | rw [jfill_ne] | rw [H_0_lt] | rw [H_1_lt] | rw [H_2_lt] | rw [H_3_lt] | rw [H_10_lt] | rw [H_7_lt])
  all_goals first | rfl | omega
set_option maxRecDepth 20000 in
set_option maxHeartbeats 4000000 in
theorem c_5 {xs : List Int} {L : List (Nat × Nat)} {R : Nat → Nat → Nat} {h : jH} {o : Nat} (hl : L.length = o + 1) (ho : L[o]? = some (5, 5)) : jEm xs 1 77 [(2, Int.ofNat o)] ((L, R), h) ((3, 0), ((L ++ sfx_5, KR_5 R o), H_5 h o)) := by
  have eL : L ++ sfx_5 = L := List.append_nil L
  rw [eL]
  refine jEm.ent (n := 1) (by decide +kernel) (Nat.le_of_ble_eq_true rfl) ?_
  show jEv xs 0 (77, 0, [(2, Int.ofNat o)], []) ((L, R), h) _
  refine jEv.blk [(.aload_n 0, 1, [])] (by decide +kernel) (pc' := 1) (ls' := [(2, Int.ofNat o)]) (st' := [(2, Int.ofNat o)]) rfl ?_
  refine jEv.obj ho (show jfI 77 1 (.invokespecial 3) 3 [7, 0, 0, 2137] = true by decide +kernel) rfl (by decide) (Nat.le_of_ble_eq_true rfl) ?_
  exact jEv.retV (show jfI 77 4 (.return_) 1 [] = true by decide +kernel) (by decide +kernel) rfl
def sfx_6 : List (Nat × Nat) := [(2, 5)] ++ sfx_2 ++ [(2, 5)] ++ sfx_2 ++ [(20, 40)] ++ [(20, 40)] ++ [(20, 40)]
theorem sfx_6_len : sfx_6.length = 11 := by decide +kernel
def KR_6 (R : Nat → Nat → Nat) (o : Nat) : Nat → Nat → Nat := (jupR (jupR (jupR (jupR (KR_2 (jupR (KR_2 R (o + 1)) o 7 (o + 1)) (o + 5)) o 8 (o + 5)) o 9 (o + 9)) o 10 (o + 10)) o 11 (o + 11))
def H_6 (h : jH) (o : Nat) : jH := (H_2 (H_2 h (o + 1)) (o + 5))
theorem KR_6_lt {R : Nat → Nat → Nat} {o o' : Nat} (ho : o' < o) : KR_6 R o o' = R o' := by
  unfold KR_6
  repeat (first | rw [jupR_ne] | rw [KR_0_lt] | rw [KR_1_lt] | rw [KR_2_lt] | rw [KR_3_lt] | rw [KR_10_lt] | rw [KR_7_lt] | rw [KR_5_lt])
  all_goals first | rfl | omega
theorem H_6_lt {h : jH} {o o' : Nat} (ho : o' < o) : H_6 h o o' = h o' := by
  unfold H_6
  repeat (first | rw [jup_ne] | rw [jfill_ne] | rw [H_0_lt] | rw [H_1_lt] | rw [H_2_lt] | rw [H_3_lt] | rw [H_10_lt] | rw [H_7_lt] | rw [H_5_lt])
  all_goals first | rfl | omega
set_option maxRecDepth 20000 in
set_option maxHeartbeats 4000000 in
theorem c_6 {xs : List Int} {L : List (Nat × Nat)} {R : Nat → Nat → Nat} {h : jH} {o : Nat} (hl : L.length = o + 1) (ho : L[o]? = some (6, 13)) : jEm xs 2 87 [(2, Int.ofNat o)] ((L, R), h) ((3, 0), ((L ++ sfx_6, KR_6 R o), H_6 h o)) := by
  have eL : L ++ sfx_6 = (((((((L ++ [(2, 5)]) ++ sfx_2) ++ [(2, 5)]) ++ sfx_2) ++ [(20, 40)]) ++ [(20, 40)]) ++ [(20, 40)]) := by simp only [sfx_6, List.append_assoc]
  rw [eL]
  refine jEm.ent (n := 1) (by decide +kernel) (Nat.le_of_ble_eq_true rfl) ?_
  show jEv xs 1 (87, 0, [(2, Int.ofNat o)], []) ((L, R), h) _
  refine jEv.blk [(.aload_n 0, 1, [])] (by decide +kernel) (pc' := 1) (ls' := [(2, Int.ofNat o)]) (st' := [(2, Int.ofNat o)]) rfl ?_
  refine jEv.obj ho (show jfI 87 1 (.invokespecial 3) 3 [7, 0, 0, 1034] = true by decide +kernel) rfl (by decide) (Nat.le_of_ble_eq_true rfl) ?_
  refine jEv.blk [(.aload_n 0, 1, [])] (by decide +kernel) (pc' := 5) (ls' := [(2, Int.ofNat o)]) (st' := [(2, Int.ofNat o)]) rfl ?_
  refine jEv.nwC (n := 5) hl (show jfI 87 5 (.new 9) 3 [2, 1035] = true by decide +kernel) (by decide) (by decide +kernel) ?_
  have l1 := jlN (2, 5) hl
  refine jEv.blk [(.dup, 1, [])] (by decide +kernel) (pc' := 9) (ls' := [(2, Int.ofNat o)]) (st' := [(2, Int.ofNat (o + 1)), (2, Int.ofNat (o + 1)), (2, Int.ofNat o)]) rfl ?_
  refine jEv.calV (st' := [(2, Int.ofNat (o + 1)), (2, Int.ofNat o)]) (show jfI 87 9 (.invokespecial 11) 3 [6, 26, 0, 1037] = true by decide +kernel) rfl (Or.inr (Or.inr (Or.inr rfl))) rfl (Nat.le_of_ble_eq_true rfl) (by decide +kernel) (by decide) (jlA hl) ((c_2 (xs := xs) l1 (jlA hl)).mono (by decide)) rfl ?_
  have l2 := jlS l1 sfx_2_len
  refine jEv.pfR (jlP _ (jlP _ ho)) (show jfI 87 12 (.putfield 12) 3 [6, 7, 5, 0, 1075] = true by decide +kernel) (by decide) ?_
  refine jEv.blk [(.aload_n 0, 1, [])] (by decide +kernel) (pc' := 16) (ls' := [(2, Int.ofNat o)]) (st' := [(2, Int.ofNat o)]) rfl ?_
  refine jEv.nwC (n := 5) l2 (show jfI 87 16 (.new 9) 3 [2, 1035] = true by decide +kernel) (by decide) (by decide +kernel) ?_
  have l3 := jlN (2, 5) l2
  refine jEv.blk [(.dup, 1, [])] (by decide +kernel) (pc' := 20) (ls' := [(2, Int.ofNat o)]) (st' := [(2, Int.ofNat (o + 5)), (2, Int.ofNat (o + 5)), (2, Int.ofNat o)]) rfl ?_
  refine jEv.calV (st' := [(2, Int.ofNat (o + 5)), (2, Int.ofNat o)]) (show jfI 87 20 (.invokespecial 11) 3 [6, 26, 0, 1037] = true by decide +kernel) rfl (Or.inr (Or.inr (Or.inr rfl))) rfl (Nat.le_of_ble_eq_true rfl) (by decide +kernel) (by decide) (jlA l2) ((c_2 (xs := xs) l3 (jlA l2)).mono (by decide)) rfl ?_
  have l4 := jlS l3 sfx_2_len
  refine jEv.pfR (jlP _ (jlP _ (jlP _ (jlP _ ho)))) (show jfI 87 23 (.putfield 18) 3 [6, 8, 5, 0, 1078] = true by decide +kernel) (by decide) ?_
  refine jEv.blk [(.aload_n 0, 1, []), (.bipush 40, 2, [])] (by decide +kernel) (pc' := 29) (ls' := [(2, Int.ofNat o)]) (st' := [(0, 40), (2, Int.ofNat o)]) rfl ?_
  refine jEv.nwA (n := 40) l4 (show jfI 87 29 (.newarray .int) 2 [20] = true by decide +kernel) (by decide) rfl ?_
  have l5 := jlN (20, 40) l4
  refine jEv.pfR (jlP _ (jlP _ (jlP _ (jlP _ (jlP _ ho))))) (show jfI 87 31 (.putfield 21) 3 [6, 9, 5, 0, 1081] = true by decide +kernel) (by decide) ?_
  refine jEv.blk [(.aload_n 0, 1, []), (.bipush 40, 2, [])] (by decide +kernel) (pc' := 37) (ls' := [(2, Int.ofNat o)]) (st' := [(0, 40), (2, Int.ofNat o)]) rfl ?_
  refine jEv.nwA (n := 40) l5 (show jfI 87 37 (.newarray .int) 2 [20] = true by decide +kernel) (by decide) rfl ?_
  have l6 := jlN (20, 40) l5
  refine jEv.pfR (jlP _ (jlP _ (jlP _ (jlP _ (jlP _ (jlP _ ho)))))) (show jfI 87 39 (.putfield 25) 3 [6, 10, 5, 0, 1083] = true by decide +kernel) (by decide) ?_
  refine jEv.blk [(.aload_n 0, 1, []), (.bipush 40, 2, [])] (by decide +kernel) (pc' := 45) (ls' := [(2, Int.ofNat o)]) (st' := [(0, 40), (2, Int.ofNat o)]) rfl ?_
  refine jEv.nwA (n := 40) l6 (show jfI 87 45 (.newarray .int) 2 [20] = true by decide +kernel) (by decide) rfl ?_
  have l7 := jlN (20, 40) l6
  refine jEv.pfR (jlP _ (jlP _ (jlP _ (jlP _ (jlP _ (jlP _ (jlP _ ho))))))) (show jfI 87 47 (.putfield 28) 3 [6, 11, 5, 0, 1085] = true by decide +kernel) (by decide) ?_
  exact jEv.retV (show jfI 87 50 (.return_) 1 [] = true by decide +kernel) (by decide +kernel) rfl
def sfx_4 : List (Nat × Nat) := [(6, 13)] ++ sfx_6 ++ [(2, 5)] ++ sfx_2 ++ [(20, 0)]
theorem sfx_4_len : sfx_4.length = 17 := by decide +kernel
def KR_4 (R : Nat → Nat → Nat) (o : Nat) : Nat → Nat → Nat := (jupR (KR_2 (KR_6 R (o + 1)) (o + 13)) o 1 (o + 13))
def H_4 (h : jH) (o : Nat) : jH := (jup (jup (jup (H_2 (jup (H_6 h (o + 1)) o 0 (Int.ofNat (o + 1))) (o + 13)) o 4 (-1)) o 5 (Int.ofNat (o + 17))) o 9 (Int.ofNat (o + 13)))
theorem KR_4_lt {R : Nat → Nat → Nat} {o o' : Nat} (ho : o' < o) : KR_4 R o o' = R o' := by
  unfold KR_4
  repeat (first | rw [jupR_ne] | rw [KR_0_lt] | rw [KR_1_lt] | rw [KR_2_lt] | rw [KR_3_lt] | rw [KR_10_lt] | rw [KR_7_lt] | rw [KR_5_lt] | rw [KR_6_lt])
  all_goals first | rfl | omega
theorem H_4_lt {h : jH} {o o' : Nat} (ho : o' < o) : H_4 h o o' = h o' := by
  unfold H_4
  repeat (first | rw [jup_ne] | rw [jfill_ne] | rw [H_0_lt] | rw [H_1_lt] | rw [H_2_lt] | rw [H_3_lt] | rw [H_10_lt] | rw [H_7_lt] | rw [H_5_lt] | rw [H_6_lt])
  all_goals first | rfl | omega
set_option maxRecDepth 20000 in
set_option maxHeartbeats 4000000 in
theorem c_4 {xs : List Int} {L : List (Nat × Nat)} {R : Nat → Nat → Nat} {h : jH} {o : Nat} (hl : L.length = o + 1) (ho : L[o]? = some (4, 12)) : jEm xs 3 47 [(2, Int.ofNat o)] ((L, R), h) ((3, 0), ((L ++ sfx_4, KR_4 R o), H_4 h o)) := by
  have eL : L ++ sfx_4 = (((((L ++ [(6, 13)]) ++ sfx_6) ++ [(2, 5)]) ++ sfx_2) ++ [(20, 0)]) := by simp only [sfx_4, List.append_assoc]
  rw [eL]
  refine jEm.ent (n := 1) (by decide +kernel) (Nat.le_of_ble_eq_true rfl) ?_
  show jEv xs 2 (47, 0, [(2, Int.ofNat o)], []) ((L, R), h) _
  refine jEv.blk [(.aload_n 0, 1, [])] (by decide +kernel) (pc' := 1) (ls' := [(2, Int.ofNat o)]) (st' := [(2, Int.ofNat o)]) rfl ?_
  refine jEv.obj ho (show jfI 47 1 (.invokespecial 3) 3 [7, 0, 0, 1121] = true by decide +kernel) rfl (by decide) (Nat.le_of_ble_eq_true rfl) ?_
  refine jEv.blk [(.aload_n 0, 1, [])] (by decide +kernel) (pc' := 5) (ls' := [(2, Int.ofNat o)]) (st' := [(2, Int.ofNat o)]) rfl ?_
  refine jEv.nwC (n := 13) hl (show jfI 47 5 (.new 9) 3 [6, 1122] = true by decide +kernel) (by decide) (by decide +kernel) ?_
  have l1 := jlN (6, 13) hl
  refine jEv.blk [(.dup, 1, [])] (by decide +kernel) (pc' := 9) (ls' := [(2, Int.ofNat o)]) (st' := [(2, Int.ofNat (o + 1)), (2, Int.ofNat (o + 1)), (2, Int.ofNat o)]) rfl ?_
  refine jEv.calV (st' := [(2, Int.ofNat (o + 1)), (2, Int.ofNat o)]) (show jfI 47 9 (.invokespecial 11) 3 [6, 87, 0, 1123] = true by decide +kernel) rfl (Or.inr (Or.inr (Or.inr rfl))) rfl (Nat.le_of_ble_eq_true rfl) (by decide +kernel) (by decide) (jlA hl) ((c_6 (xs := xs) l1 (jlA hl)).mono (by decide)) rfl ?_
  have l2 := jlS l1 sfx_6_len
  refine jEv.pfD (show jfI 47 12 (.putfield 12) 3 [4, 0, 2, 0, 1126] = true by decide +kernel) (jlP _ (jlP _ ho)) (by decide) ?_
  refine jEv.blk [(.aload_n 0, 1, [])] (by decide +kernel) (pc' := 16) (ls' := [(2, Int.ofNat o)]) (st' := [(2, Int.ofNat o)]) rfl ?_
  refine jEv.nwC (n := 5) l2 (show jfI 47 16 (.new 18) 3 [2, 1124] = true by decide +kernel) (by decide) (by decide +kernel) ?_
  have l3 := jlN (2, 5) l2
  refine jEv.blk [(.dup, 1, [])] (by decide +kernel) (pc' := 20) (ls' := [(2, Int.ofNat o)]) (st' := [(2, Int.ofNat (o + 13)), (2, Int.ofNat (o + 13)), (2, Int.ofNat o)]) rfl ?_
  refine jEv.calV (st' := [(2, Int.ofNat (o + 13)), (2, Int.ofNat o)]) (show jfI 47 20 (.invokespecial 20) 3 [6, 26, 0, 1125] = true by decide +kernel) rfl (Or.inr (Or.inr (Or.inr rfl))) rfl (Nat.le_of_ble_eq_true rfl) (by decide +kernel) (by decide) (jlA l2) ((c_2 (xs := xs) l3 (jlA l2)).mono (by decide)) rfl ?_
  have l4 := jlS l3 sfx_2_len
  refine jEv.pfR (jlP _ (jlP _ (jlP _ (jlP _ ho)))) (show jfI 47 23 (.putfield 21) 3 [4, 1, 5, 0, 1128] = true by decide +kernel) (by decide) ?_
  refine jEv.blk [(.aload_n 0, 1, []), (.iconst (-1), 1, [])] (by decide +kernel) (pc' := 28) (ls' := [(2, Int.ofNat o)]) (st' := [(0, (-1)), (2, Int.ofNat o)]) rfl ?_
  refine jEv.pfI (show jfI 47 28 (.putfield 25) 3 [4, 4, 0, 0, 1134] = true by decide +kernel) (jlP _ (jlP _ (jlP _ (jlP _ ho)))) (by decide) ?_
  refine jEv.blk [(.aload_n 0, 1, []), (.iconst 0, 1, [])] (by decide +kernel) (pc' := 33) (ls' := [(2, Int.ofNat o)]) (st' := [(0, 0), (2, Int.ofNat o)]) rfl ?_
  refine jEv.nwA (n := 0) l4 (show jfI 47 33 (.newarray .int) 2 [20] = true by decide +kernel) (by decide) rfl ?_
  have l5 := jlN (20, 0) l4
  refine jEv.pfD (show jfI 47 35 (.putfield 29) 3 [4, 5, 2, 0, 1136] = true by decide +kernel) (jlP _ (jlP _ (jlP _ (jlP _ (jlP _ ho))))) (by decide) ?_
  refine jEv.blk [(.aload_n 0, 1, []), (.aload_n 0, 1, [])] (by decide +kernel) (pc' := 40) (ls' := [(2, Int.ofNat o)]) (st' := [(2, Int.ofNat o), (2, Int.ofNat o)]) rfl ?_
  refine jEv.gfR (o' := (o + 13)) (show jfI 47 40 (.getfield 21) 3 [4, 1, 5, 0, 1128] = true by decide +kernel) (jlP _ (jlP _ (jlP _ (jlP _ (jlP _ ho))))) (by decide) (by simp [jupR]) ?_
  refine jEv.pfD (show jfI 47 43 (.putfield 33) 3 [4, 9, 2, 0, 1140] = true by decide +kernel) (jlP _ (jlP _ (jlP _ (jlP _ (jlP _ ho))))) (by decide) ?_
  exact jEv.retV (show jfI 47 46 (.return_) 1 [] = true by decide +kernel) (by decide +kernel) rfl
def sfx_8 : List (Nat × Nat) := [(3, 10)] ++ sfx_3 ++ [(20, 16)] ++ [(20, 4)]
theorem sfx_8_len : sfx_8.length = 3 := by decide +kernel
def KR_8 (R : Nat → Nat → Nat) (o : Nat) : Nat → Nat → Nat := (jupR (jupR (jupR (KR_3 R (o + 1)) o 0 (o + 1)) o 1 (o + 2)) o 2 (o + 3))
def H_8 (h : jH) (o : Nat) : jH := (H_3 h (o + 1))
theorem KR_8_lt {R : Nat → Nat → Nat} {o o' : Nat} (ho : o' < o) : KR_8 R o o' = R o' := by
  unfold KR_8
  repeat (first | rw [jupR_ne] | rw [KR_0_lt] | rw [KR_1_lt] | rw [KR_2_lt] | rw [KR_3_lt] | rw [KR_10_lt] | rw [KR_7_lt] | rw [KR_5_lt] | rw [KR_6_lt] | rw [KR_4_lt])
  all_goals first | rfl | omega
theorem H_8_lt {h : jH} {o o' : Nat} (ho : o' < o) : H_8 h o o' = h o' := by
  unfold H_8
  repeat (first | rw [jup_ne] | rw [jfill_ne] | rw [H_0_lt] | rw [H_1_lt] | rw [H_2_lt] | rw [H_3_lt] | rw [H_10_lt] | rw [H_7_lt] | rw [H_5_lt] | rw [H_6_lt] | rw [H_4_lt])
  all_goals first | rfl | omega
set_option maxRecDepth 20000 in
set_option maxHeartbeats 4000000 in
theorem c_8 {xs : List Int} {L : List (Nat × Nat)} {R : Nat → Nat → Nat} {h : jH} {o : Nat} (hl : L.length = o + 1) (ho : L[o]? = some (8, 8)) : jEm xs 2 101 [(2, Int.ofNat o)] ((L, R), h) ((3, 0), ((L ++ sfx_8, KR_8 R o), H_8 h o)) := by
  have eL : L ++ sfx_8 = ((((L ++ [(3, 10)]) ++ sfx_3) ++ [(20, 16)]) ++ [(20, 4)]) := by simp only [sfx_8, List.append_assoc]
  rw [eL]
  refine jEm.ent (n := 1) (by decide +kernel) (Nat.le_of_ble_eq_true rfl) ?_
  show jEv xs 1 (101, 0, [(2, Int.ofNat o)], []) ((L, R), h) _
  refine jEv.blk [(.aload_n 0, 1, [])] (by decide +kernel) (pc' := 1) (ls' := [(2, Int.ofNat o)]) (st' := [(2, Int.ofNat o)]) rfl ?_
  refine jEv.obj ho (show jfI 101 1 (.invokespecial 3) 3 [7, 0, 0, 2159] = true by decide +kernel) rfl (by decide) (Nat.le_of_ble_eq_true rfl) ?_
  refine jEv.blk [(.aload_n 0, 1, [])] (by decide +kernel) (pc' := 5) (ls' := [(2, Int.ofNat o)]) (st' := [(2, Int.ofNat o)]) rfl ?_
  refine jEv.nwC (n := 10) hl (show jfI 101 5 (.new 9) 3 [3, 2160] = true by decide +kernel) (by decide) (by decide +kernel) ?_
  have l1 := jlN (3, 10) hl
  refine jEv.blk [(.dup, 1, [])] (by decide +kernel) (pc' := 9) (ls' := [(2, Int.ofNat o)]) (st' := [(2, Int.ofNat (o + 1)), (2, Int.ofNat (o + 1)), (2, Int.ofNat o)]) rfl ?_
  refine jEv.calV (st' := [(2, Int.ofNat (o + 1)), (2, Int.ofNat o)]) (show jfI 101 9 (.invokespecial 11) 3 [6, 38, 0, 2162] = true by decide +kernel) rfl (Or.inr (Or.inr (Or.inr rfl))) rfl (Nat.le_of_ble_eq_true rfl) (by decide +kernel) (by decide) (jlA hl) ((c_3 (xs := xs) l1 (jlA hl)).mono (by decide)) rfl ?_
  have l2 := jlS l1 sfx_3_len
  refine jEv.pfR (jlP _ (jlP _ ho)) (show jfI 101 12 (.putfield 12) 3 [8, 0, 5, 0, 2203] = true by decide +kernel) (by decide) ?_
  refine jEv.blk [(.aload_n 0, 1, []), (.bipush 16, 2, [])] (by decide +kernel) (pc' := 18) (ls' := [(2, Int.ofNat o)]) (st' := [(0, 16), (2, Int.ofNat o)]) rfl ?_
  refine jEv.nwA (n := 16) l2 (show jfI 101 18 (.newarray .int) 2 [20] = true by decide +kernel) (by decide) rfl ?_
  have l3 := jlN (20, 16) l2
  refine jEv.pfR (jlP _ (jlP _ (jlP _ ho))) (show jfI 101 20 (.putfield 18) 3 [8, 1, 5, 0, 2205] = true by decide +kernel) (by decide) ?_
  refine jEv.blk [(.aload_n 0, 1, []), (.iconst 4, 1, [])] (by decide +kernel) (pc' := 25) (ls' := [(2, Int.ofNat o)]) (st' := [(0, 4), (2, Int.ofNat o)]) rfl ?_
  refine jEv.nwA (n := 4) l3 (show jfI 101 25 (.newarray .int) 2 [20] = true by decide +kernel) (by decide) rfl ?_
  have l4 := jlN (20, 4) l3
  refine jEv.pfR (jlP _ (jlP _ (jlP _ (jlP _ ho)))) (show jfI 101 27 (.putfield 22) 3 [8, 2, 5, 0, 2208] = true by decide +kernel) (by decide) ?_
  exact jEv.retV (show jfI 101 30 (.return_) 1 [] = true by decide +kernel) (by decide +kernel) rfl
def sfx_9 : List (Nat × Nat) := [(0, 5)] ++ sfx_0 ++ [(1, 4)] ++ sfx_1 ++ [(7, 7)] ++ sfx_7 ++ [(10, 7)] ++ sfx_10 ++ [(20, 16)] ++ [(20, 16)] ++ [(20, 4)]
theorem sfx_9_len : sfx_9.length = 20 := by decide +kernel
def KR_9 (R : Nat → Nat → Nat) (o : Nat) : Nat → Nat → Nat := (jupR (jupR (jupR (jupR (KR_10 (jupR (KR_7 (jupR (KR_1 (jupR (KR_0 R (o + 1)) o 1 (o + 1)) (o + 4)) o 2 (o + 4)) (o + 7)) o 3 (o + 7)) (o + 12)) o 4 (o + 12)) o 5 (o + 18)) o 6 (o + 19)) o 8 (o + 20))
def H_9 (h : jH) (o : Nat) (p : Nat) : jH := (jfill (jfill (jup (H_10 (H_7 (H_1 (H_0 h (o + 1)) (o + 4)) (o + 7)) (o + 12)) o 0 (Int.ofNat p)) (o + 18) 16 (-1)) (o + 19) 16 (-1))
theorem KR_9_lt {R : Nat → Nat → Nat} {o o' : Nat} (ho : o' < o) : KR_9 R o o' = R o' := by
  unfold KR_9
  repeat (first | rw [jupR_ne] | rw [KR_0_lt] | rw [KR_1_lt] | rw [KR_2_lt] | rw [KR_3_lt] | rw [KR_10_lt] | rw [KR_7_lt] | rw [KR_5_lt] | rw [KR_6_lt] | rw [KR_4_lt] | rw [KR_8_lt])
  all_goals first | rfl | omega
theorem H_9_lt {h : jH} {o o' p : Nat} (ho : o' < o) : H_9 h o p o' = h o' := by
  unfold H_9
  repeat (first | rw [jup_ne] | rw [jfill_ne] | rw [H_0_lt] | rw [H_1_lt] | rw [H_2_lt] | rw [H_3_lt] | rw [H_10_lt] | rw [H_7_lt] | rw [H_5_lt] | rw [H_6_lt] | rw [H_4_lt] | rw [H_8_lt])
  all_goals first | rfl | omega
set_option maxRecDepth 20000 in
set_option maxHeartbeats 4000000 in
theorem c_9 {xs : List Int} {L : List (Nat × Nat)} {R : Nat → Nat → Nat} {h : jH} {o p : Nat} (hl : L.length = o + 1) (ho : L[o]? = some (9, 15)) : jEm xs 2 108 [(2, Int.ofNat o), (2, Int.ofNat p)] ((L, R), h) ((3, 0), ((L ++ sfx_9, KR_9 R o), H_9 h o p)) := by
  have eL : L ++ sfx_9 = (((((((((((L ++ [(0, 5)]) ++ sfx_0) ++ [(1, 4)]) ++ sfx_1) ++ [(7, 7)]) ++ sfx_7) ++ [(10, 7)]) ++ sfx_10) ++ [(20, 16)]) ++ [(20, 16)]) ++ [(20, 4)]) := by simp only [sfx_9, List.append_assoc]
  rw [eL]
  refine jEm.ent (n := 2) (by decide +kernel) (Nat.le_of_ble_eq_true rfl) ?_
  show jEv xs 1 (108, 0, [(2, Int.ofNat o), (2, Int.ofNat p)], []) ((L, R), h) _
  refine jEv.blk [(.aload_n 0, 1, [])] (by decide +kernel) (pc' := 1) (ls' := [(2, Int.ofNat o), (2, Int.ofNat p)]) (st' := [(2, Int.ofNat o)]) rfl ?_
  refine jEv.obj ho (show jfI 108 1 (.invokespecial 3) 3 [7, 0, 0, 1173] = true by decide +kernel) rfl (by decide) (Nat.le_of_ble_eq_true rfl) ?_
  refine jEv.blk [(.aload_n 0, 1, [])] (by decide +kernel) (pc' := 5) (ls' := [(2, Int.ofNat o), (2, Int.ofNat p)]) (st' := [(2, Int.ofNat o)]) rfl ?_
  refine jEv.nwC (n := 5) hl (show jfI 108 5 (.new 9) 3 [0, 1174] = true by decide +kernel) (by decide) (by decide +kernel) ?_
  have l1 := jlN (0, 5) hl
  refine jEv.blk [(.dup, 1, [])] (by decide +kernel) (pc' := 9) (ls' := [(2, Int.ofNat o), (2, Int.ofNat p)]) (st' := [(2, Int.ofNat (o + 1)), (2, Int.ofNat (o + 1)), (2, Int.ofNat o)]) rfl ?_
  refine jEv.calV (st' := [(2, Int.ofNat (o + 1)), (2, Int.ofNat o)]) (show jfI 108 9 (.invokespecial 11) 3 [6, 1, 0, 1176] = true by decide +kernel) rfl (Or.inr (Or.inr (Or.inr rfl))) rfl (Nat.le_of_ble_eq_true rfl) (by decide +kernel) (by decide) (jlA hl) ((c_0 (xs := xs) l1 (jlA hl)).mono (by decide)) rfl ?_
  have l2 := jlS l1 sfx_0_len
  refine jEv.pfR (jlP _ (jlP _ ho)) (show jfI 108 12 (.putfield 12) 3 [9, 1, 5, 0, 2065] = true by decide +kernel) (by decide) ?_
  refine jEv.blk [(.aload_n 0, 1, [])] (by decide +kernel) (pc' := 16) (ls' := [(2, Int.ofNat o), (2, Int.ofNat p)]) (st' := [(2, Int.ofNat o)]) rfl ?_
  refine jEv.nwC (n := 4) l2 (show jfI 108 16 (.new 18) 3 [1, 1204] = true by decide +kernel) (by decide) (by decide +kernel) ?_
  have l3 := jlN (1, 4) l2
  refine jEv.blk [(.dup, 1, [])] (by decide +kernel) (pc' := 20) (ls' := [(2, Int.ofNat o), (2, Int.ofNat p)]) (st' := [(2, Int.ofNat (o + 4)), (2, Int.ofNat (o + 4)), (2, Int.ofNat o)]) rfl ?_
  refine jEv.calV (st' := [(2, Int.ofNat (o + 4)), (2, Int.ofNat o)]) (show jfI 108 20 (.invokespecial 20) 3 [6, 21, 0, 1206] = true by decide +kernel) rfl (Or.inr (Or.inr (Or.inr rfl))) rfl (Nat.le_of_ble_eq_true rfl) (by decide +kernel) (by decide) (jlA l2) ((c_1 (xs := xs) l3 (jlA l2)).mono (by decide)) rfl ?_
  have l4 := jlS l3 sfx_1_len
  refine jEv.pfR (jlP _ (jlP _ (jlP _ (jlP _ ho)))) (show jfI 108 23 (.putfield 21) 3 [9, 2, 5, 0, 2068] = true by decide +kernel) (by decide) ?_
  refine jEv.blk [(.aload_n 0, 1, [])] (by decide +kernel) (pc' := 27) (ls' := [(2, Int.ofNat o), (2, Int.ofNat p)]) (st' := [(2, Int.ofNat o)]) rfl ?_
  refine jEv.nwC (n := 7) l4 (show jfI 108 27 (.new 25) 3 [7, 1229] = true by decide +kernel) (by decide) (by decide +kernel) ?_
  have l5 := jlN (7, 7) l4
  refine jEv.blk [(.dup, 1, [])] (by decide +kernel) (pc' := 31) (ls' := [(2, Int.ofNat o), (2, Int.ofNat p)]) (st' := [(2, Int.ofNat (o + 7)), (2, Int.ofNat (o + 7)), (2, Int.ofNat o)]) rfl ?_
  refine jEv.calV (st' := [(2, Int.ofNat (o + 7)), (2, Int.ofNat o)]) (show jfI 108 31 (.invokespecial 27) 3 [6, 90, 0, 1231] = true by decide +kernel) rfl (Or.inr (Or.inr (Or.inr rfl))) rfl (Nat.le_of_ble_eq_true rfl) (by decide +kernel) (by decide) (jlA l4) ((c_7 (xs := xs) l5 (jlA l4)).mono (by decide)) rfl ?_
  have l6 := jlS l5 sfx_7_len
  refine jEv.pfR (jlP _ (jlP _ (jlP _ (jlP _ (jlP _ (jlP _ ho)))))) (show jfI 108 34 (.putfield 28) 3 [9, 3, 5, 0, 2071] = true by decide +kernel) (by decide) ?_
  refine jEv.blk [(.aload_n 0, 1, [])] (by decide +kernel) (pc' := 38) (ls' := [(2, Int.ofNat o), (2, Int.ofNat p)]) (st' := [(2, Int.ofNat o)]) rfl ?_
  refine jEv.nwC (n := 7) l6 (show jfI 108 38 (.new 32) 3 [10, 2031] = true by decide +kernel) (by decide) (by decide +kernel) ?_
  have l7 := jlN (10, 7) l6
  refine jEv.blk [(.dup, 1, [])] (by decide +kernel) (pc' := 42) (ls' := [(2, Int.ofNat o), (2, Int.ofNat p)]) (st' := [(2, Int.ofNat (o + 12)), (2, Int.ofNat (o + 12)), (2, Int.ofNat o)]) rfl ?_
  refine jEv.calV (st' := [(2, Int.ofNat (o + 12)), (2, Int.ofNat o)]) (show jfI 108 42 (.invokespecial 34) 3 [6, 124, 0, 2033] = true by decide +kernel) rfl (Or.inr (Or.inr (Or.inr rfl))) rfl (Nat.le_of_ble_eq_true rfl) (by decide +kernel) (by decide) (jlA l6) ((c_10 (xs := xs) l7 (jlA l6)).mono (by decide)) rfl ?_
  have l8 := jlS l7 sfx_10_len
  refine jEv.pfR (jlP _ (jlP _ (jlP _ (jlP _ (jlP _ (jlP _ (jlP _ (jlP _ ho)))))))) (show jfI 108 45 (.putfield 35) 3 [9, 4, 5, 0, 2074] = true by decide +kernel) (by decide) ?_
  refine jEv.blk [(.aload_n 0, 1, []), (.bipush 16, 2, [])] (by decide +kernel) (pc' := 51) (ls' := [(2, Int.ofNat o), (2, Int.ofNat p)]) (st' := [(0, 16), (2, Int.ofNat o)]) rfl ?_
  refine jEv.nwA (n := 16) l8 (show jfI 108 51 (.newarray .int) 2 [20] = true by decide +kernel) (by decide) rfl ?_
  have l9 := jlN (20, 16) l8
  refine jEv.pfR (jlP _ (jlP _ (jlP _ (jlP _ (jlP _ (jlP _ (jlP _ (jlP _ (jlP _ ho))))))))) (show jfI 108 53 (.putfield 39) 3 [9, 5, 5, 0, 2076] = true by decide +kernel) (by decide) ?_
  refine jEv.blk [(.aload_n 0, 1, []), (.bipush 16, 2, [])] (by decide +kernel) (pc' := 59) (ls' := [(2, Int.ofNat o), (2, Int.ofNat p)]) (st' := [(0, 16), (2, Int.ofNat o)]) rfl ?_
  refine jEv.nwA (n := 16) l9 (show jfI 108 59 (.newarray .int) 2 [20] = true by decide +kernel) (by decide) rfl ?_
  have l10 := jlN (20, 16) l9
  refine jEv.pfR (jlP _ (jlP _ (jlP _ (jlP _ (jlP _ (jlP _ (jlP _ (jlP _ (jlP _ (jlP _ ho)))))))))) (show jfI 108 61 (.putfield 43) 3 [9, 6, 5, 0, 2078] = true by decide +kernel) (by decide) ?_
  refine jEv.blk [(.aload_n 0, 1, []), (.iconst 4, 1, [])] (by decide +kernel) (pc' := 66) (ls' := [(2, Int.ofNat o), (2, Int.ofNat p)]) (st' := [(0, 4), (2, Int.ofNat o)]) rfl ?_
  refine jEv.nwA (n := 4) l10 (show jfI 108 66 (.newarray .int) 2 [20] = true by decide +kernel) (by decide) rfl ?_
  have l11 := jlN (20, 4) l10
  refine jEv.pfR (jlP _ (jlP _ (jlP _ (jlP _ (jlP _ (jlP _ (jlP _ (jlP _ (jlP _ (jlP _ (jlP _ ho))))))))))) (show jfI 108 68 (.putfield 46) 3 [9, 8, 5, 0, 2082] = true by decide +kernel) (by decide) ?_
  refine jEv.blk [(.aload_n 0, 1, []), (.aload_n 1, 1, [])] (by decide +kernel) (pc' := 73) (ls' := [(2, Int.ofNat o), (2, Int.ofNat p)]) (st' := [(2, Int.ofNat p), (2, Int.ofNat o)]) rfl ?_
  refine jEv.pfD (show jfI 108 73 (.putfield 49) 3 [9, 0, 2, 0, 2064] = true by decide +kernel) (jlP _ (jlP _ (jlP _ (jlP _ (jlP _ (jlP _ (jlP _ (jlP _ (jlP _ (jlP _ (jlP _ ho))))))))))) (by decide) ?_
  refine jEv.blk [(.aload_n 0, 1, [])] (by decide +kernel) (pc' := 77) (ls' := [(2, Int.ofNat o), (2, Int.ofNat p)]) (st' := [(2, Int.ofNat o)]) rfl ?_
  refine jEv.gfR (o' := (o + 18)) (show jfI 108 77 (.getfield 39) 3 [9, 5, 5, 0, 2076] = true by decide +kernel) (jlP _ (jlP _ (jlP _ (jlP _ (jlP _ (jlP _ (jlP _ (jlP _ (jlP _ (jlP _ (jlP _ ho))))))))))) (by decide) (by simp [jupR]) ?_
  refine jEv.blk [(.iconst (-1), 1, [])] (by decide +kernel) (pc' := 81) (ls' := [(2, Int.ofNat o), (2, Int.ofNat p)]) (st' := [(0, (-1)), (2, Int.ofNat (o + 18))]) rfl ?_
  refine jEv.calS (st' := []) (show jfI 108 81 (.invokestatic 53) 3 [3, 359, 2, 2061] = true by decide +kernel) rfl (Or.inl rfl) rfl (Nat.le_of_ble_eq_true rfl) ((t_JArr_fill (xs := xs) (by decide) (jlP _ (jlP _ (jlA l8)))).mono (by decide)) rfl ?_
  refine jEv.blk [(.aload_n 0, 1, [])] (by decide +kernel) (pc' := 85) (ls' := [(2, Int.ofNat o), (2, Int.ofNat p)]) (st' := [(2, Int.ofNat o)]) rfl ?_
  refine jEv.gfR (o' := (o + 19)) (show jfI 108 85 (.getfield 43) 3 [9, 6, 5, 0, 2078] = true by decide +kernel) (jlP _ (jlP _ (jlP _ (jlP _ (jlP _ (jlP _ (jlP _ (jlP _ (jlP _ (jlP _ (jlP _ ho))))))))))) (by decide) (by simp [jupR]) ?_
  refine jEv.blk [(.iconst (-1), 1, [])] (by decide +kernel) (pc' := 89) (ls' := [(2, Int.ofNat o), (2, Int.ofNat p)]) (st' := [(0, (-1)), (2, Int.ofNat (o + 19))]) rfl ?_
  refine jEv.calS (st' := []) (show jfI 108 89 (.invokestatic 53) 3 [3, 359, 2, 2061] = true by decide +kernel) rfl (Or.inl rfl) rfl (Nat.le_of_ble_eq_true rfl) ((t_JArr_fill (xs := xs) (by decide) (jlP _ (jlA l9))).mono (by decide)) rfl ?_
  exact jEv.retV (show jfI 108 92 (.return_) 1 [] = true by decide +kernel) (by decide +kernel) rfl
