/-! the constructors -/
def sfx_0 : List (Nat × Nat) := [(20, 512)] ++ [(20, 512)]
theorem sfx_0_len : sfx_0.length = 2 := by decide +kernel
def KR_0 (R : Nat → Nat → Nat) (o : Nat) : Nat → Nat → Nat := (jupR (jupR R o 0 (o + 1)) o 1 (o + 2))
def H_0 (h : jH) (o : Nat) : jH := h
theorem KR_0_lt {R : Nat → Nat → Nat} {o o' : Nat} (ho : o' < o) : KR_0 R o o' = R o' := by
  unfold KR_0
  repeat (first | rw [jupR_ne])
  all_goals omega
theorem H_0_lt {h : jH} {o o' : Nat} (ho : o' < o) : H_0 h o o' = h o' := by
  unfold H_0
  repeat (first | rw [jup_ne] | rw [jfill_ne])
  all_goals omega
set_option maxRecDepth 20000 in
set_option maxHeartbeats 4000000 in
theorem c_0 {xs : List Int} {L : List (Nat × Nat)} {R : Nat → Nat → Nat} {h : jH} {o : Nat} (hl : L.length = o + 1) (ho : L[o]? = some (0, 5)) : jEm xs 1 1 [(2, Int.ofNat o)] ((L, R), h) ((3, 0), ((L ++ sfx_0, KR_0 R o), H_0 h o)) := by
  have eL : L ++ sfx_0 = ((L ++ [(20, 512)]) ++ [(20, 512)]) := by simp only [sfx_0, List.append_assoc]
  rw [eL]
  refine jEm.ent (n := 1) (by decide +kernel) (by decide) ?_
  show jEv xs 0 (1, 0, [(2, Int.ofNat o)], []) ((L, R), h) _
  refine jEv.blk [(.aload_n 0, 1, [])] (by decide +kernel) (pc' := 1) (ls' := [(2, Int.ofNat o)]) (st' := [(2, Int.ofNat o)]) rfl ?_
  refine jEv.obj ho (by decide +kernel) rfl (by decide) (by decide) ?_
  refine jEv.blk [(.aload_n 0, 1, []), (.sipush 512, 3, [])] (by decide +kernel) (pc' := 8) (ls' := [(2, Int.ofNat o)]) (st' := [(2, Int.ofNat o), (0, 512)]) rfl ?_
  refine jEv.nwA (n := 512) hl (by decide +kernel) (by decide) rfl ?_
  have l1 := jlN (20, 512) hl
  refine jEv.pfR (jlP _ ho) (by decide +kernel) (by decide) ?_
  refine jEv.blk [(.aload_n 0, 1, []), (.sipush 512, 3, [])] (by decide +kernel) (pc' := 17) (ls' := [(2, Int.ofNat o)]) (st' := [(2, Int.ofNat o), (0, 512)]) rfl ?_
  refine jEv.nwA (n := 512) l1 (by decide +kernel) (by decide) rfl ?_
  have l2 := jlN (20, 512) l1
  refine jEv.pfR (jlP _ (jlP _ ho)) (by decide +kernel) (by decide) ?_
  exact jEv.retV (by decide +kernel) (by decide +kernel) rfl
def sfx_1 : List (Nat × Nat) := [(20, 512)] ++ [(20, 512)]
theorem sfx_1_len : sfx_1.length = 2 := by decide +kernel
def KR_1 (R : Nat → Nat → Nat) (o : Nat) : Nat → Nat → Nat := (jupR (jupR R o 0 (o + 1)) o 1 (o + 2))
def H_1 (h : jH) (o : Nat) : jH := h
theorem KR_1_lt {R : Nat → Nat → Nat} {o o' : Nat} (ho : o' < o) : KR_1 R o o' = R o' := by
  unfold KR_1
  repeat (first | rw [jupR_ne] | rw [KR_0_lt])
  all_goals omega
theorem H_1_lt {h : jH} {o o' : Nat} (ho : o' < o) : H_1 h o o' = h o' := by
  unfold H_1
  repeat (first | rw [jup_ne] | rw [jfill_ne] | rw [H_0_lt])
  all_goals omega
set_option maxRecDepth 20000 in
set_option maxHeartbeats 4000000 in
theorem c_1 {xs : List Int} {L : List (Nat × Nat)} {R : Nat → Nat → Nat} {h : jH} {o : Nat} (hl : L.length = o + 1) (ho : L[o]? = some (1, 4)) : jEm xs 1 21 [(2, Int.ofNat o)] ((L, R), h) ((3, 0), ((L ++ sfx_1, KR_1 R o), H_1 h o)) := by
  have eL : L ++ sfx_1 = ((L ++ [(20, 512)]) ++ [(20, 512)]) := by simp only [sfx_1, List.append_assoc]
  rw [eL]
  refine jEm.ent (n := 1) (by decide +kernel) (by decide) ?_
  show jEv xs 0 (21, 0, [(2, Int.ofNat o)], []) ((L, R), h) _
  refine jEv.blk [(.aload_n 0, 1, [])] (by decide +kernel) (pc' := 1) (ls' := [(2, Int.ofNat o)]) (st' := [(2, Int.ofNat o)]) rfl ?_
  refine jEv.obj ho (by decide +kernel) rfl (by decide) (by decide) ?_
  refine jEv.blk [(.aload_n 0, 1, []), (.sipush 512, 3, [])] (by decide +kernel) (pc' := 8) (ls' := [(2, Int.ofNat o)]) (st' := [(2, Int.ofNat o), (0, 512)]) rfl ?_
  refine jEv.nwA (n := 512) hl (by decide +kernel) (by decide) rfl ?_
  have l1 := jlN (20, 512) hl
  refine jEv.pfR (jlP _ ho) (by decide +kernel) (by decide) ?_
  refine jEv.blk [(.aload_n 0, 1, []), (.sipush 512, 3, [])] (by decide +kernel) (pc' := 17) (ls' := [(2, Int.ofNat o)]) (st' := [(2, Int.ofNat o), (0, 512)]) rfl ?_
  refine jEv.nwA (n := 512) l1 (by decide +kernel) (by decide) rfl ?_
  have l2 := jlN (20, 512) l1
  refine jEv.pfR (jlP _ (jlP _ ho)) (by decide +kernel) (by decide) ?_
  exact jEv.retV (by decide +kernel) (by decide +kernel) rfl
def sfx_2 : List (Nat × Nat) := [(20, 1600)] ++ [(20, 160)] ++ [(20, 64)]
theorem sfx_2_len : sfx_2.length = 3 := by decide +kernel
def KR_2 (R : Nat → Nat → Nat) (o : Nat) : Nat → Nat → Nat := (jupR (jupR (jupR R o 0 (o + 1)) o 2 (o + 2)) o 3 (o + 3))
def H_2 (h : jH) (o : Nat) : jH := h
theorem KR_2_lt {R : Nat → Nat → Nat} {o o' : Nat} (ho : o' < o) : KR_2 R o o' = R o' := by
  unfold KR_2
  repeat (first | rw [jupR_ne] | rw [KR_0_lt] | rw [KR_1_lt])
  all_goals omega
theorem H_2_lt {h : jH} {o o' : Nat} (ho : o' < o) : H_2 h o o' = h o' := by
  unfold H_2
  repeat (first | rw [jup_ne] | rw [jfill_ne] | rw [H_0_lt] | rw [H_1_lt])
  all_goals omega
set_option maxRecDepth 20000 in
set_option maxHeartbeats 4000000 in
theorem c_2 {xs : List Int} {L : List (Nat × Nat)} {R : Nat → Nat → Nat} {h : jH} {o : Nat} (hl : L.length = o + 1) (ho : L[o]? = some (2, 5)) : jEm xs 1 26 [(2, Int.ofNat o)] ((L, R), h) ((3, 0), ((L ++ sfx_2, KR_2 R o), H_2 h o)) := by
  have eL : L ++ sfx_2 = (((L ++ [(20, 1600)]) ++ [(20, 160)]) ++ [(20, 64)]) := by simp only [sfx_2, List.append_assoc]
  rw [eL]
  refine jEm.ent (n := 1) (by decide +kernel) (by decide) ?_
  show jEv xs 0 (26, 0, [(2, Int.ofNat o)], []) ((L, R), h) _
  refine jEv.blk [(.aload_n 0, 1, [])] (by decide +kernel) (pc' := 1) (ls' := [(2, Int.ofNat o)]) (st' := [(2, Int.ofNat o)]) rfl ?_
  refine jEv.obj ho (by decide +kernel) rfl (by decide) (by decide) ?_
  refine jEv.blk [(.aload_n 0, 1, []), (.sipush 1600, 3, [])] (by decide +kernel) (pc' := 8) (ls' := [(2, Int.ofNat o)]) (st' := [(2, Int.ofNat o), (0, 1600)]) rfl ?_
  refine jEv.nwA (n := 1600) hl (by decide +kernel) (by decide) rfl ?_
  have l1 := jlN (20, 1600) hl
  refine jEv.pfR (jlP _ ho) (by decide +kernel) (by decide) ?_
  refine jEv.blk [(.aload_n 0, 1, []), (.sipush 160, 3, [])] (by decide +kernel) (pc' := 17) (ls' := [(2, Int.ofNat o)]) (st' := [(2, Int.ofNat o), (0, 160)]) rfl ?_
  refine jEv.nwA (n := 160) l1 (by decide +kernel) (by decide) rfl ?_
  have l2 := jlN (20, 160) l1
  refine jEv.pfR (jlP _ (jlP _ ho)) (by decide +kernel) (by decide) ?_
  refine jEv.blk [(.aload_n 0, 1, []), (.bipush 64, 2, [])] (by decide +kernel) (pc' := 25) (ls' := [(2, Int.ofNat o)]) (st' := [(2, Int.ofNat o), (0, 64)]) rfl ?_
  refine jEv.nwA (n := 64) l2 (by decide +kernel) (by decide) rfl ?_
  have l3 := jlN (20, 64) l2
  refine jEv.pfR (jlP _ (jlP _ (jlP _ ho))) (by decide +kernel) (by decide) ?_
  exact jEv.retV (by decide +kernel) (by decide +kernel) rfl
def sfx_3 : List (Nat × Nat) := []
theorem sfx_3_len : sfx_3.length = 0 := by decide +kernel
def KR_3 (R : Nat → Nat → Nat) (o : Nat) : Nat → Nat → Nat := R
def H_3 (h : jH) (o : Nat) : jH := h
theorem KR_3_lt {R : Nat → Nat → Nat} {o o' : Nat} (ho : o' < o) : KR_3 R o o' = R o' := by
  unfold KR_3
  repeat (first | rw [jupR_ne] | rw [KR_0_lt] | rw [KR_1_lt] | rw [KR_2_lt])
  all_goals omega
theorem H_3_lt {h : jH} {o o' : Nat} (ho : o' < o) : H_3 h o o' = h o' := by
  unfold H_3
  repeat (first | rw [jup_ne] | rw [jfill_ne] | rw [H_0_lt] | rw [H_1_lt] | rw [H_2_lt])
  all_goals omega
set_option maxRecDepth 20000 in
set_option maxHeartbeats 4000000 in
theorem c_3 {xs : List Int} {L : List (Nat × Nat)} {R : Nat → Nat → Nat} {h : jH} {o : Nat} (hl : L.length = o + 1) (ho : L[o]? = some (3, 10)) : jEm xs 1 38 [(2, Int.ofNat o)] ((L, R), h) ((3, 0), ((L ++ sfx_3, KR_3 R o), H_3 h o)) := by
  have eL : L ++ sfx_3 = L := List.append_nil L
  rw [eL]
  refine jEm.ent (n := 1) (by decide +kernel) (by decide) ?_
  show jEv xs 0 (38, 0, [(2, Int.ofNat o)], []) ((L, R), h) _
  refine jEv.blk [(.aload_n 0, 1, [])] (by decide +kernel) (pc' := 1) (ls' := [(2, Int.ofNat o)]) (st' := [(2, Int.ofNat o)]) rfl ?_
  refine jEv.obj ho (by decide +kernel) rfl (by decide) (by decide) ?_
  exact jEv.retV (by decide +kernel) (by decide +kernel) rfl
def sfx_10 : List (Nat × Nat) := [(20, 8)] ++ [(20, 8)] ++ [(20, 40)] ++ [(20, 40)] ++ [(20, 40)]
theorem sfx_10_len : sfx_10.length = 5 := by decide +kernel
def KR_10 (R : Nat → Nat → Nat) (o : Nat) : Nat → Nat → Nat := (jupR (jupR (jupR (jupR (jupR R o 0 (o + 1)) o 1 (o + 2)) o 3 (o + 3)) o 4 (o + 4)) o 5 (o + 5))
def H_10 (h : jH) (o : Nat) : jH := h
theorem KR_10_lt {R : Nat → Nat → Nat} {o o' : Nat} (ho : o' < o) : KR_10 R o o' = R o' := by
  unfold KR_10
  repeat (first | rw [jupR_ne] | rw [KR_0_lt] | rw [KR_1_lt] | rw [KR_2_lt] | rw [KR_3_lt])
  all_goals omega
theorem H_10_lt {h : jH} {o o' : Nat} (ho : o' < o) : H_10 h o o' = h o' := by
  unfold H_10
  repeat (first | rw [jup_ne] | rw [jfill_ne] | rw [H_0_lt] | rw [H_1_lt] | rw [H_2_lt] | rw [H_3_lt])
  all_goals omega
set_option maxRecDepth 20000 in
set_option maxHeartbeats 4000000 in
theorem c_10 {xs : List Int} {L : List (Nat × Nat)} {R : Nat → Nat → Nat} {h : jH} {o : Nat} (hl : L.length = o + 1) (ho : L[o]? = some (10, 7)) : jEm xs 1 124 [(2, Int.ofNat o)] ((L, R), h) ((3, 0), ((L ++ sfx_10, KR_10 R o), H_10 h o)) := by
  have eL : L ++ sfx_10 = (((((L ++ [(20, 8)]) ++ [(20, 8)]) ++ [(20, 40)]) ++ [(20, 40)]) ++ [(20, 40)]) := by simp only [sfx_10, List.append_assoc]
  rw [eL]
  refine jEm.ent (n := 1) (by decide +kernel) (by decide) ?_
  show jEv xs 0 (124, 0, [(2, Int.ofNat o)], []) ((L, R), h) _
  refine jEv.blk [(.aload_n 0, 1, [])] (by decide +kernel) (pc' := 1) (ls' := [(2, Int.ofNat o)]) (st' := [(2, Int.ofNat o)]) rfl ?_
  refine jEv.obj ho (by decide +kernel) rfl (by decide) (by decide) ?_
  refine jEv.blk [(.aload_n 0, 1, []), (.bipush 8, 2, [])] (by decide +kernel) (pc' := 7) (ls' := [(2, Int.ofNat o)]) (st' := [(2, Int.ofNat o), (0, 8)]) rfl ?_
  refine jEv.nwA (n := 8) hl (by decide +kernel) (by decide) rfl ?_
  have l1 := jlN (20, 8) hl
  refine jEv.pfR (jlP _ ho) (by decide +kernel) (by decide) ?_
  refine jEv.blk [(.aload_n 0, 1, []), (.bipush 8, 2, [])] (by decide +kernel) (pc' := 15) (ls' := [(2, Int.ofNat o)]) (st' := [(2, Int.ofNat o), (0, 8)]) rfl ?_
  refine jEv.nwA (n := 8) l1 (by decide +kernel) (by decide) rfl ?_
  have l2 := jlN (20, 8) l1
  refine jEv.pfR (jlP _ (jlP _ ho)) (by decide +kernel) (by decide) ?_
  refine jEv.blk [(.aload_n 0, 1, []), (.bipush 40, 2, [])] (by decide +kernel) (pc' := 23) (ls' := [(2, Int.ofNat o)]) (st' := [(2, Int.ofNat o), (0, 40)]) rfl ?_
  refine jEv.nwA (n := 40) l2 (by decide +kernel) (by decide) rfl ?_
  have l3 := jlN (20, 40) l2
  refine jEv.pfR (jlP _ (jlP _ (jlP _ ho))) (by decide +kernel) (by decide) ?_
  refine jEv.blk [(.aload_n 0, 1, []), (.bipush 40, 2, [])] (by decide +kernel) (pc' := 31) (ls' := [(2, Int.ofNat o)]) (st' := [(2, Int.ofNat o), (0, 40)]) rfl ?_
  refine jEv.nwA (n := 40) l3 (by decide +kernel) (by decide) rfl ?_
  have l4 := jlN (20, 40) l3
  refine jEv.pfR (jlP _ (jlP _ (jlP _ (jlP _ ho)))) (by decide +kernel) (by decide) ?_
  refine jEv.blk [(.aload_n 0, 1, []), (.bipush 40, 2, [])] (by decide +kernel) (pc' := 39) (ls' := [(2, Int.ofNat o)]) (st' := [(2, Int.ofNat o), (0, 40)]) rfl ?_
  refine jEv.nwA (n := 40) l4 (by decide +kernel) (by decide) rfl ?_
  have l5 := jlN (20, 40) l4
  refine jEv.pfR (jlP _ (jlP _ (jlP _ (jlP _ (jlP _ ho))))) (by decide +kernel) (by decide) ?_
  exact jEv.retV (by decide +kernel) (by decide +kernel) rfl
def sfx_7 : List (Nat × Nat) := [(20, 32)] ++ [(20, 32)] ++ [(20, 32)] ++ [(20, 32)]
theorem sfx_7_len : sfx_7.length = 4 := by decide +kernel
def KR_7 (R : Nat → Nat → Nat) (o : Nat) : Nat → Nat → Nat := (jupR (jupR (jupR (jupR R o 0 (o + 1)) o 1 (o + 2)) o 2 (o + 3)) o 3 (o + 4))
def H_7 (h : jH) (o : Nat) : jH := h
theorem KR_7_lt {R : Nat → Nat → Nat} {o o' : Nat} (ho : o' < o) : KR_7 R o o' = R o' := by
  unfold KR_7
  repeat (first | rw [jupR_ne] | rw [KR_0_lt] | rw [KR_1_lt] | rw [KR_2_lt] | rw [KR_3_lt] | rw [KR_10_lt])
  all_goals omega
theorem H_7_lt {h : jH} {o o' : Nat} (ho : o' < o) : H_7 h o o' = h o' := by
  unfold H_7
  repeat (first | rw [jup_ne] | rw [jfill_ne] | rw [H_0_lt] | rw [H_1_lt] | rw [H_2_lt] | rw [H_3_lt] | rw [H_10_lt])
  all_goals omega
set_option maxRecDepth 20000 in
set_option maxHeartbeats 4000000 in
theorem c_7 {xs : List Int} {L : List (Nat × Nat)} {R : Nat → Nat → Nat} {h : jH} {o : Nat} (hl : L.length = o + 1) (ho : L[o]? = some (7, 7)) : jEm xs 1 90 [(2, Int.ofNat o)] ((L, R), h) ((3, 0), ((L ++ sfx_7, KR_7 R o), H_7 h o)) := by
  have eL : L ++ sfx_7 = ((((L ++ [(20, 32)]) ++ [(20, 32)]) ++ [(20, 32)]) ++ [(20, 32)]) := by simp only [sfx_7, List.append_assoc]
  rw [eL]
  refine jEm.ent (n := 1) (by decide +kernel) (by decide) ?_
  show jEv xs 0 (90, 0, [(2, Int.ofNat o)], []) ((L, R), h) _
  refine jEv.blk [(.aload_n 0, 1, [])] (by decide +kernel) (pc' := 1) (ls' := [(2, Int.ofNat o)]) (st' := [(2, Int.ofNat o)]) rfl ?_
  refine jEv.obj ho (by decide +kernel) rfl (by decide) (by decide) ?_
  refine jEv.blk [(.aload_n 0, 1, []), (.bipush 32, 2, [])] (by decide +kernel) (pc' := 7) (ls' := [(2, Int.ofNat o)]) (st' := [(2, Int.ofNat o), (0, 32)]) rfl ?_
  refine jEv.nwA (n := 32) hl (by decide +kernel) (by decide) rfl ?_
  have l1 := jlN (20, 32) hl
  refine jEv.pfR (jlP _ ho) (by decide +kernel) (by decide) ?_
  refine jEv.blk [(.aload_n 0, 1, []), (.bipush 32, 2, [])] (by decide +kernel) (pc' := 15) (ls' := [(2, Int.ofNat o)]) (st' := [(2, Int.ofNat o), (0, 32)]) rfl ?_
  refine jEv.nwA (n := 32) l1 (by decide +kernel) (by decide) rfl ?_
  have l2 := jlN (20, 32) l1
  refine jEv.pfR (jlP _ (jlP _ ho)) (by decide +kernel) (by decide) ?_
  refine jEv.blk [(.aload_n 0, 1, []), (.bipush 32, 2, [])] (by decide +kernel) (pc' := 23) (ls' := [(2, Int.ofNat o)]) (st' := [(2, Int.ofNat o), (0, 32)]) rfl ?_
  refine jEv.nwA (n := 32) l2 (by decide +kernel) (by decide) rfl ?_
  have l3 := jlN (20, 32) l2
  refine jEv.pfR (jlP _ (jlP _ (jlP _ ho))) (by decide +kernel) (by decide) ?_
  refine jEv.blk [(.aload_n 0, 1, []), (.bipush 32, 2, [])] (by decide +kernel) (pc' := 31) (ls' := [(2, Int.ofNat o)]) (st' := [(2, Int.ofNat o), (0, 32)]) rfl ?_
  refine jEv.nwA (n := 32) l3 (by decide +kernel) (by decide) rfl ?_
  have l4 := jlN (20, 32) l3
  refine jEv.pfR (jlP _ (jlP _ (jlP _ (jlP _ ho)))) (by decide +kernel) (by decide) ?_
  exact jEv.retV (by decide +kernel) (by decide +kernel) rfl
def sfx_5 : List (Nat × Nat) := []
theorem sfx_5_len : sfx_5.length = 0 := by decide +kernel
def KR_5 (R : Nat → Nat → Nat) (o : Nat) : Nat → Nat → Nat := R
def H_5 (h : jH) (o : Nat) : jH := h
theorem KR_5_lt {R : Nat → Nat → Nat} {o o' : Nat} (ho : o' < o) : KR_5 R o o' = R o' := by
  unfold KR_5
  repeat (first | rw [jupR_ne] | rw [KR_0_lt] | rw [KR_1_lt] | rw [KR_2_lt] | rw [KR_3_lt] | rw [KR_10_lt] | rw [KR_7_lt])
  all_goals omega
theorem H_5_lt {h : jH} {o o' : Nat} (ho : o' < o) : H_5 h o o' = h o' := by
  unfold H_5
  repeat (first | rw [jup_ne] | rw [jfill_ne] | rw [H_0_lt] | rw [H_1_lt] | rw [H_2_lt] | rw [H_3_lt] | rw [H_10_lt] | rw [H_7_lt])
  all_goals omega
set_option maxRecDepth 20000 in
set_option maxHeartbeats 4000000 in
theorem c_5 {xs : List Int} {L : List (Nat × Nat)} {R : Nat → Nat → Nat} {h : jH} {o : Nat} (hl : L.length = o + 1) (ho : L[o]? = some (5, 5)) : jEm xs 1 77 [(2, Int.ofNat o)] ((L, R), h) ((3, 0), ((L ++ sfx_5, KR_5 R o), H_5 h o)) := by
  have eL : L ++ sfx_5 = L := List.append_nil L
  rw [eL]
  refine jEm.ent (n := 1) (by decide +kernel) (by decide) ?_
  show jEv xs 0 (77, 0, [(2, Int.ofNat o)], []) ((L, R), h) _
  refine jEv.blk [(.aload_n 0, 1, [])] (by decide +kernel) (pc' := 1) (ls' := [(2, Int.ofNat o)]) (st' := [(2, Int.ofNat o)]) rfl ?_
  refine jEv.obj ho (by decide +kernel) rfl (by decide) (by decide) ?_
  exact jEv.retV (by decide +kernel) (by decide +kernel) rfl
def sfx_6 : List (Nat × Nat) := [(2, 5)] ++ sfx_2 ++ [(2, 5)] ++ sfx_2 ++ [(20, 40)] ++ [(20, 40)] ++ [(20, 40)]
theorem sfx_6_len : sfx_6.length = 11 := by decide +kernel
def KR_6 (R : Nat → Nat → Nat) (o : Nat) : Nat → Nat → Nat := (jupR (jupR (jupR (jupR (KR_2 (jupR (KR_2 R (o + 1)) o 7 (o + 1)) (o + 5)) o 8 (o + 5)) o 9 (o + 9)) o 10 (o + 10)) o 11 (o + 11))
def H_6 (h : jH) (o : Nat) : jH := (H_2 (H_2 h (o + 1)) (o + 5))
theorem KR_6_lt {R : Nat → Nat → Nat} {o o' : Nat} (ho : o' < o) : KR_6 R o o' = R o' := by
  unfold KR_6
  repeat (first | rw [jupR_ne] | rw [KR_0_lt] | rw [KR_1_lt] | rw [KR_2_lt] | rw [KR_3_lt] | rw [KR_10_lt] | rw [KR_7_lt] | rw [KR_5_lt])
  all_goals omega
theorem H_6_lt {h : jH} {o o' : Nat} (ho : o' < o) : H_6 h o o' = h o' := by
  unfold H_6
  repeat (first | rw [jup_ne] | rw [jfill_ne] | rw [H_0_lt] | rw [H_1_lt] | rw [H_2_lt] | rw [H_3_lt] | rw [H_10_lt] | rw [H_7_lt] | rw [H_5_lt])
  all_goals omega
set_option maxRecDepth 20000 in
set_option maxHeartbeats 4000000 in
theorem c_6 {xs : List Int} {L : List (Nat × Nat)} {R : Nat → Nat → Nat} {h : jH} {o : Nat} (hl : L.length = o + 1) (ho : L[o]? = some (6, 13)) : jEm xs 2 87 [(2, Int.ofNat o)] ((L, R), h) ((3, 0), ((L ++ sfx_6, KR_6 R o), H_6 h o)) := by
  have eL : L ++ sfx_6 = (((((((L ++ [(2, 5)]) ++ sfx_2) ++ [(2, 5)]) ++ sfx_2) ++ [(20, 40)]) ++ [(20, 40)]) ++ [(20, 40)]) := by simp only [sfx_6, List.append_assoc]
  rw [eL]
  refine jEm.ent (n := 1) (by decide +kernel) (by decide) ?_
  show jEv xs 1 (87, 0, [(2, Int.ofNat o)], []) ((L, R), h) _
  refine jEv.blk [(.aload_n 0, 1, [])] (by decide +kernel) (pc' := 1) (ls' := [(2, Int.ofNat o)]) (st' := [(2, Int.ofNat o)]) rfl ?_
  refine jEv.obj ho (by decide +kernel) rfl (by decide) (by decide) ?_
  refine jEv.blk [(.aload_n 0, 1, [])] (by decide +kernel) (pc' := 5) (ls' := [(2, Int.ofNat o)]) (st' := [(2, Int.ofNat o)]) rfl ?_
  refine jEv.nwC (n := 5) hl (by decide +kernel) (by decide) (by decide +kernel) ?_
  have l1 := jlN (2, 5) hl
  refine jEv.blk [(.dup, 1, [])] (by decide +kernel) (pc' := 9) (ls' := [(2, Int.ofNat o)]) (st' := [(2, Int.ofNat o), (2, Int.ofNat (o + 1)), (2, Int.ofNat (o + 1))]) rfl ?_
  refine jEv.calV (st' := [(2, Int.ofNat o), (2, Int.ofNat (o + 1))]) (by decide +kernel) rfl (Or.inr (Or.inr (Or.inr rfl))) rfl (by decide) (by decide +kernel) (by decide) (jlA hl) ((c_2 (xs := xs) l1 (jlA hl)).mono (by decide)) rfl ?_
  have l2 := jlS l1 sfx_2_len
  refine jEv.pfR (jlP _ (jlP _ ho)) (by decide +kernel) (by decide) ?_
  refine jEv.blk [(.aload_n 0, 1, [])] (by decide +kernel) (pc' := 16) (ls' := [(2, Int.ofNat o)]) (st' := [(2, Int.ofNat o)]) rfl ?_
  refine jEv.nwC (n := 5) l2 (by decide +kernel) (by decide) (by decide +kernel) ?_
  have l3 := jlN (2, 5) l2
  refine jEv.blk [(.dup, 1, [])] (by decide +kernel) (pc' := 20) (ls' := [(2, Int.ofNat o)]) (st' := [(2, Int.ofNat o), (2, Int.ofNat (o + 5)), (2, Int.ofNat (o + 5))]) rfl ?_
  refine jEv.calV (st' := [(2, Int.ofNat o), (2, Int.ofNat (o + 5))]) (by decide +kernel) rfl (Or.inr (Or.inr (Or.inr rfl))) rfl (by decide) (by decide +kernel) (by decide) (jlA l2) ((c_2 (xs := xs) l3 (jlA l2)).mono (by decide)) rfl ?_
  have l4 := jlS l3 sfx_2_len
  refine jEv.pfR (jlP _ (jlP _ (jlP _ (jlP _ ho)))) (by decide +kernel) (by decide) ?_
  refine jEv.blk [(.aload_n 0, 1, []), (.bipush 40, 2, [])] (by decide +kernel) (pc' := 29) (ls' := [(2, Int.ofNat o)]) (st' := [(2, Int.ofNat o), (0, 40)]) rfl ?_
  refine jEv.nwA (n := 40) l4 (by decide +kernel) (by decide) rfl ?_
  have l5 := jlN (20, 40) l4
  refine jEv.pfR (jlP _ (jlP _ (jlP _ (jlP _ (jlP _ ho))))) (by decide +kernel) (by decide) ?_
  refine jEv.blk [(.aload_n 0, 1, []), (.bipush 40, 2, [])] (by decide +kernel) (pc' := 37) (ls' := [(2, Int.ofNat o)]) (st' := [(2, Int.ofNat o), (0, 40)]) rfl ?_
  refine jEv.nwA (n := 40) l5 (by decide +kernel) (by decide) rfl ?_
  have l6 := jlN (20, 40) l5
  refine jEv.pfR (jlP _ (jlP _ (jlP _ (jlP _ (jlP _ (jlP _ ho)))))) (by decide +kernel) (by decide) ?_
  refine jEv.blk [(.aload_n 0, 1, []), (.bipush 40, 2, [])] (by decide +kernel) (pc' := 45) (ls' := [(2, Int.ofNat o)]) (st' := [(2, Int.ofNat o), (0, 40)]) rfl ?_
  refine jEv.nwA (n := 40) l6 (by decide +kernel) (by decide) rfl ?_
  have l7 := jlN (20, 40) l6
  refine jEv.pfR (jlP _ (jlP _ (jlP _ (jlP _ (jlP _ (jlP _ (jlP _ ho))))))) (by decide +kernel) (by decide) ?_
  exact jEv.retV (by decide +kernel) (by decide +kernel) rfl
def sfx_4 : List (Nat × Nat) := [(6, 13)] ++ sfx_6 ++ [(2, 5)] ++ sfx_2 ++ [(20, 0)]
theorem sfx_4_len : sfx_4.length = 17 := by decide +kernel
def KR_4 (R : Nat → Nat → Nat) (o : Nat) : Nat → Nat → Nat := (jupR (KR_2 (KR_6 R (o + 1)) (o + 13)) o 1 (o + 13))
def H_4 (h : jH) (o : Nat) : jH := (jup (jup (jup (H_2 (jup (H_6 h (o + 1)) o 0 (Int.ofNat (o + 1))) (o + 13)) o 4 (-1)) o 5 (Int.ofNat (o + 17))) o 9 (Int.ofNat (o + 13)))
theorem KR_4_lt {R : Nat → Nat → Nat} {o o' : Nat} (ho : o' < o) : KR_4 R o o' = R o' := by
  unfold KR_4
  repeat (first | rw [jupR_ne] | rw [KR_0_lt] | rw [KR_1_lt] | rw [KR_2_lt] | rw [KR_3_lt] | rw [KR_10_lt] | rw [KR_7_lt] | rw [KR_5_lt] | rw [KR_6_lt])
  all_goals omega
theorem H_4_lt {h : jH} {o o' : Nat} (ho : o' < o) : H_4 h o o' = h o' := by
  unfold H_4
  repeat (first | rw [jup_ne] | rw [jfill_ne] | rw [H_0_lt] | rw [H_1_lt] | rw [H_2_lt] | rw [H_3_lt] | rw [H_10_lt] | rw [H_7_lt] | rw [H_5_lt] | rw [H_6_lt])
  all_goals omega
set_option maxRecDepth 20000 in
set_option maxHeartbeats 4000000 in
theorem c_4 {xs : List Int} {L : List (Nat × Nat)} {R : Nat → Nat → Nat} {h : jH} {o : Nat} (hl : L.length = o + 1) (ho : L[o]? = some (4, 12)) : jEm xs 3 47 [(2, Int.ofNat o)] ((L, R), h) ((3, 0), ((L ++ sfx_4, KR_4 R o), H_4 h o)) := by
  have eL : L ++ sfx_4 = (((((L ++ [(6, 13)]) ++ sfx_6) ++ [(2, 5)]) ++ sfx_2) ++ [(20, 0)]) := by simp only [sfx_4, List.append_assoc]
  rw [eL]
  refine jEm.ent (n := 1) (by decide +kernel) (by decide) ?_
  show jEv xs 2 (47, 0, [(2, Int.ofNat o)], []) ((L, R), h) _
  refine jEv.blk [(.aload_n 0, 1, [])] (by decide +kernel) (pc' := 1) (ls' := [(2, Int.ofNat o)]) (st' := [(2, Int.ofNat o)]) rfl ?_
  refine jEv.obj ho (by decide +kernel) rfl (by decide) (by decide) ?_
  refine jEv.blk [(.aload_n 0, 1, [])] (by decide +kernel) (pc' := 5) (ls' := [(2, Int.ofNat o)]) (st' := [(2, Int.ofNat o)]) rfl ?_
  refine jEv.nwC (n := 13) hl (by decide +kernel) (by decide) (by decide +kernel) ?_
  have l1 := jlN (6, 13) hl
  refine jEv.blk [(.dup, 1, [])] (by decide +kernel) (pc' := 9) (ls' := [(2, Int.ofNat o)]) (st' := [(2, Int.ofNat o), (2, Int.ofNat (o + 1)), (2, Int.ofNat (o + 1))]) rfl ?_
  refine jEv.calV (st' := [(2, Int.ofNat o), (2, Int.ofNat (o + 1))]) (by decide +kernel) rfl (Or.inr (Or.inr (Or.inr rfl))) rfl (by decide) (by decide +kernel) (by decide) (jlA hl) ((c_6 (xs := xs) l1 (jlA hl)).mono (by decide)) rfl ?_
  have l2 := jlS l1 sfx_6_len
  refine jEv.pfD (by decide +kernel) (jlP _ (jlP _ ho)) (by decide) ?_
  refine jEv.blk [(.aload_n 0, 1, [])] (by decide +kernel) (pc' := 16) (ls' := [(2, Int.ofNat o)]) (st' := [(2, Int.ofNat o)]) rfl ?_
  refine jEv.nwC (n := 5) l2 (by decide +kernel) (by decide) (by decide +kernel) ?_
  have l3 := jlN (2, 5) l2
  refine jEv.blk [(.dup, 1, [])] (by decide +kernel) (pc' := 20) (ls' := [(2, Int.ofNat o)]) (st' := [(2, Int.ofNat o), (2, Int.ofNat (o + 13)), (2, Int.ofNat (o + 13))]) rfl ?_
  refine jEv.calV (st' := [(2, Int.ofNat o), (2, Int.ofNat (o + 13))]) (by decide +kernel) rfl (Or.inr (Or.inr (Or.inr rfl))) rfl (by decide) (by decide +kernel) (by decide) (jlA l2) ((c_2 (xs := xs) l3 (jlA l2)).mono (by decide)) rfl ?_
  have l4 := jlS l3 sfx_2_len
  refine jEv.pfR (jlP _ (jlP _ (jlP _ (jlP _ ho)))) (by decide +kernel) (by decide) ?_
  refine jEv.blk [(.aload_n 0, 1, []), (.iconst (-1), 1, [])] (by decide +kernel) (pc' := 28) (ls' := [(2, Int.ofNat o)]) (st' := [(2, Int.ofNat o), (0, (-1))]) rfl ?_
  refine jEv.pfI (by decide +kernel) (jlP _ (jlP _ (jlP _ (jlP _ ho)))) (by decide) ?_
  refine jEv.blk [(.aload_n 0, 1, []), (.iconst 0, 1, [])] (by decide +kernel) (pc' := 33) (ls' := [(2, Int.ofNat o)]) (st' := [(2, Int.ofNat o), (0, 0)]) rfl ?_
  refine jEv.nwA (n := 0) l4 (by decide +kernel) (by decide) rfl ?_
  have l5 := jlN (20, 0) l4
  refine jEv.pfD (by decide +kernel) (jlP _ (jlP _ (jlP _ (jlP _ (jlP _ ho))))) (by decide) ?_
  refine jEv.blk [(.aload_n 0, 1, []), (.aload_n 0, 1, [])] (by decide +kernel) (pc' := 40) (ls' := [(2, Int.ofNat o)]) (st' := [(2, Int.ofNat o), (2, Int.ofNat o)]) rfl ?_
  refine jEv.gfR (o' := (o + 13)) (by decide +kernel) (jlP _ (jlP _ (jlP _ (jlP _ (jlP _ ho))))) (by decide) (by simp [jupR]) ?_
  refine jEv.pfD (by decide +kernel) (jlP _ (jlP _ (jlP _ (jlP _ (jlP _ ho))))) (by decide) ?_
  exact jEv.retV (by decide +kernel) (by decide +kernel) rfl
def sfx_8 : List (Nat × Nat) := [(3, 10)] ++ sfx_3 ++ [(20, 16)] ++ [(20, 4)]
theorem sfx_8_len : sfx_8.length = 3 := by decide +kernel
def KR_8 (R : Nat → Nat → Nat) (o : Nat) : Nat → Nat → Nat := (jupR (jupR (jupR (KR_3 R (o + 1)) o 0 (o + 1)) o 1 (o + 2)) o 2 (o + 3))
def H_8 (h : jH) (o : Nat) : jH := (H_3 h (o + 1))
theorem KR_8_lt {R : Nat → Nat → Nat} {o o' : Nat} (ho : o' < o) : KR_8 R o o' = R o' := by
  unfold KR_8
  repeat (first | rw [jupR_ne] | rw [KR_0_lt] | rw [KR_1_lt] | rw [KR_2_lt] | rw [KR_3_lt] | rw [KR_10_lt] | rw [KR_7_lt] | rw [KR_5_lt] | rw [KR_6_lt] | rw [KR_4_lt])
  all_goals omega
theorem H_8_lt {h : jH} {o o' : Nat} (ho : o' < o) : H_8 h o o' = h o' := by
  unfold H_8
  repeat (first | rw [jup_ne] | rw [jfill_ne] | rw [H_0_lt] | rw [H_1_lt] | rw [H_2_lt] | rw [H_3_lt] | rw [H_10_lt] | rw [H_7_lt] | rw [H_5_lt] | rw [H_6_lt] | rw [H_4_lt])
  all_goals omega
set_option maxRecDepth 20000 in
set_option maxHeartbeats 4000000 in
theorem c_8 {xs : List Int} {L : List (Nat × Nat)} {R : Nat → Nat → Nat} {h : jH} {o : Nat} (hl : L.length = o + 1) (ho : L[o]? = some (8, 8)) : jEm xs 2 101 [(2, Int.ofNat o)] ((L, R), h) ((3, 0), ((L ++ sfx_8, KR_8 R o), H_8 h o)) := by
  have eL : L ++ sfx_8 = ((((L ++ [(3, 10)]) ++ sfx_3) ++ [(20, 16)]) ++ [(20, 4)]) := by simp only [sfx_8, List.append_assoc]
  rw [eL]
  refine jEm.ent (n := 1) (by decide +kernel) (by decide) ?_
  show jEv xs 1 (101, 0, [(2, Int.ofNat o)], []) ((L, R), h) _
  refine jEv.blk [(.aload_n 0, 1, [])] (by decide +kernel) (pc' := 1) (ls' := [(2, Int.ofNat o)]) (st' := [(2, Int.ofNat o)]) rfl ?_
  refine jEv.obj ho (by decide +kernel) rfl (by decide) (by decide) ?_
  refine jEv.blk [(.aload_n 0, 1, [])] (by decide +kernel) (pc' := 5) (ls' := [(2, Int.ofNat o)]) (st' := [(2, Int.ofNat o)]) rfl ?_
  refine jEv.nwC (n := 10) hl (by decide +kernel) (by decide) (by decide +kernel) ?_
  have l1 := jlN (3, 10) hl
  refine jEv.blk [(.dup, 1, [])] (by decide +kernel) (pc' := 9) (ls' := [(2, Int.ofNat o)]) (st' := [(2, Int.ofNat o), (2, Int.ofNat (o + 1)), (2, Int.ofNat (o + 1))]) rfl ?_
  refine jEv.calV (st' := [(2, Int.ofNat o), (2, Int.ofNat (o + 1))]) (by decide +kernel) rfl (Or.inr (Or.inr (Or.inr rfl))) rfl (by decide) (by decide +kernel) (by decide) (jlA hl) ((c_3 (xs := xs) l1 (jlA hl)).mono (by decide)) rfl ?_
  have l2 := jlS l1 sfx_3_len
  refine jEv.pfR (jlP _ (jlP _ ho)) (by decide +kernel) (by decide) ?_
  refine jEv.blk [(.aload_n 0, 1, []), (.bipush 16, 2, [])] (by decide +kernel) (pc' := 18) (ls' := [(2, Int.ofNat o)]) (st' := [(2, Int.ofNat o), (0, 16)]) rfl ?_
  refine jEv.nwA (n := 16) l2 (by decide +kernel) (by decide) rfl ?_
  have l3 := jlN (20, 16) l2
  refine jEv.pfR (jlP _ (jlP _ (jlP _ ho))) (by decide +kernel) (by decide) ?_
  refine jEv.blk [(.aload_n 0, 1, []), (.iconst 4, 1, [])] (by decide +kernel) (pc' := 25) (ls' := [(2, Int.ofNat o)]) (st' := [(2, Int.ofNat o), (0, 4)]) rfl ?_
  refine jEv.nwA (n := 4) l3 (by decide +kernel) (by decide) rfl ?_
  have l4 := jlN (20, 4) l3
  refine jEv.pfR (jlP _ (jlP _ (jlP _ (jlP _ ho)))) (by decide +kernel) (by decide) ?_
  exact jEv.retV (by decide +kernel) (by decide +kernel) rfl
def sfx_9 : List (Nat × Nat) := [(0, 5)] ++ sfx_0 ++ [(1, 4)] ++ sfx_1 ++ [(7, 7)] ++ sfx_7 ++ [(10, 7)] ++ sfx_10 ++ [(20, 16)] ++ [(20, 16)] ++ [(20, 4)]
theorem sfx_9_len : sfx_9.length = 20 := by decide +kernel
def KR_9 (R : Nat → Nat → Nat) (o : Nat) : Nat → Nat → Nat := (jupR (jupR (jupR (jupR (KR_10 (jupR (KR_7 (jupR (KR_1 (jupR (KR_0 R (o + 1)) o 1 (o + 1)) (o + 4)) o 2 (o + 4)) (o + 7)) o 3 (o + 7)) (o + 12)) o 4 (o + 12)) o 5 (o + 18)) o 6 (o + 19)) o 8 (o + 20))
def H_9 (h : jH) (o : Nat) (p : Nat) : jH := (jfill (jfill (jup (H_10 (H_7 (H_1 (H_0 h (o + 1)) (o + 4)) (o + 7)) (o + 12)) o 0 (Int.ofNat p)) (o + 18) 16 (-1)) (o + 19) 16 (-1))
theorem KR_9_lt {R : Nat → Nat → Nat} {o o' : Nat} (ho : o' < o) : KR_9 R o o' = R o' := by
  unfold KR_9
  repeat (first | rw [jupR_ne] | rw [KR_0_lt] | rw [KR_1_lt] | rw [KR_2_lt] | rw [KR_3_lt] | rw [KR_10_lt] | rw [KR_7_lt] | rw [KR_5_lt] | rw [KR_6_lt] | rw [KR_4_lt] | rw [KR_8_lt])
  all_goals omega
theorem H_9_lt {h : jH} {o o' p : Nat} (ho : o' < o) : H_9 h o p o' = h o' := by
  unfold H_9
  repeat (first | rw [jup_ne] | rw [jfill_ne] | rw [H_0_lt] | rw [H_1_lt] | rw [H_2_lt] | rw [H_3_lt] | rw [H_10_lt] | rw [H_7_lt] | rw [H_5_lt] | rw [H_6_lt] | rw [H_4_lt] | rw [H_8_lt])
  all_goals omega
set_option maxRecDepth 20000 in
set_option maxHeartbeats 4000000 in
theorem c_9 {xs : List Int} {L : List (Nat × Nat)} {R : Nat → Nat → Nat} {h : jH} {o p : Nat} (hl : L.length = o + 1) (ho : L[o]? = some (9, 15)) : jEm xs 2 108 [(2, Int.ofNat o), (2, Int.ofNat p)] ((L, R), h) ((3, 0), ((L ++ sfx_9, KR_9 R o), H_9 h o p)) := by
  have eL : L ++ sfx_9 = (((((((((((L ++ [(0, 5)]) ++ sfx_0) ++ [(1, 4)]) ++ sfx_1) ++ [(7, 7)]) ++ sfx_7) ++ [(10, 7)]) ++ sfx_10) ++ [(20, 16)]) ++ [(20, 16)]) ++ [(20, 4)]) := by simp only [sfx_9, List.append_assoc]
  rw [eL]
  refine jEm.ent (n := 2) (by decide +kernel) (by decide) ?_
  show jEv xs 1 (108, 0, [(2, Int.ofNat o), (2, Int.ofNat p)], []) ((L, R), h) _
  refine jEv.blk [(.aload_n 0, 1, [])] (by decide +kernel) (pc' := 1) (ls' := [(2, Int.ofNat o), (2, Int.ofNat p)]) (st' := [(2, Int.ofNat o)]) rfl ?_
  refine jEv.obj ho (by decide +kernel) rfl (by decide) (by decide) ?_
  refine jEv.blk [(.aload_n 0, 1, [])] (by decide +kernel) (pc' := 5) (ls' := [(2, Int.ofNat o), (2, Int.ofNat p)]) (st' := [(2, Int.ofNat o)]) rfl ?_
  refine jEv.nwC (n := 5) hl (by decide +kernel) (by decide) (by decide +kernel) ?_
  have l1 := jlN (0, 5) hl
  refine jEv.blk [(.dup, 1, [])] (by decide +kernel) (pc' := 9) (ls' := [(2, Int.ofNat o), (2, Int.ofNat p)]) (st' := [(2, Int.ofNat o), (2, Int.ofNat (o + 1)), (2, Int.ofNat (o + 1))]) rfl ?_
  refine jEv.calV (st' := [(2, Int.ofNat o), (2, Int.ofNat (o + 1))]) (by decide +kernel) rfl (Or.inr (Or.inr (Or.inr rfl))) rfl (by decide) (by decide +kernel) (by decide) (jlA hl) ((c_0 (xs := xs) l1 (jlA hl)).mono (by decide)) rfl ?_
  have l2 := jlS l1 sfx_0_len
  refine jEv.pfR (jlP _ (jlP _ ho)) (by decide +kernel) (by decide) ?_
  refine jEv.blk [(.aload_n 0, 1, [])] (by decide +kernel) (pc' := 16) (ls' := [(2, Int.ofNat o), (2, Int.ofNat p)]) (st' := [(2, Int.ofNat o)]) rfl ?_
  refine jEv.nwC (n := 4) l2 (by decide +kernel) (by decide) (by decide +kernel) ?_
  have l3 := jlN (1, 4) l2
  refine jEv.blk [(.dup, 1, [])] (by decide +kernel) (pc' := 20) (ls' := [(2, Int.ofNat o), (2, Int.ofNat p)]) (st' := [(2, Int.ofNat o), (2, Int.ofNat (o + 4)), (2, Int.ofNat (o + 4))]) rfl ?_
  refine jEv.calV (st' := [(2, Int.ofNat o), (2, Int.ofNat (o + 4))]) (by decide +kernel) rfl (Or.inr (Or.inr (Or.inr rfl))) rfl (by decide) (by decide +kernel) (by decide) (jlA l2) ((c_1 (xs := xs) l3 (jlA l2)).mono (by decide)) rfl ?_
  have l4 := jlS l3 sfx_1_len
  refine jEv.pfR (jlP _ (jlP _ (jlP _ (jlP _ ho)))) (by decide +kernel) (by decide) ?_
  refine jEv.blk [(.aload_n 0, 1, [])] (by decide +kernel) (pc' := 27) (ls' := [(2, Int.ofNat o), (2, Int.ofNat p)]) (st' := [(2, Int.ofNat o)]) rfl ?_
  refine jEv.nwC (n := 7) l4 (by decide +kernel) (by decide) (by decide +kernel) ?_
  have l5 := jlN (7, 7) l4
  refine jEv.blk [(.dup, 1, [])] (by decide +kernel) (pc' := 31) (ls' := [(2, Int.ofNat o), (2, Int.ofNat p)]) (st' := [(2, Int.ofNat o), (2, Int.ofNat (o + 7)), (2, Int.ofNat (o + 7))]) rfl ?_
  refine jEv.calV (st' := [(2, Int.ofNat o), (2, Int.ofNat (o + 7))]) (by decide +kernel) rfl (Or.inr (Or.inr (Or.inr rfl))) rfl (by decide) (by decide +kernel) (by decide) (jlA l4) ((c_7 (xs := xs) l5 (jlA l4)).mono (by decide)) rfl ?_
  have l6 := jlS l5 sfx_7_len
  refine jEv.pfR (jlP _ (jlP _ (jlP _ (jlP _ (jlP _ (jlP _ ho)))))) (by decide +kernel) (by decide) ?_
  refine jEv.blk [(.aload_n 0, 1, [])] (by decide +kernel) (pc' := 38) (ls' := [(2, Int.ofNat o), (2, Int.ofNat p)]) (st' := [(2, Int.ofNat o)]) rfl ?_
  refine jEv.nwC (n := 7) l6 (by decide +kernel) (by decide) (by decide +kernel) ?_
  have l7 := jlN (10, 7) l6
  refine jEv.blk [(.dup, 1, [])] (by decide +kernel) (pc' := 42) (ls' := [(2, Int.ofNat o), (2, Int.ofNat p)]) (st' := [(2, Int.ofNat o), (2, Int.ofNat (o + 12)), (2, Int.ofNat (o + 12))]) rfl ?_
  refine jEv.calV (st' := [(2, Int.ofNat o), (2, Int.ofNat (o + 12))]) (by decide +kernel) rfl (Or.inr (Or.inr (Or.inr rfl))) rfl (by decide) (by decide +kernel) (by decide) (jlA l6) ((c_10 (xs := xs) l7 (jlA l6)).mono (by decide)) rfl ?_
  have l8 := jlS l7 sfx_10_len
  refine jEv.pfR (jlP _ (jlP _ (jlP _ (jlP _ (jlP _ (jlP _ (jlP _ (jlP _ ho)))))))) (by decide +kernel) (by decide) ?_
  refine jEv.blk [(.aload_n 0, 1, []), (.bipush 16, 2, [])] (by decide +kernel) (pc' := 51) (ls' := [(2, Int.ofNat o), (2, Int.ofNat p)]) (st' := [(2, Int.ofNat o), (0, 16)]) rfl ?_
  refine jEv.nwA (n := 16) l8 (by decide +kernel) (by decide) rfl ?_
  have l9 := jlN (20, 16) l8
  refine jEv.pfR (jlP _ (jlP _ (jlP _ (jlP _ (jlP _ (jlP _ (jlP _ (jlP _ (jlP _ ho))))))))) (by decide +kernel) (by decide) ?_
  refine jEv.blk [(.aload_n 0, 1, []), (.bipush 16, 2, [])] (by decide +kernel) (pc' := 59) (ls' := [(2, Int.ofNat o), (2, Int.ofNat p)]) (st' := [(2, Int.ofNat o), (0, 16)]) rfl ?_
  refine jEv.nwA (n := 16) l9 (by decide +kernel) (by decide) rfl ?_
  have l10 := jlN (20, 16) l9
  refine jEv.pfR (jlP _ (jlP _ (jlP _ (jlP _ (jlP _ (jlP _ (jlP _ (jlP _ (jlP _ (jlP _ ho)))))))))) (by decide +kernel) (by decide) ?_
  refine jEv.blk [(.aload_n 0, 1, []), (.iconst 4, 1, [])] (by decide +kernel) (pc' := 66) (ls' := [(2, Int.ofNat o), (2, Int.ofNat p)]) (st' := [(2, Int.ofNat o), (0, 4)]) rfl ?_
  refine jEv.nwA (n := 4) l10 (by decide +kernel) (by decide) rfl ?_
  have l11 := jlN (20, 4) l10
  refine jEv.pfR (jlP _ (jlP _ (jlP _ (jlP _ (jlP _ (jlP _ (jlP _ (jlP _ (jlP _ (jlP _ (jlP _ ho))))))))))) (by decide +kernel) (by decide) ?_
  refine jEv.blk [(.aload_n 0, 1, []), (.aload_n 1, 1, [])] (by decide +kernel) (pc' := 73) (ls' := [(2, Int.ofNat o), (2, Int.ofNat p)]) (st' := [(2, Int.ofNat o), (2, Int.ofNat p)]) rfl ?_
  refine jEv.pfD (by decide +kernel) (jlP _ (jlP _ (jlP _ (jlP _ (jlP _ (jlP _ (jlP _ (jlP _ (jlP _ (jlP _ (jlP _ ho))))))))))) (by decide) ?_
  refine jEv.blk [(.aload_n 0, 1, [])] (by decide +kernel) (pc' := 77) (ls' := [(2, Int.ofNat o), (2, Int.ofNat p)]) (st' := [(2, Int.ofNat o)]) rfl ?_
  refine jEv.gfR (o' := (o + 18)) (by decide +kernel) (jlP _ (jlP _ (jlP _ (jlP _ (jlP _ (jlP _ (jlP _ (jlP _ (jlP _ (jlP _ (jlP _ ho))))))))))) (by decide) (by simp [jupR]) ?_
  refine jEv.blk [(.iconst (-1), 1, [])] (by decide +kernel) (pc' := 81) (ls' := [(2, Int.ofNat o), (2, Int.ofNat p)]) (st' := [(2, Int.ofNat (o + 18)), (0, (-1))]) rfl ?_
  refine jEv.calS (st' := []) (by decide +kernel) rfl (Or.inl rfl) rfl (by decide) ((t_JArr_fill (xs := xs) (by decide) (jlP _ (jlP _ (jlA l8)))).mono (by decide)) rfl ?_
  refine jEv.blk [(.aload_n 0, 1, [])] (by decide +kernel) (pc' := 85) (ls' := [(2, Int.ofNat o), (2, Int.ofNat p)]) (st' := [(2, Int.ofNat o)]) rfl ?_
  refine jEv.gfR (o' := (o + 19)) (by decide +kernel) (jlP _ (jlP _ (jlP _ (jlP _ (jlP _ (jlP _ (jlP _ (jlP _ (jlP _ (jlP _ (jlP _ ho))))))))))) (by decide) (by simp [jupR]) ?_
  refine jEv.blk [(.iconst (-1), 1, [])] (by decide +kernel) (pc' := 89) (ls' := [(2, Int.ofNat o), (2, Int.ofNat p)]) (st' := [(2, Int.ofNat (o + 19)), (0, (-1))]) rfl ?_
  refine jEv.calS (st' := []) (by decide +kernel) rfl (Or.inl rfl) rfl (by decide) ((t_JArr_fill (xs := xs) (by decide) (jlP _ (jlA l9))).mono (by decide)) rfl ?_
  exact jEv.retV (by decide +kernel) (by decide +kernel) rfl
