/-! the class's constructor: its loop over the past -/
def jpL : Nat → List (Nat × Nat) → List (Nat × Nat)
  | 0, L => L
  | m + 1, L => jpL m ((L ++ [(9, 15)]) ++ sfx_9)
def jpR (p : Nat) : Nat → Nat → Nat → (Nat → Nat → Nat) → Nat → Nat → Nat
  | 0, _, _, R => R
  | m + 1, i, len, R => jpR p m (i + 1) (len + 21) (jupR (KR_9 R len) p i len)
def jpH (q : Nat) : Nat → Nat → jH → jH
  | 0, _, h => h
  | m + 1, len, h => jpH q m (len + 21) (H_9 h len q)
theorem c11_loop {xs : List Int} {o p q : Nat} : ∀ (m i len : Nat) (L : List (Nat × Nat)) (R : Nat → Nat → Nat) (h : jH), i + m = 20 → L.length = len → L[o]? = some (11, 20) → L[p]? = some (24, 20) → R o 12 = p → o < len → o ≠ p → h o 8 = Int.ofNat q → jEv xs 3 (134, 146, [(2, Int.ofNat o), (0, (i : Int))], []) ((L, R), h) ((3, 0), ((jpL m L, jpR p m i len R), jpH q m len h)) := by
  intro m
  induction m with
  | zero =>
    intro i len L R h hi hl ho hp hR hlt hne hq
    refine jEv.blk [(.iload_n 1, 1, []), (.aload_n 0, 1, [])] (by decide +kernel) (pc' := 148) (ls' := [(2, Int.ofNat o), (0, (i : Int))]) (st' := [(2, Int.ofNat o), (0, (i : Int))]) rfl ?_
    refine jEv.gfR (o' := p) (show jfI 134 148 (.getfield 52) 3 [11, 12, 5, 0, 3013] = true by decide +kernel) ho (by decide) hR ?_
    refine jEv.alen (n := 20) (show jfI 134 151 (.arraylength) 1 [] = true by decide +kernel) hp (by decide) ?_
    refine jEv.cnd (t := 178) (show jfI 134 152 (.if_icmp .ge 26) 3 [] = true by decide +kernel) rfl (fun _ => ?_) (fun e => ?_)
    · exact jEv.retV (show jfI 134 178 (.return_) 1 [] = true by decide +kernel) (by decide +kernel) rfl
    · exfalso
      have : (i : Int) = 20 := by omega
      rw [this] at e
      simp [jcnd] at e
  | succ m ih =>
    intro i len L R h hi hl ho hp hR hlt hne hq
    refine jEv.blk [(.iload_n 1, 1, []), (.aload_n 0, 1, [])] (by decide +kernel) (pc' := 148) (ls' := [(2, Int.ofNat o), (0, (i : Int))]) (st' := [(2, Int.ofNat o), (0, (i : Int))]) rfl ?_
    refine jEv.gfR (o' := p) (show jfI 134 148 (.getfield 52) 3 [11, 12, 5, 0, 3013] = true by decide +kernel) ho (by decide) hR ?_
    refine jEv.alen (n := 20) (show jfI 134 151 (.arraylength) 1 [] = true by decide +kernel) hp (by decide) ?_
    refine jEv.cnd (t := 178) (show jfI 134 152 (.if_icmp .ge 26) 3 [] = true by decide +kernel) rfl (fun e => ?_) (fun _ => ?_)
    · exfalso
      simp [jcnd] at e
      omega
    refine jEv.blk [(.aload_n 0, 1, [])] (by decide +kernel) (pc' := 156) (ls' := [(2, Int.ofNat o), (0, (i : Int))]) (st' := [(2, Int.ofNat o)]) rfl ?_
    refine jEv.gfR (o' := p) (show jfI 134 156 (.getfield 52) 3 [11, 12, 5, 0, 3013] = true by decide +kernel) ho (by decide) hR ?_
    refine jEv.blk [(.iload_n 1, 1, [])] (by decide +kernel) (pc' := 160) (ls' := [(2, Int.ofNat o), (0, (i : Int))]) (st' := [(0, (i : Int)), (2, Int.ofNat p)]) rfl ?_
    refine jEv.nwC (n := 15) hl (show jfI 134 160 (.new 40) 3 [9, 1168] = true by decide +kernel) (by decide) (by decide +kernel) ?_
    have l1 := jlN (9, 15) hl
    refine jEv.blk [(.dup, 1, []), (.aload_n 0, 1, [])] (by decide +kernel) (pc' := 165) (ls' := [(2, Int.ofNat o), (0, (i : Int))]) (st' := [(2, Int.ofNat o), (2, Int.ofNat len), (2, Int.ofNat len), (0, (i : Int)), (2, Int.ofNat p)]) rfl ?_
    refine jEv.gfE (q := q) (jlP _ ho) (show jfI 134 165 (.getfield 29) 3 [11, 8, 2, 0, 3009] = true by decide +kernel) (by decide) hq ?_
    refine jEv.calV (st' := [(2, Int.ofNat len), (0, (i : Int)), (2, Int.ofNat p)]) (show jfI 134 168 (.invokespecial 42) 3 [5, 108, 1, 1170] = true by decide +kernel) rfl (Or.inr (Or.inr (Or.inl rfl))) rfl (Nat.le_of_ble_eq_true rfl) (by decide +kernel) (by decide) (jlA hl) ((c_9 (xs := xs) (p := q) l1 (jlA hl)).mono (by decide)) rfl ?_
    refine jEv.aas (n := 20) (jlP _ (jlP _ hp)) (jlP _ (jlA hl)) (show jfI 134 171 (.aastore) 1 [] = true by decide +kernel) (by omega) ?_
    refine jEv.blk [(.iinc 1 1, 3, [])] (by decide +kernel) (pc' := 175) (ls' := [(2, Int.ofNat o), (0, wr ((i : Int) + 1))]) (st' := []) rfl ?_
    refine jEv.goto (t := 146) (show jfI 134 175 (.goto (-29)) 3 [] = true by decide +kernel) rfl ?_
    have e1 : wr ((i : Int) + 1) = ((i + 1 : Nat) : Int) := by
      rw [wr_id (by unfold jI32; omega)]
      omega
    rw [e1]
    have l2 : ((L ++ [(9, 15)]) ++ sfx_9).length = len + 21 := by rw [List.length_append, l1, sfx_9_len]
    refine ih (i + 1) (len + 21) _ _ _ (by omega) l2 (jlP _ (jlP _ ho)) (jlP _ (jlP _ hp)) ?_ (by omega) hne ?_
    · rw [jupR_ne hne, KR_9_lt hlt]; exact hR
    · rw [H_9_lt hlt]; exact hq
def KL_11 (L : List (Nat × Nat)) : List (Nat × Nat) := jpL 20 (((((((((((((((((((L ++ [(20, 1600)]) ++ [(20, 547)]) ++ [(20, 7)]) ++ [(20, 48)]) ++ [(6, 13)]) ++ sfx_6) ++ [(4, 12)]) ++ sfx_4) ++ [(9, 15)]) ++ sfx_9) ++ [(9, 15)]) ++ sfx_9) ++ [(24, 20)]) ++ [(5, 5)]) ++ sfx_5) ++ [(8, 8)]) ++ sfx_8) ++ [(20, 513)]) ++ [(20, 16016)])
def KR_11 (R : Nat → Nat → Nat) (o : Nat) : Nat → Nat → Nat := jpR (o + 77) 20 0 (o + 85) (jupR (jupR (jupR (KR_8 (jupR (KR_5 (jupR (jupR (KR_9 (jupR (KR_9 (jupR (KR_4 (KR_6 (jupR (jupR (jupR (jupR R o 0 (o + 1)) o 2 (o + 2)) o 4 (o + 3)) o 6 (o + 4)) (o + 5)) (o + 17)) o 9 (o + 17)) (o + 35)) o 10 (o + 35)) (o + 56)) o 11 (o + 56)) o 12 (o + 77)) (o + 78)) o 15 (o + 78)) (o + 79)) o 16 (o + 79)) o 17 (o + 83)) o 19 (o + 84))
def H_11 (h : jH) (o : Nat) : jH := jpH (o + 5) 20 (o + 85) (H_8 (H_5 (H_9 (H_9 (H_4 (jup (H_6 (jup h o 5 1) (o + 5)) o 8 (Int.ofNat (o + 5))) (o + 17)) (o + 35) (o + 5)) (o + 56) (o + 5)) (o + 78)) (o + 79))
set_option maxRecDepth 20000 in
set_option maxHeartbeats 4000000 in
theorem c_11 {xs : List Int} {L : List (Nat × Nat)} {R : Nat → Nat → Nat} {h : jH} {o : Nat} (hl : L.length = o + 1) (ho : L[o]? = some (11, 20)) : jEm xs 4 134 [(2, Int.ofNat o)] ((L, R), h) ((3, 0), ((KL_11 L, KR_11 R o), H_11 h o)) := by
  refine jEm.ent (n := 2) (by decide +kernel) (Nat.le_of_ble_eq_true rfl) ?_
  show jEv xs 3 (134, 0, [(2, Int.ofNat o), (3, 0)], []) ((L, R), h) _
  refine jEv.blk [(.aload_n 0, 1, [])] (by decide +kernel) (pc' := 1) (ls' := [(2, Int.ofNat o), (3, 0)]) (st' := [(2, Int.ofNat o)]) rfl ?_
  refine jEv.obj ho (show jfI 134 1 (.invokespecial 3) 3 [7, 0, 0, 1026] = true by decide +kernel) rfl (by decide) (Nat.le_of_ble_eq_true rfl) ?_
  refine jEv.blk [(.aload_n 0, 1, []), (.sipush 1600, 3, [])] (by decide +kernel) (pc' := 8) (ls' := [(2, Int.ofNat o), (3, 0)]) (st' := [(0, 1600), (2, Int.ofNat o)]) rfl ?_
  refine jEv.nwA (n := 1600) hl (show jfI 134 8 (.newarray .int) 2 [20] = true by decide +kernel) (by decide) rfl ?_
  have l1 := jlN (20, 1600) hl
  refine jEv.pfR (jlP _ ho) (show jfI 134 10 (.putfield 9) 3 [11, 0, 5, 0, 3001] = true by decide +kernel) (by decide) ?_
  refine jEv.blk [(.aload_n 0, 1, []), (.sipush 547, 3, [])] (by decide +kernel) (pc' := 17) (ls' := [(2, Int.ofNat o), (3, 0)]) (st' := [(0, 547), (2, Int.ofNat o)]) rfl ?_
  refine jEv.nwA (n := 547) l1 (show jfI 134 17 (.newarray .int) 2 [20] = true by decide +kernel) (by decide) rfl ?_
  have l2 := jlN (20, 547) l1
  refine jEv.pfR (jlP _ (jlP _ ho)) (show jfI 134 19 (.putfield 13) 3 [11, 2, 5, 0, 3003] = true by decide +kernel) (by decide) ?_
  refine jEv.blk [(.aload_n 0, 1, []), (.bipush 7, 2, [])] (by decide +kernel) (pc' := 25) (ls' := [(2, Int.ofNat o), (3, 0)]) (st' := [(0, 7), (2, Int.ofNat o)]) rfl ?_
  refine jEv.nwA (n := 7) l2 (show jfI 134 25 (.newarray .int) 2 [20] = true by decide +kernel) (by decide) rfl ?_
  have l3 := jlN (20, 7) l2
  refine jEv.pfR (jlP _ (jlP _ (jlP _ ho))) (show jfI 134 27 (.putfield 16) 3 [11, 4, 5, 0, 3005] = true by decide +kernel) (by decide) ?_
  refine jEv.blk [(.aload_n 0, 1, []), (.lconst 1, 1, [])] (by decide +kernel) (pc' := 32) (ls' := [(2, Int.ofNat o), (3, 0)]) (st' := [(1, 1), (2, Int.ofNat o)]) rfl ?_
  refine jEv.pfJ (show jfI 134 32 (.putfield 19) 3 [11, 5, 1, 0, 3006] = true by decide +kernel) (jlP _ (jlP _ (jlP _ ho))) (by decide) ?_
  refine jEv.blk [(.aload_n 0, 1, []), (.bipush 48, 2, [])] (by decide +kernel) (pc' := 38) (ls' := [(2, Int.ofNat o), (3, 0)]) (st' := [(0, 48), (2, Int.ofNat o)]) rfl ?_
  refine jEv.nwA (n := 48) l3 (show jfI 134 38 (.newarray .int) 2 [20] = true by decide +kernel) (by decide) rfl ?_
  have l4 := jlN (20, 48) l3
  refine jEv.pfR (jlP _ (jlP _ (jlP _ (jlP _ ho)))) (show jfI 134 40 (.putfield 23) 3 [11, 6, 5, 0, 3007] = true by decide +kernel) (by decide) ?_
  refine jEv.blk [(.aload_n 0, 1, [])] (by decide +kernel) (pc' := 44) (ls' := [(2, Int.ofNat o), (3, 0)]) (st' := [(2, Int.ofNat o)]) rfl ?_
  refine jEv.nwC (n := 13) l4 (show jfI 134 44 (.new 26) 3 [6, 1029] = true by decide +kernel) (by decide) (by decide +kernel) ?_
  have l5 := jlN (6, 13) l4
  refine jEv.blk [(.dup, 1, [])] (by decide +kernel) (pc' := 48) (ls' := [(2, Int.ofNat o), (3, 0)]) (st' := [(2, Int.ofNat (o + 5)), (2, Int.ofNat (o + 5)), (2, Int.ofNat o)]) rfl ?_
  refine jEv.calV (st' := [(2, Int.ofNat (o + 5)), (2, Int.ofNat o)]) (show jfI 134 48 (.invokespecial 28) 3 [6, 87, 0, 1031] = true by decide +kernel) rfl (Or.inr (Or.inr (Or.inr rfl))) rfl (Nat.le_of_ble_eq_true rfl) (by decide +kernel) (by decide) (jlA l4) ((c_6 (xs := xs) l5 (jlA l4)).mono (by decide)) rfl ?_
  have l6 := jlS l5 sfx_6_len
  refine jEv.pfD (show jfI 134 51 (.putfield 29) 3 [11, 8, 2, 0, 3009] = true by decide +kernel) (jlP _ (jlP _ (jlP _ (jlP _ (jlP _ (jlP _ ho)))))) (by decide) ?_
  refine jEv.blk [(.aload_n 0, 1, [])] (by decide +kernel) (pc' := 55) (ls' := [(2, Int.ofNat o), (3, 0)]) (st' := [(2, Int.ofNat o)]) rfl ?_
  refine jEv.nwC (n := 12) l6 (show jfI 134 55 (.new 33) 3 [4, 1116] = true by decide +kernel) (by decide) (by decide +kernel) ?_
  have l7 := jlN (4, 12) l6
  refine jEv.blk [(.dup, 1, [])] (by decide +kernel) (pc' := 59) (ls' := [(2, Int.ofNat o), (3, 0)]) (st' := [(2, Int.ofNat (o + 17)), (2, Int.ofNat (o + 17)), (2, Int.ofNat o)]) rfl ?_
  refine jEv.calV (st' := [(2, Int.ofNat (o + 17)), (2, Int.ofNat o)]) (show jfI 134 59 (.invokespecial 35) 3 [6, 47, 0, 1118] = true by decide +kernel) rfl (Or.inr (Or.inr (Or.inr rfl))) rfl (Nat.le_of_ble_eq_true rfl) (by decide +kernel) (by decide) (jlA l6) ((c_4 (xs := xs) l7 (jlA l6)).mono (by decide)) rfl ?_
  have l8 := jlS l7 sfx_4_len
  refine jEv.pfR (jlP _ (jlP _ (jlP _ (jlP _ (jlP _ (jlP _ (jlP _ (jlP _ ho)))))))) (show jfI 134 62 (.putfield 36) 3 [11, 9, 5, 0, 3010] = true by decide +kernel) (by decide) ?_
  refine jEv.blk [(.aload_n 0, 1, [])] (by decide +kernel) (pc' := 66) (ls' := [(2, Int.ofNat o), (3, 0)]) (st' := [(2, Int.ofNat o)]) rfl ?_
  refine jEv.nwC (n := 15) l8 (show jfI 134 66 (.new 40) 3 [9, 1168] = true by decide +kernel) (by decide) (by decide +kernel) ?_
  have l9 := jlN (9, 15) l8
  refine jEv.blk [(.dup, 1, []), (.aload_n 0, 1, [])] (by decide +kernel) (pc' := 71) (ls' := [(2, Int.ofNat o), (3, 0)]) (st' := [(2, Int.ofNat o), (2, Int.ofNat (o + 35)), (2, Int.ofNat (o + 35)), (2, Int.ofNat o)]) rfl ?_
  refine jEv.gfE (q := (o + 5)) (jlP _ (jlP _ (jlP _ (jlP _ (jlP _ (jlP _ (jlP _ (jlP _ (jlP _ ho))))))))) (show jfI 134 71 (.getfield 29) 3 [11, 8, 2, 0, 3009] = true by decide +kernel) (by decide) (by simp [jup, H_4_lt, H_9_lt, H_6_lt]) ?_
  refine jEv.calV (st' := [(2, Int.ofNat (o + 35)), (2, Int.ofNat o)]) (show jfI 134 74 (.invokespecial 42) 3 [5, 108, 1, 1170] = true by decide +kernel) rfl (Or.inr (Or.inr (Or.inl rfl))) rfl (Nat.le_of_ble_eq_true rfl) (by decide +kernel) (by decide) (jlA l8) ((c_9 (xs := xs) (p := (o + 5)) l9 (jlA l8)).mono (by decide)) rfl ?_
  have l10 := jlS l9 sfx_9_len
  refine jEv.pfR (jlP _ (jlP _ (jlP _ (jlP _ (jlP _ (jlP _ (jlP _ (jlP _ (jlP _ (jlP _ ho)))))))))) (show jfI 134 77 (.putfield 45) 3 [11, 10, 5, 0, 3011] = true by decide +kernel) (by decide) ?_
  refine jEv.blk [(.aload_n 0, 1, [])] (by decide +kernel) (pc' := 81) (ls' := [(2, Int.ofNat o), (3, 0)]) (st' := [(2, Int.ofNat o)]) rfl ?_
  refine jEv.nwC (n := 15) l10 (show jfI 134 81 (.new 40) 3 [9, 1168] = true by decide +kernel) (by decide) (by decide +kernel) ?_
  have l11 := jlN (9, 15) l10
  refine jEv.blk [(.dup, 1, []), (.aload_n 0, 1, [])] (by decide +kernel) (pc' := 86) (ls' := [(2, Int.ofNat o), (3, 0)]) (st' := [(2, Int.ofNat o), (2, Int.ofNat (o + 56)), (2, Int.ofNat (o + 56)), (2, Int.ofNat o)]) rfl ?_
  refine jEv.gfE (q := (o + 5)) (jlP _ (jlP _ (jlP _ (jlP _ (jlP _ (jlP _ (jlP _ (jlP _ (jlP _ (jlP _ (jlP _ ho))))))))))) (show jfI 134 86 (.getfield 29) 3 [11, 8, 2, 0, 3009] = true by decide +kernel) (by decide) (by simp [jup, H_4_lt, H_9_lt, H_6_lt]) ?_
  refine jEv.calV (st' := [(2, Int.ofNat (o + 56)), (2, Int.ofNat o)]) (show jfI 134 89 (.invokespecial 42) 3 [5, 108, 1, 1170] = true by decide +kernel) rfl (Or.inr (Or.inr (Or.inl rfl))) rfl (Nat.le_of_ble_eq_true rfl) (by decide +kernel) (by decide) (jlA l10) ((c_9 (xs := xs) (p := (o + 5)) l11 (jlA l10)).mono (by decide)) rfl ?_
  have l12 := jlS l11 sfx_9_len
  refine jEv.pfR (jlP _ (jlP _ (jlP _ (jlP _ (jlP _ (jlP _ (jlP _ (jlP _ (jlP _ (jlP _ (jlP _ (jlP _ ho)))))))))))) (show jfI 134 92 (.putfield 49) 3 [11, 11, 5, 0, 3012] = true by decide +kernel) (by decide) ?_
  refine jEv.blk [(.aload_n 0, 1, []), (.bipush 20, 2, [])] (by decide +kernel) (pc' := 98) (ls' := [(2, Int.ofNat o), (3, 0)]) (st' := [(0, 20), (2, Int.ofNat o)]) rfl ?_
  refine jEv.nwO (n := 20) l12 (show jfI 134 98 (.anewarray 40) 3 [24, 1168] = true by decide +kernel) (by decide) rfl ?_
  have l13 := jlN (24, 20) l12
  refine jEv.pfR (jlP _ (jlP _ (jlP _ (jlP _ (jlP _ (jlP _ (jlP _ (jlP _ (jlP _ (jlP _ (jlP _ (jlP _ (jlP _ ho))))))))))))) (show jfI 134 101 (.putfield 52) 3 [11, 12, 5, 0, 3013] = true by decide +kernel) (by decide) ?_
  refine jEv.blk [(.aload_n 0, 1, [])] (by decide +kernel) (pc' := 105) (ls' := [(2, Int.ofNat o), (3, 0)]) (st' := [(2, Int.ofNat o)]) rfl ?_
  refine jEv.nwC (n := 5) l13 (show jfI 134 105 (.new 56) 3 [5, 2132] = true by decide +kernel) (by decide) (by decide +kernel) ?_
  have l14 := jlN (5, 5) l13
  refine jEv.blk [(.dup, 1, [])] (by decide +kernel) (pc' := 109) (ls' := [(2, Int.ofNat o), (3, 0)]) (st' := [(2, Int.ofNat (o + 78)), (2, Int.ofNat (o + 78)), (2, Int.ofNat o)]) rfl ?_
  refine jEv.calV (st' := [(2, Int.ofNat (o + 78)), (2, Int.ofNat o)]) (show jfI 134 109 (.invokespecial 58) 3 [6, 77, 0, 2134] = true by decide +kernel) rfl (Or.inr (Or.inr (Or.inr rfl))) rfl (Nat.le_of_ble_eq_true rfl) (by decide +kernel) (by decide) (jlA l13) ((c_5 (xs := xs) l14 (jlA l13)).mono (by decide)) rfl ?_
  have l15 := jlS l14 sfx_5_len
  refine jEv.pfR (jlP _ (jlP _ (jlP _ (jlP _ (jlP _ (jlP _ (jlP _ (jlP _ (jlP _ (jlP _ (jlP _ (jlP _ (jlP _ (jlP _ (jlP _ ho))))))))))))))) (show jfI 134 112 (.putfield 59) 3 [11, 15, 5, 0, 3016] = true by decide +kernel) (by decide) ?_
  refine jEv.blk [(.aload_n 0, 1, [])] (by decide +kernel) (pc' := 116) (ls' := [(2, Int.ofNat o), (3, 0)]) (st' := [(2, Int.ofNat o)]) rfl ?_
  refine jEv.nwC (n := 8) l15 (show jfI 134 116 (.new 63) 3 [8, 2154] = true by decide +kernel) (by decide) (by decide +kernel) ?_
  have l16 := jlN (8, 8) l15
  refine jEv.blk [(.dup, 1, [])] (by decide +kernel) (pc' := 120) (ls' := [(2, Int.ofNat o), (3, 0)]) (st' := [(2, Int.ofNat (o + 79)), (2, Int.ofNat (o + 79)), (2, Int.ofNat o)]) rfl ?_
  refine jEv.calV (st' := [(2, Int.ofNat (o + 79)), (2, Int.ofNat o)]) (show jfI 134 120 (.invokespecial 65) 3 [6, 101, 0, 2156] = true by decide +kernel) rfl (Or.inr (Or.inr (Or.inr rfl))) rfl (Nat.le_of_ble_eq_true rfl) (by decide +kernel) (by decide) (jlA l15) ((c_8 (xs := xs) l16 (jlA l15)).mono (by decide)) rfl ?_
  have l17 := jlS l16 sfx_8_len
  refine jEv.pfR (jlP _ (jlP _ (jlP _ (jlP _ (jlP _ (jlP _ (jlP _ (jlP _ (jlP _ (jlP _ (jlP _ (jlP _ (jlP _ (jlP _ (jlP _ (jlP _ (jlP _ ho))))))))))))))))) (show jfI 134 123 (.putfield 66) 3 [11, 16, 5, 0, 3017] = true by decide +kernel) (by decide) ?_
  refine jEv.blk [(.aload_n 0, 1, []), (.sipush 513, 3, [])] (by decide +kernel) (pc' := 130) (ls' := [(2, Int.ofNat o), (3, 0)]) (st' := [(0, 513), (2, Int.ofNat o)]) rfl ?_
  refine jEv.nwA (n := 513) l17 (show jfI 134 130 (.newarray .int) 2 [20] = true by decide +kernel) (by decide) rfl ?_
  have l18 := jlN (20, 513) l17
  refine jEv.pfR (jlP _ (jlP _ (jlP _ (jlP _ (jlP _ (jlP _ (jlP _ (jlP _ (jlP _ (jlP _ (jlP _ (jlP _ (jlP _ (jlP _ (jlP _ (jlP _ (jlP _ (jlP _ ho)))))))))))))))))) (show jfI 134 132 (.putfield 70) 3 [11, 17, 5, 0, 3018] = true by decide +kernel) (by decide) ?_
  refine jEv.blk [(.aload_n 0, 1, []), (.sipush 16016, 3, [])] (by decide +kernel) (pc' := 139) (ls' := [(2, Int.ofNat o), (3, 0)]) (st' := [(0, 16016), (2, Int.ofNat o)]) rfl ?_
  refine jEv.nwA (n := 16016) l18 (show jfI 134 139 (.newarray .int) 2 [20] = true by decide +kernel) (by decide) rfl ?_
  have l19 := jlN (20, 16016) l18
  refine jEv.pfR (jlP _ (jlP _ (jlP _ (jlP _ (jlP _ (jlP _ (jlP _ (jlP _ (jlP _ (jlP _ (jlP _ (jlP _ (jlP _ (jlP _ (jlP _ (jlP _ (jlP _ (jlP _ (jlP _ ho))))))))))))))))))) (show jfI 134 141 (.putfield 73) 3 [11, 19, 5, 0, 3020] = true by decide +kernel) (by decide) ?_
  refine jEv.blk [(.iconst 0, 1, []), (.istore_n 1, 1, [])] (by decide +kernel) (pc' := 146) (ls' := [(2, Int.ofNat o), (0, 0)]) (st' := []) rfl ?_
  exact c11_loop 20 0 (o + 85) _ _ _ (by omega) l19 (jlP _ (jlP _ (jlP _ (jlP _ (jlP _ (jlP _ (jlP _ (jlP _ (jlP _ (jlP _ (jlP _ (jlP _ (jlP _ (jlP _ (jlP _ (jlP _ (jlP _ (jlP _ (jlP _ ho))))))))))))))))))) (jlP _ (jlP _ (jlP _ (jlP _ (jlP _ (jlP _ (jlA l12))))))) (by simp [jupR, KR_4_lt, KR_9_lt, KR_5_lt, KR_8_lt]) (by omega) (by omega) (by simp [jup, H_4_lt, H_9_lt, H_5_lt, H_8_lt])
