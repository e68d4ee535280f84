/-! the reference's constructor -/
def KL_12 (L : List (Nat × Nat)) : List (Nat × Nat) := ((((((((((((((((((((((((((((((((((((((((((((((((((((((((((((((((((((L ++ [(20, 1600)]) ++ [(20, 7)]) ++ [(23, 7)]) ++ [(23, 6)]) ++ [(23, 5)]) ++ [(23, 3)]) ++ [(23, 4)]) ++ [(23, 6)]) ++ [(23, 5)]) ++ [(23, 5)]) ++ [(23, 4)]) ++ [(23, 7)]) ++ [(23, 7)]) ++ [(23, 3)]) ++ [(23, 7)]) ++ [(23, 6)]) ++ [(23, 6)]) ++ [(23, 5)]) ++ [(23, 6)]) ++ [(23, 5)]) ++ [(23, 5)]) ++ [(23, 2)]) ++ [(23, 3)]) ++ [(23, 3)]) ++ [(23, 3)]) ++ [(23, 3)]) ++ [(23, 3)]) ++ [(20, 10)]) ++ [(20, 120)]) ++ [(20, 4)]) ++ [(20, 4)]) ++ [(20, 3200)]) ++ [(20, 2365)]) ++ [(20, 64)]) ++ [(20, 2244)]) ++ [(20, 2244)]) ++ [(20, 128)]) ++ [(20, 32)]) ++ [(22, 513)]) ++ [(20, 8208)]) ++ [(20, 1001)]) ++ [(20, 47300)]) ++ [(23, 5)]) ++ [(23, 4)]) ++ [(23, 5)]) ++ [(23, 5)]) ++ [(23, 4)]) ++ [(23, 5)]) ++ [(23, 3)]) ++ [(23, 3)]) ++ [(23, 2)]) ++ [(23, 3)]) ++ [(23, 3)]) ++ [(23, 3)]) ++ [(23, 4)]) ++ [(23, 7)]) ++ [(23, 7)]) ++ [(23, 3)]) ++ [(23, 7)]) ++ [(23, 6)]) ++ [(23, 6)]) ++ [(23, 6)]) ++ [(23, 5)]) ++ [(23, 5)]) ++ [(20, 1700)]) ++ [(20, 1700)]) ++ [(21, 1700)]) ++ [(20, 547)])
def KR_12 (R : Nat → Nat → Nat) (o : Nat) : Nat → Nat → Nat := (jupR (jupR (jupR (jupR (jupR (jupR (jupR (jupR (jupR (jupR (jupR (jupR (jupR (jupR (jupR (jupR (jupR (jupR (jupR (jupR (jupR (jupR (jupR (jupR (jupR (jupR (jupR (jupR (jupR (jupR (jupR (jupR (jupR (jupR (jupR (jupR (jupR (jupR (jupR (jupR (jupR (jupR (jupR (jupR (jupR (jupR (jupR (jupR (jupR (jupR (jupR (jupR (jupR (jupR (jupR (jupR (jupR (jupR (jupR (jupR (jupR (jupR (jupR (jupR (jupR (jupR (jupR (jupR R o 0 (o + 1)) o 9 (o + 2)) o 11 (o + 3)) o 12 (o + 4)) o 13 (o + 5)) o 14 (o + 6)) o 15 (o + 7)) o 16 (o + 8)) o 17 (o + 9)) o 18 (o + 10)) o 19 (o + 11)) o 20 (o + 12)) o 21 (o + 13)) o 22 (o + 14)) o 23 (o + 15)) o 24 (o + 16)) o 25 (o + 17)) o 26 (o + 18)) o 27 (o + 19)) o 28 (o + 20)) o 29 (o + 21)) o 30 (o + 22)) o 31 (o + 23)) o 32 (o + 24)) o 33 (o + 25)) o 34 (o + 26)) o 35 (o + 27)) o 36 (o + 28)) o 37 (o + 29)) o 38 (o + 30)) o 39 (o + 31)) o 40 (o + 32)) o 45 (o + 33)) o 49 (o + 34)) o 51 (o + 35)) o 57 (o + 36)) o 58 (o + 37)) o 67 (o + 38)) o 68 (o + 39)) o 70 (o + 40)) o 71 (o + 41)) o 72 (o + 42)) o 76 (o + 43)) o 77 (o + 44)) o 78 (o + 45)) o 79 (o + 46)) o 80 (o + 47)) o 81 (o + 48)) o 82 (o + 49)) o 83 (o + 50)) o 84 (o + 51)) o 85 (o + 52)) o 86 (o + 53)) o 87 (o + 54)) o 88 (o + 55)) o 89 (o + 56)) o 90 (o + 57)) o 91 (o + 58)) o 92 (o + 59)) o 93 (o + 60)) o 94 (o + 61)) o 95 (o + 62)) o 96 (o + 63)) o 97 (o + 64)) o 98 (o + 65)) o 100 (o + 66)) o 104 (o + 67)) o 108 (o + 68))
def H_12 (h : jH) (o : Nat) : jH := (jup (jup (jup (jup (jup (jup (jup (jup (jup (jup (jup (jup (jup (jup (jup (jup (jup (jup (jup (jup (jup (jup (jup (jup (jup (jup (jup (jup (jup (jup (jup (jup (jup (jup (jup (jup (jup (jup (jup (jup (jup (jup (jup (jup (jup (jup (jup (jup (jup (jup (jup (jup (jup (jup (jup (jup (jup (jup (jup (jup (jup (jup (jup (jup (jup (jup (jup (jup (jup (jup (jup (jup (jup (jup (jup (jup (jup (jup (jup (jup (jup (jup (jup (jup (jup (jup (jup (jup (jup (jup (jup (jup (jup (jup (jup (jup (jup (jup (jup (jup (jup (jup (jup (jup (jup (jup (jup (jup (jup (jup (jup (jup (jup (jup (jup (jup (jup (jup (jup (jup (jup (jup (jup (jup (jup (jup (jup (jup (jup (jup (jup (jup (jup (jup (jup (jup (jup (jup (jup (jup (jup (jup (jup (jup (jup (jup (jup (jup (jup (jup (jup (jup (jup (jup (jup (jup (jup (jup (jup (jup (jup (jup (jup (jup (jup (jup (jup (jup (jup (jup (jup (jup (jup (jup (jup (jup (jup (jup (jup (jup (jup (jup (jup (jup (jup (jup (jup (jup (jup (jup (jup (jup (jup (jup (jup (jup (jup (jup (jup (jup (jup (jup (jup (jup (jup (jup (jup (jup (jup (jup (jup (jup (jup (jup (jup (jup (jup (jup (jup (jup (jup (jup (jup (jup (jup (jup (jup h o 8 (-1)) (o + 3) 0 106) (o + 3) 1 111) (o + 3) 2 117) (o + 3) 3 114) (o + 3) 4 110) (o + 3) 5 97) (o + 3) 6 108) (o + 4) 0 98) (o + 4) 1 108) (o + 4) 2 111) (o + 4) 3 99) (o + 4) 4 107) (o + 4) 5 115) (o + 5) 0 98) (o + 5) 1 121) (o + 5) 2 116) (o + 5) 3 101) (o + 5) 4 115) (o + 6) 0 112) (o + 6) 1 117) (o + 6) 2 116) (o + 7) 0 115) (o + 7) 1 105) (o + 7) 2 122) (o + 7) 3 101) (o + 8) 0 99) (o + 8) 1 108) (o + 8) 2 111) (o + 8) 3 115) (o + 8) 4 101) (o + 8) 5 115) (o + 9) 0 116) (o + 9) 1 97) (o + 9) 2 107) (o + 9) 3 101) (o + 9) 4 115) (o + 10) 0 110) (o + 10) 1 111) (o + 10) 2 105) (o + 10) 3 115) (o + 10) 4 101) (o + 11) 0 116) (o + 11) 1 105) (o + 11) 2 99) (o + 11) 3 107) (o + 12) 0 114) (o + 12) 1 101) (o + 12) 2 99) (o + 12) 3 111) (o + 12) 4 114) (o + 12) 5 100) (o + 12) 6 115) (o + 13) 0 112) (o + 13) 1 97) (o + 13) 2 121) (o + 13) 3 108) (o + 13) 4 111) (o + 13) 5 97) (o + 13) 6 100) (o + 14) 0 97) (o + 14) 1 103) (o + 14) 2 101) (o + 15) 0 119) (o + 15) 1 97) (o + 15) 2 105) (o + 15) 3 116) (o + 15) 4 101) (o + 15) 5 114) (o + 15) 6 115) (o + 16) 0 110) (o + 16) 1 117) (o + 16) 2 109) (o + 16) 3 98) (o + 16) 4 101) (o + 16) 5 114) (o + 17) 0 115) (o + 17) 1 101) (o + 17) 2 114) (o + 17) 3 105) (o + 17) 4 97) (o + 17) 5 108) (o + 18) 0 102) (o + 18) 1 105) (o + 18) 2 114) (o + 18) 3 115) (o + 18) 4 116) (o + 19) 0 102) (o + 19) 1 114) (o + 19) 2 97) (o + 19) 3 109) (o + 19) 4 101) (o + 19) 5 115) (o + 20) 0 111) (o + 20) 1 99) (o + 20) 2 116) (o + 20) 3 101) (o + 20) 4 116) (o + 21) 0 118) (o + 21) 1 97) (o + 21) 2 108) (o + 21) 3 117) (o + 21) 4 101) (o + 22) 0 111) (o + 22) 1 114) (o + 23) 0 97) (o + 23) 1 110) (o + 23) 2 100) (o + 24) 0 110) (o + 24) 1 111) (o + 24) 2 116) (o + 25) 0 97) (o + 25) 1 108) (o + 25) 2 108) (o + 26) 0 109) (o + 26) 1 105) (o + 26) 2 110) (o + 27) 0 109) (o + 27) 1 97) (o + 27) 2 120) (o + 30) 0 (-1)) (o + 30) 1 (-1)) (o + 30) 2 (-1)) (o + 30) 3 (-1)) o 52 (-1)) o 75 1) (o + 43) 0 102) (o + 43) 1 105) (o + 43) 2 114) (o + 43) 3 115) (o + 43) 4 116) (o + 44) 0 108) (o + 44) 1 97) (o + 44) 2 115) (o + 44) 3 116) (o + 45) 0 111) (o + 45) 1 102) (o + 45) 2 116) (o + 45) 3 101) (o + 45) 4 110) (o + 46) 0 116) (o + 46) 1 111) (o + 46) 2 116) (o + 46) 3 97) (o + 46) 4 108) (o + 47) 0 109) (o + 47) 1 111) (o + 47) 2 115) (o + 47) 3 116) (o + 48) 0 108) (o + 48) 1 101) (o + 48) 2 97) (o + 48) 3 115) (o + 48) 4 116) (o + 49) 0 110) (o + 49) 1 111) (o + 49) 2 116) (o + 50) 0 97) (o + 50) 1 110) (o + 50) 2 100) (o + 51) 0 111) (o + 51) 1 114) (o + 52) 0 97) (o + 52) 1 108) (o + 52) 2 108) (o + 53) 0 109) (o + 53) 1 105) (o + 53) 2 110) (o + 54) 0 109) (o + 54) 1 97) (o + 54) 2 120) (o + 55) 0 116) (o + 55) 1 105) (o + 55) 2 99) (o + 55) 3 107) (o + 56) 0 114) (o + 56) 1 101) (o + 56) 2 99) (o + 56) 3 111) (o + 56) 4 114) (o + 56) 5 100) (o + 56) 6 115) (o + 57) 0 112) (o + 57) 1 97) (o + 57) 2 121) (o + 57) 3 108) (o + 57) 4 111) (o + 57) 5 97) (o + 57) 6 100) (o + 58) 0 97) (o + 58) 1 103) (o + 58) 2 101) (o + 59) 0 119) (o + 59) 1 97) (o + 59) 2 105) (o + 59) 3 116) (o + 59) 4 101) (o + 59) 5 114) (o + 59) 6 115) (o + 60) 0 110) (o + 60) 1 117) (o + 60) 2 109) (o + 60) 3 98) (o + 60) 4 101) (o + 60) 5 114) (o + 61) 0 115) (o + 61) 1 101) (o + 61) 2 114) (o + 61) 3 105) (o + 61) 4 97) (o + 61) 5 108) (o + 62) 0 102) (o + 62) 1 114) (o + 62) 2 97) (o + 62) 3 109) (o + 62) 4 101) (o + 62) 5 115) (o + 63) 0 111) (o + 63) 1 99) (o + 63) 2 116) (o + 63) 3 101) (o + 63) 4 116) (o + 64) 0 118) (o + 64) 1 97) (o + 64) 2 108) (o + 64) 3 117) (o + 64) 4 101)
theorem KR_12_lt {R : Nat → Nat → Nat} {o o' : Nat} (ho : o' < o) : KR_12 R o o' = R o' := by
  unfold KR_12
  repeat (first | rw [jupR_ne])
  all_goals first | rfl | omega
theorem H_12_lt {h : jH} {o o' : Nat} (ho : o' < o) : H_12 h o o' = h o' := by
  unfold H_12
  repeat (first | rw [jup_ne])
  all_goals first | rfl | omega
set_option maxRecDepth 20000 in
set_option maxHeartbeats 4000000 in
theorem c_12 {xs : List Int} {L : List (Nat × Nat)} {R : Nat → Nat → Nat} {h : jH} {o : Nat} (hl : L.length = o + 1) (ho : L[o]? = some (12, 110)) : jEm xs 1 200 [(2, Int.ofNat o)] ((L, R), h) ((3, 0), ((KL_12 L, KR_12 R o), H_12 h o)) := by
  refine jEm.ent (n := 1) (by decide +kernel) (Nat.le_of_ble_eq_true rfl) ?_
  show jEv xs 0 (200, 0, [(2, Int.ofNat o)], []) ((L, R), h) _
  refine jEv.blk [(.aload_n 0, 1, [])] (by decide +kernel) (pc' := 1) (ls' := [(2, Int.ofNat o)]) (st' := [(2, Int.ofNat o)]) rfl ?_
  refine jEv.obj ho (show jfI 200 1 (.invokespecial 1) 3 [7, 0, 0, 7034] = true by decide +kernel) rfl (by decide) (Nat.le_of_ble_eq_true rfl) ?_
  refine jEv.blk [(.aload_n 0, 1, []), (.sipush 1600, 3, [])] (by decide +kernel) (pc' := 8) (ls' := [(2, Int.ofNat o)]) (st' := [(0, 1600), (2, Int.ofNat o)]) rfl ?_
  refine jEv.nwA (n := 1600) hl (show jfI 200 8 (.newarray .int) 2 [20] = true by decide +kernel) (by decide) rfl ?_
  have l1 := jlN (20, 1600) hl
  refine jEv.pfR (jlP _ ho) (show jfI 200 10 (.putfield 7) 3 [12, 0, 5, 0, 7036] = true by decide +kernel) (by decide) ?_
  refine jEv.blk [(.aload_n 0, 1, []), (.iconst (-1), 1, [])] (by decide +kernel) (pc' := 15) (ls' := [(2, Int.ofNat o)]) (st' := [(0, (-1)), (2, Int.ofNat o)]) rfl ?_
  refine jEv.pfI (show jfI 200 15 (.putfield 13) 3 [12, 8, 0, 0, 7044] = true by decide +kernel) (jlP _ ho) (by decide) ?_
  refine jEv.blk [(.aload_n 0, 1, []), (.bipush 7, 2, [])] (by decide +kernel) (pc' := 21) (ls' := [(2, Int.ofNat o)]) (st' := [(0, 7), (2, Int.ofNat o)]) rfl ?_
  refine jEv.nwA (n := 7) l1 (show jfI 200 21 (.newarray .int) 2 [20] = true by decide +kernel) (by decide) rfl ?_
  have l2 := jlN (20, 7) l1
  refine jEv.pfR (jlP _ (jlP _ ho)) (show jfI 200 23 (.putfield 17) 3 [12, 9, 5, 0, 7045] = true by decide +kernel) (by decide) ?_
  refine jEv.blk [(.aload_n 0, 1, []), (.bipush 7, 2, [])] (by decide +kernel) (pc' := 29) (ls' := [(2, Int.ofNat o)]) (st' := [(0, 7), (2, Int.ofNat o)]) rfl ?_
  refine jEv.nwA (n := 7) l2 (show jfI 200 29 (.newarray .char) 2 [23] = true by decide +kernel) (by decide) rfl ?_
  have l3 := jlN (23, 7) l2
  refine jEv.blk [(.dup, 1, []), (.iconst 0, 1, []), (.bipush 106, 2, [])] (by decide +kernel) (pc' := 35) (ls' := [(2, Int.ofNat o)]) (st' := [(0, 106), (0, 0), (2, Int.ofNat (o + 3)), (2, Int.ofNat (o + 3)), (2, Int.ofNat o)]) rfl ?_
  refine jEv.asd (jlA l2) (Or.inr ⟨rfl, rfl, rfl⟩) (show jfI 200 35 (.castore) 1 [] = true by decide +kernel) (by decide) (by decide +kernel) ?_
  refine jEv.blk [(.dup, 1, []), (.iconst 1, 1, []), (.bipush 111, 2, [])] (by decide +kernel) (pc' := 40) (ls' := [(2, Int.ofNat o)]) (st' := [(0, 111), (0, 1), (2, Int.ofNat (o + 3)), (2, Int.ofNat (o + 3)), (2, Int.ofNat o)]) rfl ?_
  refine jEv.asd (jlA l2) (Or.inr ⟨rfl, rfl, rfl⟩) (show jfI 200 40 (.castore) 1 [] = true by decide +kernel) (by decide) (by decide +kernel) ?_
  refine jEv.blk [(.dup, 1, []), (.iconst 2, 1, []), (.bipush 117, 2, [])] (by decide +kernel) (pc' := 45) (ls' := [(2, Int.ofNat o)]) (st' := [(0, 117), (0, 2), (2, Int.ofNat (o + 3)), (2, Int.ofNat (o + 3)), (2, Int.ofNat o)]) rfl ?_
  refine jEv.asd (jlA l2) (Or.inr ⟨rfl, rfl, rfl⟩) (show jfI 200 45 (.castore) 1 [] = true by decide +kernel) (by decide) (by decide +kernel) ?_
  refine jEv.blk [(.dup, 1, []), (.iconst 3, 1, []), (.bipush 114, 2, [])] (by decide +kernel) (pc' := 50) (ls' := [(2, Int.ofNat o)]) (st' := [(0, 114), (0, 3), (2, Int.ofNat (o + 3)), (2, Int.ofNat (o + 3)), (2, Int.ofNat o)]) rfl ?_
  refine jEv.asd (jlA l2) (Or.inr ⟨rfl, rfl, rfl⟩) (show jfI 200 50 (.castore) 1 [] = true by decide +kernel) (by decide) (by decide +kernel) ?_
  refine jEv.blk [(.dup, 1, []), (.iconst 4, 1, []), (.bipush 110, 2, [])] (by decide +kernel) (pc' := 55) (ls' := [(2, Int.ofNat o)]) (st' := [(0, 110), (0, 4), (2, Int.ofNat (o + 3)), (2, Int.ofNat (o + 3)), (2, Int.ofNat o)]) rfl ?_
  refine jEv.asd (jlA l2) (Or.inr ⟨rfl, rfl, rfl⟩) (show jfI 200 55 (.castore) 1 [] = true by decide +kernel) (by decide) (by decide +kernel) ?_
  refine jEv.blk [(.dup, 1, []), (.iconst 5, 1, []), (.bipush 97, 2, [])] (by decide +kernel) (pc' := 60) (ls' := [(2, Int.ofNat o)]) (st' := [(0, 97), (0, 5), (2, Int.ofNat (o + 3)), (2, Int.ofNat (o + 3)), (2, Int.ofNat o)]) rfl ?_
  refine jEv.asd (jlA l2) (Or.inr ⟨rfl, rfl, rfl⟩) (show jfI 200 60 (.castore) 1 [] = true by decide +kernel) (by decide) (by decide +kernel) ?_
  refine jEv.blk [(.dup, 1, []), (.bipush 6, 2, []), (.bipush 108, 2, [])] (by decide +kernel) (pc' := 66) (ls' := [(2, Int.ofNat o)]) (st' := [(0, 108), (0, 6), (2, Int.ofNat (o + 3)), (2, Int.ofNat (o + 3)), (2, Int.ofNat o)]) rfl ?_
  refine jEv.asd (jlA l2) (Or.inr ⟨rfl, rfl, rfl⟩) (show jfI 200 66 (.castore) 1 [] = true by decide +kernel) (by decide) (by decide +kernel) ?_
  refine jEv.pfR (jlP _ (jlP _ (jlP _ ho))) (show jfI 200 67 (.putfield 20) 3 [12, 11, 5, 0, 7047] = true by decide +kernel) (by decide) ?_
  refine jEv.blk [(.aload_n 0, 1, []), (.bipush 6, 2, [])] (by decide +kernel) (pc' := 73) (ls' := [(2, Int.ofNat o)]) (st' := [(0, 6), (2, Int.ofNat o)]) rfl ?_
  refine jEv.nwA (n := 6) l3 (show jfI 200 73 (.newarray .char) 2 [23] = true by decide +kernel) (by decide) rfl ?_
  have l4 := jlN (23, 6) l3
  refine jEv.blk [(.dup, 1, []), (.iconst 0, 1, []), (.bipush 98, 2, [])] (by decide +kernel) (pc' := 79) (ls' := [(2, Int.ofNat o)]) (st' := [(0, 98), (0, 0), (2, Int.ofNat (o + 4)), (2, Int.ofNat (o + 4)), (2, Int.ofNat o)]) rfl ?_
  refine jEv.asd (jlA l3) (Or.inr ⟨rfl, rfl, rfl⟩) (show jfI 200 79 (.castore) 1 [] = true by decide +kernel) (by decide) (by decide +kernel) ?_
  refine jEv.blk [(.dup, 1, []), (.iconst 1, 1, []), (.bipush 108, 2, [])] (by decide +kernel) (pc' := 84) (ls' := [(2, Int.ofNat o)]) (st' := [(0, 108), (0, 1), (2, Int.ofNat (o + 4)), (2, Int.ofNat (o + 4)), (2, Int.ofNat o)]) rfl ?_
  refine jEv.asd (jlA l3) (Or.inr ⟨rfl, rfl, rfl⟩) (show jfI 200 84 (.castore) 1 [] = true by decide +kernel) (by decide) (by decide +kernel) ?_
  refine jEv.blk [(.dup, 1, []), (.iconst 2, 1, []), (.bipush 111, 2, [])] (by decide +kernel) (pc' := 89) (ls' := [(2, Int.ofNat o)]) (st' := [(0, 111), (0, 2), (2, Int.ofNat (o + 4)), (2, Int.ofNat (o + 4)), (2, Int.ofNat o)]) rfl ?_
  refine jEv.asd (jlA l3) (Or.inr ⟨rfl, rfl, rfl⟩) (show jfI 200 89 (.castore) 1 [] = true by decide +kernel) (by decide) (by decide +kernel) ?_
  refine jEv.blk [(.dup, 1, []), (.iconst 3, 1, []), (.bipush 99, 2, [])] (by decide +kernel) (pc' := 94) (ls' := [(2, Int.ofNat o)]) (st' := [(0, 99), (0, 3), (2, Int.ofNat (o + 4)), (2, Int.ofNat (o + 4)), (2, Int.ofNat o)]) rfl ?_
  refine jEv.asd (jlA l3) (Or.inr ⟨rfl, rfl, rfl⟩) (show jfI 200 94 (.castore) 1 [] = true by decide +kernel) (by decide) (by decide +kernel) ?_
  refine jEv.blk [(.dup, 1, []), (.iconst 4, 1, []), (.bipush 107, 2, [])] (by decide +kernel) (pc' := 99) (ls' := [(2, Int.ofNat o)]) (st' := [(0, 107), (0, 4), (2, Int.ofNat (o + 4)), (2, Int.ofNat (o + 4)), (2, Int.ofNat o)]) rfl ?_
  refine jEv.asd (jlA l3) (Or.inr ⟨rfl, rfl, rfl⟩) (show jfI 200 99 (.castore) 1 [] = true by decide +kernel) (by decide) (by decide +kernel) ?_
  refine jEv.blk [(.dup, 1, []), (.iconst 5, 1, []), (.bipush 115, 2, [])] (by decide +kernel) (pc' := 104) (ls' := [(2, Int.ofNat o)]) (st' := [(0, 115), (0, 5), (2, Int.ofNat (o + 4)), (2, Int.ofNat (o + 4)), (2, Int.ofNat o)]) rfl ?_
  refine jEv.asd (jlA l3) (Or.inr ⟨rfl, rfl, rfl⟩) (show jfI 200 104 (.castore) 1 [] = true by decide +kernel) (by decide) (by decide +kernel) ?_
  refine jEv.pfR (jlP _ (jlP _ (jlP _ (jlP _ ho)))) (show jfI 200 105 (.putfield 24) 3 [12, 12, 5, 0, 7048] = true by decide +kernel) (by decide) ?_
  refine jEv.blk [(.aload_n 0, 1, []), (.iconst 5, 1, [])] (by decide +kernel) (pc' := 110) (ls' := [(2, Int.ofNat o)]) (st' := [(0, 5), (2, Int.ofNat o)]) rfl ?_
  refine jEv.nwA (n := 5) l4 (show jfI 200 110 (.newarray .char) 2 [23] = true by decide +kernel) (by decide) rfl ?_
  have l5 := jlN (23, 5) l4
  refine jEv.blk [(.dup, 1, []), (.iconst 0, 1, []), (.bipush 98, 2, [])] (by decide +kernel) (pc' := 116) (ls' := [(2, Int.ofNat o)]) (st' := [(0, 98), (0, 0), (2, Int.ofNat (o + 5)), (2, Int.ofNat (o + 5)), (2, Int.ofNat o)]) rfl ?_
  refine jEv.asd (jlA l4) (Or.inr ⟨rfl, rfl, rfl⟩) (show jfI 200 116 (.castore) 1 [] = true by decide +kernel) (by decide) (by decide +kernel) ?_
  refine jEv.blk [(.dup, 1, []), (.iconst 1, 1, []), (.bipush 121, 2, [])] (by decide +kernel) (pc' := 121) (ls' := [(2, Int.ofNat o)]) (st' := [(0, 121), (0, 1), (2, Int.ofNat (o + 5)), (2, Int.ofNat (o + 5)), (2, Int.ofNat o)]) rfl ?_
  refine jEv.asd (jlA l4) (Or.inr ⟨rfl, rfl, rfl⟩) (show jfI 200 121 (.castore) 1 [] = true by decide +kernel) (by decide) (by decide +kernel) ?_
  refine jEv.blk [(.dup, 1, []), (.iconst 2, 1, []), (.bipush 116, 2, [])] (by decide +kernel) (pc' := 126) (ls' := [(2, Int.ofNat o)]) (st' := [(0, 116), (0, 2), (2, Int.ofNat (o + 5)), (2, Int.ofNat (o + 5)), (2, Int.ofNat o)]) rfl ?_
  refine jEv.asd (jlA l4) (Or.inr ⟨rfl, rfl, rfl⟩) (show jfI 200 126 (.castore) 1 [] = true by decide +kernel) (by decide) (by decide +kernel) ?_
  refine jEv.blk [(.dup, 1, []), (.iconst 3, 1, []), (.bipush 101, 2, [])] (by decide +kernel) (pc' := 131) (ls' := [(2, Int.ofNat o)]) (st' := [(0, 101), (0, 3), (2, Int.ofNat (o + 5)), (2, Int.ofNat (o + 5)), (2, Int.ofNat o)]) rfl ?_
  refine jEv.asd (jlA l4) (Or.inr ⟨rfl, rfl, rfl⟩) (show jfI 200 131 (.castore) 1 [] = true by decide +kernel) (by decide) (by decide +kernel) ?_
  refine jEv.blk [(.dup, 1, []), (.iconst 4, 1, []), (.bipush 115, 2, [])] (by decide +kernel) (pc' := 136) (ls' := [(2, Int.ofNat o)]) (st' := [(0, 115), (0, 4), (2, Int.ofNat (o + 5)), (2, Int.ofNat (o + 5)), (2, Int.ofNat o)]) rfl ?_
  refine jEv.asd (jlA l4) (Or.inr ⟨rfl, rfl, rfl⟩) (show jfI 200 136 (.castore) 1 [] = true by decide +kernel) (by decide) (by decide +kernel) ?_
  refine jEv.pfR (jlP _ (jlP _ (jlP _ (jlP _ (jlP _ ho))))) (show jfI 200 137 (.putfield 27) 3 [12, 13, 5, 0, 7049] = true by decide +kernel) (by decide) ?_
  refine jEv.blk [(.aload_n 0, 1, []), (.iconst 3, 1, [])] (by decide +kernel) (pc' := 142) (ls' := [(2, Int.ofNat o)]) (st' := [(0, 3), (2, Int.ofNat o)]) rfl ?_
  refine jEv.nwA (n := 3) l5 (show jfI 200 142 (.newarray .char) 2 [23] = true by decide +kernel) (by decide) rfl ?_
  have l6 := jlN (23, 3) l5
  refine jEv.blk [(.dup, 1, []), (.iconst 0, 1, []), (.bipush 112, 2, [])] (by decide +kernel) (pc' := 148) (ls' := [(2, Int.ofNat o)]) (st' := [(0, 112), (0, 0), (2, Int.ofNat (o + 6)), (2, Int.ofNat (o + 6)), (2, Int.ofNat o)]) rfl ?_
  refine jEv.asd (jlA l5) (Or.inr ⟨rfl, rfl, rfl⟩) (show jfI 200 148 (.castore) 1 [] = true by decide +kernel) (by decide) (by decide +kernel) ?_
  refine jEv.blk [(.dup, 1, []), (.iconst 1, 1, []), (.bipush 117, 2, [])] (by decide +kernel) (pc' := 153) (ls' := [(2, Int.ofNat o)]) (st' := [(0, 117), (0, 1), (2, Int.ofNat (o + 6)), (2, Int.ofNat (o + 6)), (2, Int.ofNat o)]) rfl ?_
  refine jEv.asd (jlA l5) (Or.inr ⟨rfl, rfl, rfl⟩) (show jfI 200 153 (.castore) 1 [] = true by decide +kernel) (by decide) (by decide +kernel) ?_
  refine jEv.blk [(.dup, 1, []), (.iconst 2, 1, []), (.bipush 116, 2, [])] (by decide +kernel) (pc' := 158) (ls' := [(2, Int.ofNat o)]) (st' := [(0, 116), (0, 2), (2, Int.ofNat (o + 6)), (2, Int.ofNat (o + 6)), (2, Int.ofNat o)]) rfl ?_
  refine jEv.asd (jlA l5) (Or.inr ⟨rfl, rfl, rfl⟩) (show jfI 200 158 (.castore) 1 [] = true by decide +kernel) (by decide) (by decide +kernel) ?_
  refine jEv.pfR (jlP _ (jlP _ (jlP _ (jlP _ (jlP _ (jlP _ ho)))))) (show jfI 200 159 (.putfield 30) 3 [12, 14, 5, 0, 7050] = true by decide +kernel) (by decide) ?_
  refine jEv.blk [(.aload_n 0, 1, []), (.iconst 4, 1, [])] (by decide +kernel) (pc' := 164) (ls' := [(2, Int.ofNat o)]) (st' := [(0, 4), (2, Int.ofNat o)]) rfl ?_
  refine jEv.nwA (n := 4) l6 (show jfI 200 164 (.newarray .char) 2 [23] = true by decide +kernel) (by decide) rfl ?_
  have l7 := jlN (23, 4) l6
  refine jEv.blk [(.dup, 1, []), (.iconst 0, 1, []), (.bipush 115, 2, [])] (by decide +kernel) (pc' := 170) (ls' := [(2, Int.ofNat o)]) (st' := [(0, 115), (0, 0), (2, Int.ofNat (o + 7)), (2, Int.ofNat (o + 7)), (2, Int.ofNat o)]) rfl ?_
  refine jEv.asd (jlA l6) (Or.inr ⟨rfl, rfl, rfl⟩) (show jfI 200 170 (.castore) 1 [] = true by decide +kernel) (by decide) (by decide +kernel) ?_
  refine jEv.blk [(.dup, 1, []), (.iconst 1, 1, []), (.bipush 105, 2, [])] (by decide +kernel) (pc' := 175) (ls' := [(2, Int.ofNat o)]) (st' := [(0, 105), (0, 1), (2, Int.ofNat (o + 7)), (2, Int.ofNat (o + 7)), (2, Int.ofNat o)]) rfl ?_
  refine jEv.asd (jlA l6) (Or.inr ⟨rfl, rfl, rfl⟩) (show jfI 200 175 (.castore) 1 [] = true by decide +kernel) (by decide) (by decide +kernel) ?_
  refine jEv.blk [(.dup, 1, []), (.iconst 2, 1, []), (.bipush 122, 2, [])] (by decide +kernel) (pc' := 180) (ls' := [(2, Int.ofNat o)]) (st' := [(0, 122), (0, 2), (2, Int.ofNat (o + 7)), (2, Int.ofNat (o + 7)), (2, Int.ofNat o)]) rfl ?_
  refine jEv.asd (jlA l6) (Or.inr ⟨rfl, rfl, rfl⟩) (show jfI 200 180 (.castore) 1 [] = true by decide +kernel) (by decide) (by decide +kernel) ?_
  refine jEv.blk [(.dup, 1, []), (.iconst 3, 1, []), (.bipush 101, 2, [])] (by decide +kernel) (pc' := 185) (ls' := [(2, Int.ofNat o)]) (st' := [(0, 101), (0, 3), (2, Int.ofNat (o + 7)), (2, Int.ofNat (o + 7)), (2, Int.ofNat o)]) rfl ?_
  refine jEv.asd (jlA l6) (Or.inr ⟨rfl, rfl, rfl⟩) (show jfI 200 185 (.castore) 1 [] = true by decide +kernel) (by decide) (by decide +kernel) ?_
  refine jEv.pfR (jlP _ (jlP _ (jlP _ (jlP _ (jlP _ (jlP _ (jlP _ ho))))))) (show jfI 200 186 (.putfield 33) 3 [12, 15, 5, 0, 7051] = true by decide +kernel) (by decide) ?_
  refine jEv.blk [(.aload_n 0, 1, []), (.bipush 6, 2, [])] (by decide +kernel) (pc' := 192) (ls' := [(2, Int.ofNat o)]) (st' := [(0, 6), (2, Int.ofNat o)]) rfl ?_
  refine jEv.nwA (n := 6) l7 (show jfI 200 192 (.newarray .char) 2 [23] = true by decide +kernel) (by decide) rfl ?_
  have l8 := jlN (23, 6) l7
  refine jEv.blk [(.dup, 1, []), (.iconst 0, 1, []), (.bipush 99, 2, [])] (by decide +kernel) (pc' := 198) (ls' := [(2, Int.ofNat o)]) (st' := [(0, 99), (0, 0), (2, Int.ofNat (o + 8)), (2, Int.ofNat (o + 8)), (2, Int.ofNat o)]) rfl ?_
  refine jEv.asd (jlA l7) (Or.inr ⟨rfl, rfl, rfl⟩) (show jfI 200 198 (.castore) 1 [] = true by decide +kernel) (by decide) (by decide +kernel) ?_
  refine jEv.blk [(.dup, 1, []), (.iconst 1, 1, []), (.bipush 108, 2, [])] (by decide +kernel) (pc' := 203) (ls' := [(2, Int.ofNat o)]) (st' := [(0, 108), (0, 1), (2, Int.ofNat (o + 8)), (2, Int.ofNat (o + 8)), (2, Int.ofNat o)]) rfl ?_
  refine jEv.asd (jlA l7) (Or.inr ⟨rfl, rfl, rfl⟩) (show jfI 200 203 (.castore) 1 [] = true by decide +kernel) (by decide) (by decide +kernel) ?_
  refine jEv.blk [(.dup, 1, []), (.iconst 2, 1, []), (.bipush 111, 2, [])] (by decide +kernel) (pc' := 208) (ls' := [(2, Int.ofNat o)]) (st' := [(0, 111), (0, 2), (2, Int.ofNat (o + 8)), (2, Int.ofNat (o + 8)), (2, Int.ofNat o)]) rfl ?_
  refine jEv.asd (jlA l7) (Or.inr ⟨rfl, rfl, rfl⟩) (show jfI 200 208 (.castore) 1 [] = true by decide +kernel) (by decide) (by decide +kernel) ?_
  refine jEv.blk [(.dup, 1, []), (.iconst 3, 1, []), (.bipush 115, 2, [])] (by decide +kernel) (pc' := 213) (ls' := [(2, Int.ofNat o)]) (st' := [(0, 115), (0, 3), (2, Int.ofNat (o + 8)), (2, Int.ofNat (o + 8)), (2, Int.ofNat o)]) rfl ?_
  refine jEv.asd (jlA l7) (Or.inr ⟨rfl, rfl, rfl⟩) (show jfI 200 213 (.castore) 1 [] = true by decide +kernel) (by decide) (by decide +kernel) ?_
  refine jEv.blk [(.dup, 1, []), (.iconst 4, 1, []), (.bipush 101, 2, [])] (by decide +kernel) (pc' := 218) (ls' := [(2, Int.ofNat o)]) (st' := [(0, 101), (0, 4), (2, Int.ofNat (o + 8)), (2, Int.ofNat (o + 8)), (2, Int.ofNat o)]) rfl ?_
  refine jEv.asd (jlA l7) (Or.inr ⟨rfl, rfl, rfl⟩) (show jfI 200 218 (.castore) 1 [] = true by decide +kernel) (by decide) (by decide +kernel) ?_
  refine jEv.blk [(.dup, 1, []), (.iconst 5, 1, []), (.bipush 115, 2, [])] (by decide +kernel) (pc' := 223) (ls' := [(2, Int.ofNat o)]) (st' := [(0, 115), (0, 5), (2, Int.ofNat (o + 8)), (2, Int.ofNat (o + 8)), (2, Int.ofNat o)]) rfl ?_
  refine jEv.asd (jlA l7) (Or.inr ⟨rfl, rfl, rfl⟩) (show jfI 200 223 (.castore) 1 [] = true by decide +kernel) (by decide) (by decide +kernel) ?_
  refine jEv.pfR (jlP _ (jlP _ (jlP _ (jlP _ (jlP _ (jlP _ (jlP _ (jlP _ ho)))))))) (show jfI 200 224 (.putfield 36) 3 [12, 16, 5, 0, 7052] = true by decide +kernel) (by decide) ?_
  refine jEv.blk [(.aload_n 0, 1, []), (.iconst 5, 1, [])] (by decide +kernel) (pc' := 229) (ls' := [(2, Int.ofNat o)]) (st' := [(0, 5), (2, Int.ofNat o)]) rfl ?_
  refine jEv.nwA (n := 5) l8 (show jfI 200 229 (.newarray .char) 2 [23] = true by decide +kernel) (by decide) rfl ?_
  have l9 := jlN (23, 5) l8
  refine jEv.blk [(.dup, 1, []), (.iconst 0, 1, []), (.bipush 116, 2, [])] (by decide +kernel) (pc' := 235) (ls' := [(2, Int.ofNat o)]) (st' := [(0, 116), (0, 0), (2, Int.ofNat (o + 9)), (2, Int.ofNat (o + 9)), (2, Int.ofNat o)]) rfl ?_
  refine jEv.asd (jlA l8) (Or.inr ⟨rfl, rfl, rfl⟩) (show jfI 200 235 (.castore) 1 [] = true by decide +kernel) (by decide) (by decide +kernel) ?_
  refine jEv.blk [(.dup, 1, []), (.iconst 1, 1, []), (.bipush 97, 2, [])] (by decide +kernel) (pc' := 240) (ls' := [(2, Int.ofNat o)]) (st' := [(0, 97), (0, 1), (2, Int.ofNat (o + 9)), (2, Int.ofNat (o + 9)), (2, Int.ofNat o)]) rfl ?_
  refine jEv.asd (jlA l8) (Or.inr ⟨rfl, rfl, rfl⟩) (show jfI 200 240 (.castore) 1 [] = true by decide +kernel) (by decide) (by decide +kernel) ?_
  refine jEv.blk [(.dup, 1, []), (.iconst 2, 1, []), (.bipush 107, 2, [])] (by decide +kernel) (pc' := 245) (ls' := [(2, Int.ofNat o)]) (st' := [(0, 107), (0, 2), (2, Int.ofNat (o + 9)), (2, Int.ofNat (o + 9)), (2, Int.ofNat o)]) rfl ?_
  refine jEv.asd (jlA l8) (Or.inr ⟨rfl, rfl, rfl⟩) (show jfI 200 245 (.castore) 1 [] = true by decide +kernel) (by decide) (by decide +kernel) ?_
  refine jEv.blk [(.dup, 1, []), (.iconst 3, 1, []), (.bipush 101, 2, [])] (by decide +kernel) (pc' := 250) (ls' := [(2, Int.ofNat o)]) (st' := [(0, 101), (0, 3), (2, Int.ofNat (o + 9)), (2, Int.ofNat (o + 9)), (2, Int.ofNat o)]) rfl ?_
  refine jEv.asd (jlA l8) (Or.inr ⟨rfl, rfl, rfl⟩) (show jfI 200 250 (.castore) 1 [] = true by decide +kernel) (by decide) (by decide +kernel) ?_
  refine jEv.blk [(.dup, 1, []), (.iconst 4, 1, []), (.bipush 115, 2, [])] (by decide +kernel) (pc' := 255) (ls' := [(2, Int.ofNat o)]) (st' := [(0, 115), (0, 4), (2, Int.ofNat (o + 9)), (2, Int.ofNat (o + 9)), (2, Int.ofNat o)]) rfl ?_
  refine jEv.asd (jlA l8) (Or.inr ⟨rfl, rfl, rfl⟩) (show jfI 200 255 (.castore) 1 [] = true by decide +kernel) (by decide) (by decide +kernel) ?_
  refine jEv.pfR (jlP _ (jlP _ (jlP _ (jlP _ (jlP _ (jlP _ (jlP _ (jlP _ (jlP _ ho))))))))) (show jfI 200 256 (.putfield 39) 3 [12, 17, 5, 0, 7053] = true by decide +kernel) (by decide) ?_
  refine jEv.blk [(.aload_n 0, 1, []), (.iconst 5, 1, [])] (by decide +kernel) (pc' := 261) (ls' := [(2, Int.ofNat o)]) (st' := [(0, 5), (2, Int.ofNat o)]) rfl ?_
  refine jEv.nwA (n := 5) l9 (show jfI 200 261 (.newarray .char) 2 [23] = true by decide +kernel) (by decide) rfl ?_
  have l10 := jlN (23, 5) l9
  refine jEv.blk [(.dup, 1, []), (.iconst 0, 1, []), (.bipush 110, 2, [])] (by decide +kernel) (pc' := 267) (ls' := [(2, Int.ofNat o)]) (st' := [(0, 110), (0, 0), (2, Int.ofNat (o + 10)), (2, Int.ofNat (o + 10)), (2, Int.ofNat o)]) rfl ?_
  refine jEv.asd (jlA l9) (Or.inr ⟨rfl, rfl, rfl⟩) (show jfI 200 267 (.castore) 1 [] = true by decide +kernel) (by decide) (by decide +kernel) ?_
  refine jEv.blk [(.dup, 1, []), (.iconst 1, 1, []), (.bipush 111, 2, [])] (by decide +kernel) (pc' := 272) (ls' := [(2, Int.ofNat o)]) (st' := [(0, 111), (0, 1), (2, Int.ofNat (o + 10)), (2, Int.ofNat (o + 10)), (2, Int.ofNat o)]) rfl ?_
  refine jEv.asd (jlA l9) (Or.inr ⟨rfl, rfl, rfl⟩) (show jfI 200 272 (.castore) 1 [] = true by decide +kernel) (by decide) (by decide +kernel) ?_
  refine jEv.blk [(.dup, 1, []), (.iconst 2, 1, []), (.bipush 105, 2, [])] (by decide +kernel) (pc' := 277) (ls' := [(2, Int.ofNat o)]) (st' := [(0, 105), (0, 2), (2, Int.ofNat (o + 10)), (2, Int.ofNat (o + 10)), (2, Int.ofNat o)]) rfl ?_
  refine jEv.asd (jlA l9) (Or.inr ⟨rfl, rfl, rfl⟩) (show jfI 200 277 (.castore) 1 [] = true by decide +kernel) (by decide) (by decide +kernel) ?_
  refine jEv.blk [(.dup, 1, []), (.iconst 3, 1, []), (.bipush 115, 2, [])] (by decide +kernel) (pc' := 282) (ls' := [(2, Int.ofNat o)]) (st' := [(0, 115), (0, 3), (2, Int.ofNat (o + 10)), (2, Int.ofNat (o + 10)), (2, Int.ofNat o)]) rfl ?_
  refine jEv.asd (jlA l9) (Or.inr ⟨rfl, rfl, rfl⟩) (show jfI 200 282 (.castore) 1 [] = true by decide +kernel) (by decide) (by decide +kernel) ?_
  refine jEv.blk [(.dup, 1, []), (.iconst 4, 1, []), (.bipush 101, 2, [])] (by decide +kernel) (pc' := 287) (ls' := [(2, Int.ofNat o)]) (st' := [(0, 101), (0, 4), (2, Int.ofNat (o + 10)), (2, Int.ofNat (o + 10)), (2, Int.ofNat o)]) rfl ?_
  refine jEv.asd (jlA l9) (Or.inr ⟨rfl, rfl, rfl⟩) (show jfI 200 287 (.castore) 1 [] = true by decide +kernel) (by decide) (by decide +kernel) ?_
  refine jEv.pfR (jlP _ (jlP _ (jlP _ (jlP _ (jlP _ (jlP _ (jlP _ (jlP _ (jlP _ (jlP _ ho)))))))))) (show jfI 200 288 (.putfield 42) 3 [12, 18, 5, 0, 7054] = true by decide +kernel) (by decide) ?_
  refine jEv.blk [(.aload_n 0, 1, []), (.iconst 4, 1, [])] (by decide +kernel) (pc' := 293) (ls' := [(2, Int.ofNat o)]) (st' := [(0, 4), (2, Int.ofNat o)]) rfl ?_
  refine jEv.nwA (n := 4) l10 (show jfI 200 293 (.newarray .char) 2 [23] = true by decide +kernel) (by decide) rfl ?_
  have l11 := jlN (23, 4) l10
  refine jEv.blk [(.dup, 1, []), (.iconst 0, 1, []), (.bipush 116, 2, [])] (by decide +kernel) (pc' := 299) (ls' := [(2, Int.ofNat o)]) (st' := [(0, 116), (0, 0), (2, Int.ofNat (o + 11)), (2, Int.ofNat (o + 11)), (2, Int.ofNat o)]) rfl ?_
  refine jEv.asd (jlA l10) (Or.inr ⟨rfl, rfl, rfl⟩) (show jfI 200 299 (.castore) 1 [] = true by decide +kernel) (by decide) (by decide +kernel) ?_
  refine jEv.blk [(.dup, 1, []), (.iconst 1, 1, []), (.bipush 105, 2, [])] (by decide +kernel) (pc' := 304) (ls' := [(2, Int.ofNat o)]) (st' := [(0, 105), (0, 1), (2, Int.ofNat (o + 11)), (2, Int.ofNat (o + 11)), (2, Int.ofNat o)]) rfl ?_
  refine jEv.asd (jlA l10) (Or.inr ⟨rfl, rfl, rfl⟩) (show jfI 200 304 (.castore) 1 [] = true by decide +kernel) (by decide) (by decide +kernel) ?_
  refine jEv.blk [(.dup, 1, []), (.iconst 2, 1, []), (.bipush 99, 2, [])] (by decide +kernel) (pc' := 309) (ls' := [(2, Int.ofNat o)]) (st' := [(0, 99), (0, 2), (2, Int.ofNat (o + 11)), (2, Int.ofNat (o + 11)), (2, Int.ofNat o)]) rfl ?_
  refine jEv.asd (jlA l10) (Or.inr ⟨rfl, rfl, rfl⟩) (show jfI 200 309 (.castore) 1 [] = true by decide +kernel) (by decide) (by decide +kernel) ?_
  refine jEv.blk [(.dup, 1, []), (.iconst 3, 1, []), (.bipush 107, 2, [])] (by decide +kernel) (pc' := 314) (ls' := [(2, Int.ofNat o)]) (st' := [(0, 107), (0, 3), (2, Int.ofNat (o + 11)), (2, Int.ofNat (o + 11)), (2, Int.ofNat o)]) rfl ?_
  refine jEv.asd (jlA l10) (Or.inr ⟨rfl, rfl, rfl⟩) (show jfI 200 314 (.castore) 1 [] = true by decide +kernel) (by decide) (by decide +kernel) ?_
  refine jEv.pfR (jlP _ (jlP _ (jlP _ (jlP _ (jlP _ (jlP _ (jlP _ (jlP _ (jlP _ (jlP _ (jlP _ ho))))))))))) (show jfI 200 315 (.putfield 45) 3 [12, 19, 5, 0, 7055] = true by decide +kernel) (by decide) ?_
  refine jEv.blk [(.aload_n 0, 1, []), (.bipush 7, 2, [])] (by decide +kernel) (pc' := 321) (ls' := [(2, Int.ofNat o)]) (st' := [(0, 7), (2, Int.ofNat o)]) rfl ?_
  refine jEv.nwA (n := 7) l11 (show jfI 200 321 (.newarray .char) 2 [23] = true by decide +kernel) (by decide) rfl ?_
  have l12 := jlN (23, 7) l11
  refine jEv.blk [(.dup, 1, []), (.iconst 0, 1, []), (.bipush 114, 2, [])] (by decide +kernel) (pc' := 327) (ls' := [(2, Int.ofNat o)]) (st' := [(0, 114), (0, 0), (2, Int.ofNat (o + 12)), (2, Int.ofNat (o + 12)), (2, Int.ofNat o)]) rfl ?_
  refine jEv.asd (jlA l11) (Or.inr ⟨rfl, rfl, rfl⟩) (show jfI 200 327 (.castore) 1 [] = true by decide +kernel) (by decide) (by decide +kernel) ?_
  refine jEv.blk [(.dup, 1, []), (.iconst 1, 1, []), (.bipush 101, 2, [])] (by decide +kernel) (pc' := 332) (ls' := [(2, Int.ofNat o)]) (st' := [(0, 101), (0, 1), (2, Int.ofNat (o + 12)), (2, Int.ofNat (o + 12)), (2, Int.ofNat o)]) rfl ?_
  refine jEv.asd (jlA l11) (Or.inr ⟨rfl, rfl, rfl⟩) (show jfI 200 332 (.castore) 1 [] = true by decide +kernel) (by decide) (by decide +kernel) ?_
  refine jEv.blk [(.dup, 1, []), (.iconst 2, 1, []), (.bipush 99, 2, [])] (by decide +kernel) (pc' := 337) (ls' := [(2, Int.ofNat o)]) (st' := [(0, 99), (0, 2), (2, Int.ofNat (o + 12)), (2, Int.ofNat (o + 12)), (2, Int.ofNat o)]) rfl ?_
  refine jEv.asd (jlA l11) (Or.inr ⟨rfl, rfl, rfl⟩) (show jfI 200 337 (.castore) 1 [] = true by decide +kernel) (by decide) (by decide +kernel) ?_
  refine jEv.blk [(.dup, 1, []), (.iconst 3, 1, []), (.bipush 111, 2, [])] (by decide +kernel) (pc' := 342) (ls' := [(2, Int.ofNat o)]) (st' := [(0, 111), (0, 3), (2, Int.ofNat (o + 12)), (2, Int.ofNat (o + 12)), (2, Int.ofNat o)]) rfl ?_
  refine jEv.asd (jlA l11) (Or.inr ⟨rfl, rfl, rfl⟩) (show jfI 200 342 (.castore) 1 [] = true by decide +kernel) (by decide) (by decide +kernel) ?_
  refine jEv.blk [(.dup, 1, []), (.iconst 4, 1, []), (.bipush 114, 2, [])] (by decide +kernel) (pc' := 347) (ls' := [(2, Int.ofNat o)]) (st' := [(0, 114), (0, 4), (2, Int.ofNat (o + 12)), (2, Int.ofNat (o + 12)), (2, Int.ofNat o)]) rfl ?_
  refine jEv.asd (jlA l11) (Or.inr ⟨rfl, rfl, rfl⟩) (show jfI 200 347 (.castore) 1 [] = true by decide +kernel) (by decide) (by decide +kernel) ?_
  refine jEv.blk [(.dup, 1, []), (.iconst 5, 1, []), (.bipush 100, 2, [])] (by decide +kernel) (pc' := 352) (ls' := [(2, Int.ofNat o)]) (st' := [(0, 100), (0, 5), (2, Int.ofNat (o + 12)), (2, Int.ofNat (o + 12)), (2, Int.ofNat o)]) rfl ?_
  refine jEv.asd (jlA l11) (Or.inr ⟨rfl, rfl, rfl⟩) (show jfI 200 352 (.castore) 1 [] = true by decide +kernel) (by decide) (by decide +kernel) ?_
  refine jEv.blk [(.dup, 1, []), (.bipush 6, 2, []), (.bipush 115, 2, [])] (by decide +kernel) (pc' := 358) (ls' := [(2, Int.ofNat o)]) (st' := [(0, 115), (0, 6), (2, Int.ofNat (o + 12)), (2, Int.ofNat (o + 12)), (2, Int.ofNat o)]) rfl ?_
  refine jEv.asd (jlA l11) (Or.inr ⟨rfl, rfl, rfl⟩) (show jfI 200 358 (.castore) 1 [] = true by decide +kernel) (by decide) (by decide +kernel) ?_
  refine jEv.pfR (jlP _ (jlP _ (jlP _ (jlP _ (jlP _ (jlP _ (jlP _ (jlP _ (jlP _ (jlP _ (jlP _ (jlP _ ho)))))))))))) (show jfI 200 359 (.putfield 48) 3 [12, 20, 5, 0, 7056] = true by decide +kernel) (by decide) ?_
  refine jEv.blk [(.aload_n 0, 1, []), (.bipush 7, 2, [])] (by decide +kernel) (pc' := 365) (ls' := [(2, Int.ofNat o)]) (st' := [(0, 7), (2, Int.ofNat o)]) rfl ?_
  refine jEv.nwA (n := 7) l12 (show jfI 200 365 (.newarray .char) 2 [23] = true by decide +kernel) (by decide) rfl ?_
  have l13 := jlN (23, 7) l12
  refine jEv.blk [(.dup, 1, []), (.iconst 0, 1, []), (.bipush 112, 2, [])] (by decide +kernel) (pc' := 371) (ls' := [(2, Int.ofNat o)]) (st' := [(0, 112), (0, 0), (2, Int.ofNat (o + 13)), (2, Int.ofNat (o + 13)), (2, Int.ofNat o)]) rfl ?_
  refine jEv.asd (jlA l12) (Or.inr ⟨rfl, rfl, rfl⟩) (show jfI 200 371 (.castore) 1 [] = true by decide +kernel) (by decide) (by decide +kernel) ?_
  refine jEv.blk [(.dup, 1, []), (.iconst 1, 1, []), (.bipush 97, 2, [])] (by decide +kernel) (pc' := 376) (ls' := [(2, Int.ofNat o)]) (st' := [(0, 97), (0, 1), (2, Int.ofNat (o + 13)), (2, Int.ofNat (o + 13)), (2, Int.ofNat o)]) rfl ?_
  refine jEv.asd (jlA l12) (Or.inr ⟨rfl, rfl, rfl⟩) (show jfI 200 376 (.castore) 1 [] = true by decide +kernel) (by decide) (by decide +kernel) ?_
  refine jEv.blk [(.dup, 1, []), (.iconst 2, 1, []), (.bipush 121, 2, [])] (by decide +kernel) (pc' := 381) (ls' := [(2, Int.ofNat o)]) (st' := [(0, 121), (0, 2), (2, Int.ofNat (o + 13)), (2, Int.ofNat (o + 13)), (2, Int.ofNat o)]) rfl ?_
  refine jEv.asd (jlA l12) (Or.inr ⟨rfl, rfl, rfl⟩) (show jfI 200 381 (.castore) 1 [] = true by decide +kernel) (by decide) (by decide +kernel) ?_
  refine jEv.blk [(.dup, 1, []), (.iconst 3, 1, []), (.bipush 108, 2, [])] (by decide +kernel) (pc' := 386) (ls' := [(2, Int.ofNat o)]) (st' := [(0, 108), (0, 3), (2, Int.ofNat (o + 13)), (2, Int.ofNat (o + 13)), (2, Int.ofNat o)]) rfl ?_
  refine jEv.asd (jlA l12) (Or.inr ⟨rfl, rfl, rfl⟩) (show jfI 200 386 (.castore) 1 [] = true by decide +kernel) (by decide) (by decide +kernel) ?_
  refine jEv.blk [(.dup, 1, []), (.iconst 4, 1, []), (.bipush 111, 2, [])] (by decide +kernel) (pc' := 391) (ls' := [(2, Int.ofNat o)]) (st' := [(0, 111), (0, 4), (2, Int.ofNat (o + 13)), (2, Int.ofNat (o + 13)), (2, Int.ofNat o)]) rfl ?_
  refine jEv.asd (jlA l12) (Or.inr ⟨rfl, rfl, rfl⟩) (show jfI 200 391 (.castore) 1 [] = true by decide +kernel) (by decide) (by decide +kernel) ?_
  refine jEv.blk [(.dup, 1, []), (.iconst 5, 1, []), (.bipush 97, 2, [])] (by decide +kernel) (pc' := 396) (ls' := [(2, Int.ofNat o)]) (st' := [(0, 97), (0, 5), (2, Int.ofNat (o + 13)), (2, Int.ofNat (o + 13)), (2, Int.ofNat o)]) rfl ?_
  refine jEv.asd (jlA l12) (Or.inr ⟨rfl, rfl, rfl⟩) (show jfI 200 396 (.castore) 1 [] = true by decide +kernel) (by decide) (by decide +kernel) ?_
  refine jEv.blk [(.dup, 1, []), (.bipush 6, 2, []), (.bipush 100, 2, [])] (by decide +kernel) (pc' := 402) (ls' := [(2, Int.ofNat o)]) (st' := [(0, 100), (0, 6), (2, Int.ofNat (o + 13)), (2, Int.ofNat (o + 13)), (2, Int.ofNat o)]) rfl ?_
  refine jEv.asd (jlA l12) (Or.inr ⟨rfl, rfl, rfl⟩) (show jfI 200 402 (.castore) 1 [] = true by decide +kernel) (by decide) (by decide +kernel) ?_
  refine jEv.pfR (jlP _ (jlP _ (jlP _ (jlP _ (jlP _ (jlP _ (jlP _ (jlP _ (jlP _ (jlP _ (jlP _ (jlP _ (jlP _ ho))))))))))))) (show jfI 200 403 (.putfield 51) 3 [12, 21, 5, 0, 7057] = true by decide +kernel) (by decide) ?_
  refine jEv.blk [(.aload_n 0, 1, []), (.iconst 3, 1, [])] (by decide +kernel) (pc' := 408) (ls' := [(2, Int.ofNat o)]) (st' := [(0, 3), (2, Int.ofNat o)]) rfl ?_
  refine jEv.nwA (n := 3) l13 (show jfI 200 408 (.newarray .char) 2 [23] = true by decide +kernel) (by decide) rfl ?_
  have l14 := jlN (23, 3) l13
  refine jEv.blk [(.dup, 1, []), (.iconst 0, 1, []), (.bipush 97, 2, [])] (by decide +kernel) (pc' := 414) (ls' := [(2, Int.ofNat o)]) (st' := [(0, 97), (0, 0), (2, Int.ofNat (o + 14)), (2, Int.ofNat (o + 14)), (2, Int.ofNat o)]) rfl ?_
  refine jEv.asd (jlA l13) (Or.inr ⟨rfl, rfl, rfl⟩) (show jfI 200 414 (.castore) 1 [] = true by decide +kernel) (by decide) (by decide +kernel) ?_
  refine jEv.blk [(.dup, 1, []), (.iconst 1, 1, []), (.bipush 103, 2, [])] (by decide +kernel) (pc' := 419) (ls' := [(2, Int.ofNat o)]) (st' := [(0, 103), (0, 1), (2, Int.ofNat (o + 14)), (2, Int.ofNat (o + 14)), (2, Int.ofNat o)]) rfl ?_
  refine jEv.asd (jlA l13) (Or.inr ⟨rfl, rfl, rfl⟩) (show jfI 200 419 (.castore) 1 [] = true by decide +kernel) (by decide) (by decide +kernel) ?_
  refine jEv.blk [(.dup, 1, []), (.iconst 2, 1, []), (.bipush 101, 2, [])] (by decide +kernel) (pc' := 424) (ls' := [(2, Int.ofNat o)]) (st' := [(0, 101), (0, 2), (2, Int.ofNat (o + 14)), (2, Int.ofNat (o + 14)), (2, Int.ofNat o)]) rfl ?_
  refine jEv.asd (jlA l13) (Or.inr ⟨rfl, rfl, rfl⟩) (show jfI 200 424 (.castore) 1 [] = true by decide +kernel) (by decide) (by decide +kernel) ?_
  refine jEv.pfR (jlP _ (jlP _ (jlP _ (jlP _ (jlP _ (jlP _ (jlP _ (jlP _ (jlP _ (jlP _ (jlP _ (jlP _ (jlP _ (jlP _ ho)))))))))))))) (show jfI 200 425 (.putfield 54) 3 [12, 22, 5, 0, 7058] = true by decide +kernel) (by decide) ?_
  refine jEv.blk [(.aload_n 0, 1, []), (.bipush 7, 2, [])] (by decide +kernel) (pc' := 431) (ls' := [(2, Int.ofNat o)]) (st' := [(0, 7), (2, Int.ofNat o)]) rfl ?_
  refine jEv.nwA (n := 7) l14 (show jfI 200 431 (.newarray .char) 2 [23] = true by decide +kernel) (by decide) rfl ?_
  have l15 := jlN (23, 7) l14
  refine jEv.blk [(.dup, 1, []), (.iconst 0, 1, []), (.bipush 119, 2, [])] (by decide +kernel) (pc' := 437) (ls' := [(2, Int.ofNat o)]) (st' := [(0, 119), (0, 0), (2, Int.ofNat (o + 15)), (2, Int.ofNat (o + 15)), (2, Int.ofNat o)]) rfl ?_
  refine jEv.asd (jlA l14) (Or.inr ⟨rfl, rfl, rfl⟩) (show jfI 200 437 (.castore) 1 [] = true by decide +kernel) (by decide) (by decide +kernel) ?_
  refine jEv.blk [(.dup, 1, []), (.iconst 1, 1, []), (.bipush 97, 2, [])] (by decide +kernel) (pc' := 442) (ls' := [(2, Int.ofNat o)]) (st' := [(0, 97), (0, 1), (2, Int.ofNat (o + 15)), (2, Int.ofNat (o + 15)), (2, Int.ofNat o)]) rfl ?_
  refine jEv.asd (jlA l14) (Or.inr ⟨rfl, rfl, rfl⟩) (show jfI 200 442 (.castore) 1 [] = true by decide +kernel) (by decide) (by decide +kernel) ?_
  refine jEv.blk [(.dup, 1, []), (.iconst 2, 1, []), (.bipush 105, 2, [])] (by decide +kernel) (pc' := 447) (ls' := [(2, Int.ofNat o)]) (st' := [(0, 105), (0, 2), (2, Int.ofNat (o + 15)), (2, Int.ofNat (o + 15)), (2, Int.ofNat o)]) rfl ?_
  refine jEv.asd (jlA l14) (Or.inr ⟨rfl, rfl, rfl⟩) (show jfI 200 447 (.castore) 1 [] = true by decide +kernel) (by decide) (by decide +kernel) ?_
  refine jEv.blk [(.dup, 1, []), (.iconst 3, 1, []), (.bipush 116, 2, [])] (by decide +kernel) (pc' := 452) (ls' := [(2, Int.ofNat o)]) (st' := [(0, 116), (0, 3), (2, Int.ofNat (o + 15)), (2, Int.ofNat (o + 15)), (2, Int.ofNat o)]) rfl ?_
  refine jEv.asd (jlA l14) (Or.inr ⟨rfl, rfl, rfl⟩) (show jfI 200 452 (.castore) 1 [] = true by decide +kernel) (by decide) (by decide +kernel) ?_
  refine jEv.blk [(.dup, 1, []), (.iconst 4, 1, []), (.bipush 101, 2, [])] (by decide +kernel) (pc' := 457) (ls' := [(2, Int.ofNat o)]) (st' := [(0, 101), (0, 4), (2, Int.ofNat (o + 15)), (2, Int.ofNat (o + 15)), (2, Int.ofNat o)]) rfl ?_
  refine jEv.asd (jlA l14) (Or.inr ⟨rfl, rfl, rfl⟩) (show jfI 200 457 (.castore) 1 [] = true by decide +kernel) (by decide) (by decide +kernel) ?_
  refine jEv.blk [(.dup, 1, []), (.iconst 5, 1, []), (.bipush 114, 2, [])] (by decide +kernel) (pc' := 462) (ls' := [(2, Int.ofNat o)]) (st' := [(0, 114), (0, 5), (2, Int.ofNat (o + 15)), (2, Int.ofNat (o + 15)), (2, Int.ofNat o)]) rfl ?_
  refine jEv.asd (jlA l14) (Or.inr ⟨rfl, rfl, rfl⟩) (show jfI 200 462 (.castore) 1 [] = true by decide +kernel) (by decide) (by decide +kernel) ?_
  refine jEv.blk [(.dup, 1, []), (.bipush 6, 2, []), (.bipush 115, 2, [])] (by decide +kernel) (pc' := 468) (ls' := [(2, Int.ofNat o)]) (st' := [(0, 115), (0, 6), (2, Int.ofNat (o + 15)), (2, Int.ofNat (o + 15)), (2, Int.ofNat o)]) rfl ?_
  refine jEv.asd (jlA l14) (Or.inr ⟨rfl, rfl, rfl⟩) (show jfI 200 468 (.castore) 1 [] = true by decide +kernel) (by decide) (by decide +kernel) ?_
  refine jEv.pfR (jlP _ (jlP _ (jlP _ (jlP _ (jlP _ (jlP _ (jlP _ (jlP _ (jlP _ (jlP _ (jlP _ (jlP _ (jlP _ (jlP _ (jlP _ ho))))))))))))))) (show jfI 200 469 (.putfield 57) 3 [12, 23, 5, 0, 7059] = true by decide +kernel) (by decide) ?_
  refine jEv.blk [(.aload_n 0, 1, []), (.bipush 6, 2, [])] (by decide +kernel) (pc' := 475) (ls' := [(2, Int.ofNat o)]) (st' := [(0, 6), (2, Int.ofNat o)]) rfl ?_
  refine jEv.nwA (n := 6) l15 (show jfI 200 475 (.newarray .char) 2 [23] = true by decide +kernel) (by decide) rfl ?_
  have l16 := jlN (23, 6) l15
  refine jEv.blk [(.dup, 1, []), (.iconst 0, 1, []), (.bipush 110, 2, [])] (by decide +kernel) (pc' := 481) (ls' := [(2, Int.ofNat o)]) (st' := [(0, 110), (0, 0), (2, Int.ofNat (o + 16)), (2, Int.ofNat (o + 16)), (2, Int.ofNat o)]) rfl ?_
  refine jEv.asd (jlA l15) (Or.inr ⟨rfl, rfl, rfl⟩) (show jfI 200 481 (.castore) 1 [] = true by decide +kernel) (by decide) (by decide +kernel) ?_
  refine jEv.blk [(.dup, 1, []), (.iconst 1, 1, []), (.bipush 117, 2, [])] (by decide +kernel) (pc' := 486) (ls' := [(2, Int.ofNat o)]) (st' := [(0, 117), (0, 1), (2, Int.ofNat (o + 16)), (2, Int.ofNat (o + 16)), (2, Int.ofNat o)]) rfl ?_
  refine jEv.asd (jlA l15) (Or.inr ⟨rfl, rfl, rfl⟩) (show jfI 200 486 (.castore) 1 [] = true by decide +kernel) (by decide) (by decide +kernel) ?_
  refine jEv.blk [(.dup, 1, []), (.iconst 2, 1, []), (.bipush 109, 2, [])] (by decide +kernel) (pc' := 491) (ls' := [(2, Int.ofNat o)]) (st' := [(0, 109), (0, 2), (2, Int.ofNat (o + 16)), (2, Int.ofNat (o + 16)), (2, Int.ofNat o)]) rfl ?_
  refine jEv.asd (jlA l15) (Or.inr ⟨rfl, rfl, rfl⟩) (show jfI 200 491 (.castore) 1 [] = true by decide +kernel) (by decide) (by decide +kernel) ?_
  refine jEv.blk [(.dup, 1, []), (.iconst 3, 1, []), (.bipush 98, 2, [])] (by decide +kernel) (pc' := 496) (ls' := [(2, Int.ofNat o)]) (st' := [(0, 98), (0, 3), (2, Int.ofNat (o + 16)), (2, Int.ofNat (o + 16)), (2, Int.ofNat o)]) rfl ?_
  refine jEv.asd (jlA l15) (Or.inr ⟨rfl, rfl, rfl⟩) (show jfI 200 496 (.castore) 1 [] = true by decide +kernel) (by decide) (by decide +kernel) ?_
  refine jEv.blk [(.dup, 1, []), (.iconst 4, 1, []), (.bipush 101, 2, [])] (by decide +kernel) (pc' := 501) (ls' := [(2, Int.ofNat o)]) (st' := [(0, 101), (0, 4), (2, Int.ofNat (o + 16)), (2, Int.ofNat (o + 16)), (2, Int.ofNat o)]) rfl ?_
  refine jEv.asd (jlA l15) (Or.inr ⟨rfl, rfl, rfl⟩) (show jfI 200 501 (.castore) 1 [] = true by decide +kernel) (by decide) (by decide +kernel) ?_
  refine jEv.blk [(.dup, 1, []), (.iconst 5, 1, []), (.bipush 114, 2, [])] (by decide +kernel) (pc' := 506) (ls' := [(2, Int.ofNat o)]) (st' := [(0, 114), (0, 5), (2, Int.ofNat (o + 16)), (2, Int.ofNat (o + 16)), (2, Int.ofNat o)]) rfl ?_
  refine jEv.asd (jlA l15) (Or.inr ⟨rfl, rfl, rfl⟩) (show jfI 200 506 (.castore) 1 [] = true by decide +kernel) (by decide) (by decide +kernel) ?_
  refine jEv.pfR (jlP _ (jlP _ (jlP _ (jlP _ (jlP _ (jlP _ (jlP _ (jlP _ (jlP _ (jlP _ (jlP _ (jlP _ (jlP _ (jlP _ (jlP _ (jlP _ ho)))))))))))))))) (show jfI 200 507 (.putfield 60) 3 [12, 24, 5, 0, 7060] = true by decide +kernel) (by decide) ?_
  refine jEv.blk [(.aload_n 0, 1, []), (.bipush 6, 2, [])] (by decide +kernel) (pc' := 513) (ls' := [(2, Int.ofNat o)]) (st' := [(0, 6), (2, Int.ofNat o)]) rfl ?_
  refine jEv.nwA (n := 6) l16 (show jfI 200 513 (.newarray .char) 2 [23] = true by decide +kernel) (by decide) rfl ?_
  have l17 := jlN (23, 6) l16
  refine jEv.blk [(.dup, 1, []), (.iconst 0, 1, []), (.bipush 115, 2, [])] (by decide +kernel) (pc' := 519) (ls' := [(2, Int.ofNat o)]) (st' := [(0, 115), (0, 0), (2, Int.ofNat (o + 17)), (2, Int.ofNat (o + 17)), (2, Int.ofNat o)]) rfl ?_
  refine jEv.asd (jlA l16) (Or.inr ⟨rfl, rfl, rfl⟩) (show jfI 200 519 (.castore) 1 [] = true by decide +kernel) (by decide) (by decide +kernel) ?_
  refine jEv.blk [(.dup, 1, []), (.iconst 1, 1, []), (.bipush 101, 2, [])] (by decide +kernel) (pc' := 524) (ls' := [(2, Int.ofNat o)]) (st' := [(0, 101), (0, 1), (2, Int.ofNat (o + 17)), (2, Int.ofNat (o + 17)), (2, Int.ofNat o)]) rfl ?_
  refine jEv.asd (jlA l16) (Or.inr ⟨rfl, rfl, rfl⟩) (show jfI 200 524 (.castore) 1 [] = true by decide +kernel) (by decide) (by decide +kernel) ?_
  refine jEv.blk [(.dup, 1, []), (.iconst 2, 1, []), (.bipush 114, 2, [])] (by decide +kernel) (pc' := 529) (ls' := [(2, Int.ofNat o)]) (st' := [(0, 114), (0, 2), (2, Int.ofNat (o + 17)), (2, Int.ofNat (o + 17)), (2, Int.ofNat o)]) rfl ?_
  refine jEv.asd (jlA l16) (Or.inr ⟨rfl, rfl, rfl⟩) (show jfI 200 529 (.castore) 1 [] = true by decide +kernel) (by decide) (by decide +kernel) ?_
  refine jEv.blk [(.dup, 1, []), (.iconst 3, 1, []), (.bipush 105, 2, [])] (by decide +kernel) (pc' := 534) (ls' := [(2, Int.ofNat o)]) (st' := [(0, 105), (0, 3), (2, Int.ofNat (o + 17)), (2, Int.ofNat (o + 17)), (2, Int.ofNat o)]) rfl ?_
  refine jEv.asd (jlA l16) (Or.inr ⟨rfl, rfl, rfl⟩) (show jfI 200 534 (.castore) 1 [] = true by decide +kernel) (by decide) (by decide +kernel) ?_
  refine jEv.blk [(.dup, 1, []), (.iconst 4, 1, []), (.bipush 97, 2, [])] (by decide +kernel) (pc' := 539) (ls' := [(2, Int.ofNat o)]) (st' := [(0, 97), (0, 4), (2, Int.ofNat (o + 17)), (2, Int.ofNat (o + 17)), (2, Int.ofNat o)]) rfl ?_
  refine jEv.asd (jlA l16) (Or.inr ⟨rfl, rfl, rfl⟩) (show jfI 200 539 (.castore) 1 [] = true by decide +kernel) (by decide) (by decide +kernel) ?_
  refine jEv.blk [(.dup, 1, []), (.iconst 5, 1, []), (.bipush 108, 2, [])] (by decide +kernel) (pc' := 544) (ls' := [(2, Int.ofNat o)]) (st' := [(0, 108), (0, 5), (2, Int.ofNat (o + 17)), (2, Int.ofNat (o + 17)), (2, Int.ofNat o)]) rfl ?_
  refine jEv.asd (jlA l16) (Or.inr ⟨rfl, rfl, rfl⟩) (show jfI 200 544 (.castore) 1 [] = true by decide +kernel) (by decide) (by decide +kernel) ?_
  refine jEv.pfR (jlP _ (jlP _ (jlP _ (jlP _ (jlP _ (jlP _ (jlP _ (jlP _ (jlP _ (jlP _ (jlP _ (jlP _ (jlP _ (jlP _ (jlP _ (jlP _ (jlP _ ho))))))))))))))))) (show jfI 200 545 (.putfield 63) 3 [12, 25, 5, 0, 7061] = true by decide +kernel) (by decide) ?_
  refine jEv.blk [(.aload_n 0, 1, []), (.iconst 5, 1, [])] (by decide +kernel) (pc' := 550) (ls' := [(2, Int.ofNat o)]) (st' := [(0, 5), (2, Int.ofNat o)]) rfl ?_
  refine jEv.nwA (n := 5) l17 (show jfI 200 550 (.newarray .char) 2 [23] = true by decide +kernel) (by decide) rfl ?_
  have l18 := jlN (23, 5) l17
  refine jEv.blk [(.dup, 1, []), (.iconst 0, 1, []), (.bipush 102, 2, [])] (by decide +kernel) (pc' := 556) (ls' := [(2, Int.ofNat o)]) (st' := [(0, 102), (0, 0), (2, Int.ofNat (o + 18)), (2, Int.ofNat (o + 18)), (2, Int.ofNat o)]) rfl ?_
  refine jEv.asd (jlA l17) (Or.inr ⟨rfl, rfl, rfl⟩) (show jfI 200 556 (.castore) 1 [] = true by decide +kernel) (by decide) (by decide +kernel) ?_
  refine jEv.blk [(.dup, 1, []), (.iconst 1, 1, []), (.bipush 105, 2, [])] (by decide +kernel) (pc' := 561) (ls' := [(2, Int.ofNat o)]) (st' := [(0, 105), (0, 1), (2, Int.ofNat (o + 18)), (2, Int.ofNat (o + 18)), (2, Int.ofNat o)]) rfl ?_
  refine jEv.asd (jlA l17) (Or.inr ⟨rfl, rfl, rfl⟩) (show jfI 200 561 (.castore) 1 [] = true by decide +kernel) (by decide) (by decide +kernel) ?_
  refine jEv.blk [(.dup, 1, []), (.iconst 2, 1, []), (.bipush 114, 2, [])] (by decide +kernel) (pc' := 566) (ls' := [(2, Int.ofNat o)]) (st' := [(0, 114), (0, 2), (2, Int.ofNat (o + 18)), (2, Int.ofNat (o + 18)), (2, Int.ofNat o)]) rfl ?_
  refine jEv.asd (jlA l17) (Or.inr ⟨rfl, rfl, rfl⟩) (show jfI 200 566 (.castore) 1 [] = true by decide +kernel) (by decide) (by decide +kernel) ?_
  refine jEv.blk [(.dup, 1, []), (.iconst 3, 1, []), (.bipush 115, 2, [])] (by decide +kernel) (pc' := 571) (ls' := [(2, Int.ofNat o)]) (st' := [(0, 115), (0, 3), (2, Int.ofNat (o + 18)), (2, Int.ofNat (o + 18)), (2, Int.ofNat o)]) rfl ?_
  refine jEv.asd (jlA l17) (Or.inr ⟨rfl, rfl, rfl⟩) (show jfI 200 571 (.castore) 1 [] = true by decide +kernel) (by decide) (by decide +kernel) ?_
  refine jEv.blk [(.dup, 1, []), (.iconst 4, 1, []), (.bipush 116, 2, [])] (by decide +kernel) (pc' := 576) (ls' := [(2, Int.ofNat o)]) (st' := [(0, 116), (0, 4), (2, Int.ofNat (o + 18)), (2, Int.ofNat (o + 18)), (2, Int.ofNat o)]) rfl ?_
  refine jEv.asd (jlA l17) (Or.inr ⟨rfl, rfl, rfl⟩) (show jfI 200 576 (.castore) 1 [] = true by decide +kernel) (by decide) (by decide +kernel) ?_
  refine jEv.pfR (jlP _ (jlP _ (jlP _ (jlP _ (jlP _ (jlP _ (jlP _ (jlP _ (jlP _ (jlP _ (jlP _ (jlP _ (jlP _ (jlP _ (jlP _ (jlP _ (jlP _ (jlP _ ho)))))))))))))))))) (show jfI 200 577 (.putfield 66) 3 [12, 26, 5, 0, 7062] = true by decide +kernel) (by decide) ?_
  refine jEv.blk [(.aload_n 0, 1, []), (.bipush 6, 2, [])] (by decide +kernel) (pc' := 583) (ls' := [(2, Int.ofNat o)]) (st' := [(0, 6), (2, Int.ofNat o)]) rfl ?_
  refine jEv.nwA (n := 6) l18 (show jfI 200 583 (.newarray .char) 2 [23] = true by decide +kernel) (by decide) rfl ?_
  have l19 := jlN (23, 6) l18
  refine jEv.blk [(.dup, 1, []), (.iconst 0, 1, []), (.bipush 102, 2, [])] (by decide +kernel) (pc' := 589) (ls' := [(2, Int.ofNat o)]) (st' := [(0, 102), (0, 0), (2, Int.ofNat (o + 19)), (2, Int.ofNat (o + 19)), (2, Int.ofNat o)]) rfl ?_
  refine jEv.asd (jlA l18) (Or.inr ⟨rfl, rfl, rfl⟩) (show jfI 200 589 (.castore) 1 [] = true by decide +kernel) (by decide) (by decide +kernel) ?_
  refine jEv.blk [(.dup, 1, []), (.iconst 1, 1, []), (.bipush 114, 2, [])] (by decide +kernel) (pc' := 594) (ls' := [(2, Int.ofNat o)]) (st' := [(0, 114), (0, 1), (2, Int.ofNat (o + 19)), (2, Int.ofNat (o + 19)), (2, Int.ofNat o)]) rfl ?_
  refine jEv.asd (jlA l18) (Or.inr ⟨rfl, rfl, rfl⟩) (show jfI 200 594 (.castore) 1 [] = true by decide +kernel) (by decide) (by decide +kernel) ?_
  refine jEv.blk [(.dup, 1, []), (.iconst 2, 1, []), (.bipush 97, 2, [])] (by decide +kernel) (pc' := 599) (ls' := [(2, Int.ofNat o)]) (st' := [(0, 97), (0, 2), (2, Int.ofNat (o + 19)), (2, Int.ofNat (o + 19)), (2, Int.ofNat o)]) rfl ?_
  refine jEv.asd (jlA l18) (Or.inr ⟨rfl, rfl, rfl⟩) (show jfI 200 599 (.castore) 1 [] = true by decide +kernel) (by decide) (by decide +kernel) ?_
  refine jEv.blk [(.dup, 1, []), (.iconst 3, 1, []), (.bipush 109, 2, [])] (by decide +kernel) (pc' := 604) (ls' := [(2, Int.ofNat o)]) (st' := [(0, 109), (0, 3), (2, Int.ofNat (o + 19)), (2, Int.ofNat (o + 19)), (2, Int.ofNat o)]) rfl ?_
  refine jEv.asd (jlA l18) (Or.inr ⟨rfl, rfl, rfl⟩) (show jfI 200 604 (.castore) 1 [] = true by decide +kernel) (by decide) (by decide +kernel) ?_
  refine jEv.blk [(.dup, 1, []), (.iconst 4, 1, []), (.bipush 101, 2, [])] (by decide +kernel) (pc' := 609) (ls' := [(2, Int.ofNat o)]) (st' := [(0, 101), (0, 4), (2, Int.ofNat (o + 19)), (2, Int.ofNat (o + 19)), (2, Int.ofNat o)]) rfl ?_
  refine jEv.asd (jlA l18) (Or.inr ⟨rfl, rfl, rfl⟩) (show jfI 200 609 (.castore) 1 [] = true by decide +kernel) (by decide) (by decide +kernel) ?_
  refine jEv.blk [(.dup, 1, []), (.iconst 5, 1, []), (.bipush 115, 2, [])] (by decide +kernel) (pc' := 614) (ls' := [(2, Int.ofNat o)]) (st' := [(0, 115), (0, 5), (2, Int.ofNat (o + 19)), (2, Int.ofNat (o + 19)), (2, Int.ofNat o)]) rfl ?_
  refine jEv.asd (jlA l18) (Or.inr ⟨rfl, rfl, rfl⟩) (show jfI 200 614 (.castore) 1 [] = true by decide +kernel) (by decide) (by decide +kernel) ?_
  refine jEv.pfR (jlP _ (jlP _ (jlP _ (jlP _ (jlP _ (jlP _ (jlP _ (jlP _ (jlP _ (jlP _ (jlP _ (jlP _ (jlP _ (jlP _ (jlP _ (jlP _ (jlP _ (jlP _ (jlP _ ho))))))))))))))))))) (show jfI 200 615 (.putfield 69) 3 [12, 27, 5, 0, 7063] = true by decide +kernel) (by decide) ?_
  refine jEv.blk [(.aload_n 0, 1, []), (.iconst 5, 1, [])] (by decide +kernel) (pc' := 620) (ls' := [(2, Int.ofNat o)]) (st' := [(0, 5), (2, Int.ofNat o)]) rfl ?_
  refine jEv.nwA (n := 5) l19 (show jfI 200 620 (.newarray .char) 2 [23] = true by decide +kernel) (by decide) rfl ?_
  have l20 := jlN (23, 5) l19
  refine jEv.blk [(.dup, 1, []), (.iconst 0, 1, []), (.bipush 111, 2, [])] (by decide +kernel) (pc' := 626) (ls' := [(2, Int.ofNat o)]) (st' := [(0, 111), (0, 0), (2, Int.ofNat (o + 20)), (2, Int.ofNat (o + 20)), (2, Int.ofNat o)]) rfl ?_
  refine jEv.asd (jlA l19) (Or.inr ⟨rfl, rfl, rfl⟩) (show jfI 200 626 (.castore) 1 [] = true by decide +kernel) (by decide) (by decide +kernel) ?_
  refine jEv.blk [(.dup, 1, []), (.iconst 1, 1, []), (.bipush 99, 2, [])] (by decide +kernel) (pc' := 631) (ls' := [(2, Int.ofNat o)]) (st' := [(0, 99), (0, 1), (2, Int.ofNat (o + 20)), (2, Int.ofNat (o + 20)), (2, Int.ofNat o)]) rfl ?_
  refine jEv.asd (jlA l19) (Or.inr ⟨rfl, rfl, rfl⟩) (show jfI 200 631 (.castore) 1 [] = true by decide +kernel) (by decide) (by decide +kernel) ?_
  refine jEv.blk [(.dup, 1, []), (.iconst 2, 1, []), (.bipush 116, 2, [])] (by decide +kernel) (pc' := 636) (ls' := [(2, Int.ofNat o)]) (st' := [(0, 116), (0, 2), (2, Int.ofNat (o + 20)), (2, Int.ofNat (o + 20)), (2, Int.ofNat o)]) rfl ?_
  refine jEv.asd (jlA l19) (Or.inr ⟨rfl, rfl, rfl⟩) (show jfI 200 636 (.castore) 1 [] = true by decide +kernel) (by decide) (by decide +kernel) ?_
  refine jEv.blk [(.dup, 1, []), (.iconst 3, 1, []), (.bipush 101, 2, [])] (by decide +kernel) (pc' := 641) (ls' := [(2, Int.ofNat o)]) (st' := [(0, 101), (0, 3), (2, Int.ofNat (o + 20)), (2, Int.ofNat (o + 20)), (2, Int.ofNat o)]) rfl ?_
  refine jEv.asd (jlA l19) (Or.inr ⟨rfl, rfl, rfl⟩) (show jfI 200 641 (.castore) 1 [] = true by decide +kernel) (by decide) (by decide +kernel) ?_
  refine jEv.blk [(.dup, 1, []), (.iconst 4, 1, []), (.bipush 116, 2, [])] (by decide +kernel) (pc' := 646) (ls' := [(2, Int.ofNat o)]) (st' := [(0, 116), (0, 4), (2, Int.ofNat (o + 20)), (2, Int.ofNat (o + 20)), (2, Int.ofNat o)]) rfl ?_
  refine jEv.asd (jlA l19) (Or.inr ⟨rfl, rfl, rfl⟩) (show jfI 200 646 (.castore) 1 [] = true by decide +kernel) (by decide) (by decide +kernel) ?_
  refine jEv.pfR (jlP _ (jlP _ (jlP _ (jlP _ (jlP _ (jlP _ (jlP _ (jlP _ (jlP _ (jlP _ (jlP _ (jlP _ (jlP _ (jlP _ (jlP _ (jlP _ (jlP _ (jlP _ (jlP _ (jlP _ ho)))))))))))))))))))) (show jfI 200 647 (.putfield 72) 3 [12, 28, 5, 0, 7064] = true by decide +kernel) (by decide) ?_
  refine jEv.blk [(.aload_n 0, 1, []), (.iconst 5, 1, [])] (by decide +kernel) (pc' := 652) (ls' := [(2, Int.ofNat o)]) (st' := [(0, 5), (2, Int.ofNat o)]) rfl ?_
  refine jEv.nwA (n := 5) l20 (show jfI 200 652 (.newarray .char) 2 [23] = true by decide +kernel) (by decide) rfl ?_
  have l21 := jlN (23, 5) l20
  refine jEv.blk [(.dup, 1, []), (.iconst 0, 1, []), (.bipush 118, 2, [])] (by decide +kernel) (pc' := 658) (ls' := [(2, Int.ofNat o)]) (st' := [(0, 118), (0, 0), (2, Int.ofNat (o + 21)), (2, Int.ofNat (o + 21)), (2, Int.ofNat o)]) rfl ?_
  refine jEv.asd (jlA l20) (Or.inr ⟨rfl, rfl, rfl⟩) (show jfI 200 658 (.castore) 1 [] = true by decide +kernel) (by decide) (by decide +kernel) ?_
  refine jEv.blk [(.dup, 1, []), (.iconst 1, 1, []), (.bipush 97, 2, [])] (by decide +kernel) (pc' := 663) (ls' := [(2, Int.ofNat o)]) (st' := [(0, 97), (0, 1), (2, Int.ofNat (o + 21)), (2, Int.ofNat (o + 21)), (2, Int.ofNat o)]) rfl ?_
  refine jEv.asd (jlA l20) (Or.inr ⟨rfl, rfl, rfl⟩) (show jfI 200 663 (.castore) 1 [] = true by decide +kernel) (by decide) (by decide +kernel) ?_
  refine jEv.blk [(.dup, 1, []), (.iconst 2, 1, []), (.bipush 108, 2, [])] (by decide +kernel) (pc' := 668) (ls' := [(2, Int.ofNat o)]) (st' := [(0, 108), (0, 2), (2, Int.ofNat (o + 21)), (2, Int.ofNat (o + 21)), (2, Int.ofNat o)]) rfl ?_
  refine jEv.asd (jlA l20) (Or.inr ⟨rfl, rfl, rfl⟩) (show jfI 200 668 (.castore) 1 [] = true by decide +kernel) (by decide) (by decide +kernel) ?_
  refine jEv.blk [(.dup, 1, []), (.iconst 3, 1, []), (.bipush 117, 2, [])] (by decide +kernel) (pc' := 673) (ls' := [(2, Int.ofNat o)]) (st' := [(0, 117), (0, 3), (2, Int.ofNat (o + 21)), (2, Int.ofNat (o + 21)), (2, Int.ofNat o)]) rfl ?_
  refine jEv.asd (jlA l20) (Or.inr ⟨rfl, rfl, rfl⟩) (show jfI 200 673 (.castore) 1 [] = true by decide +kernel) (by decide) (by decide +kernel) ?_
  refine jEv.blk [(.dup, 1, []), (.iconst 4, 1, []), (.bipush 101, 2, [])] (by decide +kernel) (pc' := 678) (ls' := [(2, Int.ofNat o)]) (st' := [(0, 101), (0, 4), (2, Int.ofNat (o + 21)), (2, Int.ofNat (o + 21)), (2, Int.ofNat o)]) rfl ?_
  refine jEv.asd (jlA l20) (Or.inr ⟨rfl, rfl, rfl⟩) (show jfI 200 678 (.castore) 1 [] = true by decide +kernel) (by decide) (by decide +kernel) ?_
  refine jEv.pfR (jlP _ (jlP _ (jlP _ (jlP _ (jlP _ (jlP _ (jlP _ (jlP _ (jlP _ (jlP _ (jlP _ (jlP _ (jlP _ (jlP _ (jlP _ (jlP _ (jlP _ (jlP _ (jlP _ (jlP _ (jlP _ ho))))))))))))))))))))) (show jfI 200 679 (.putfield 75) 3 [12, 29, 5, 0, 7065] = true by decide +kernel) (by decide) ?_
  refine jEv.blk [(.aload_n 0, 1, []), (.iconst 2, 1, [])] (by decide +kernel) (pc' := 684) (ls' := [(2, Int.ofNat o)]) (st' := [(0, 2), (2, Int.ofNat o)]) rfl ?_
  refine jEv.nwA (n := 2) l21 (show jfI 200 684 (.newarray .char) 2 [23] = true by decide +kernel) (by decide) rfl ?_
  have l22 := jlN (23, 2) l21
  refine jEv.blk [(.dup, 1, []), (.iconst 0, 1, []), (.bipush 111, 2, [])] (by decide +kernel) (pc' := 690) (ls' := [(2, Int.ofNat o)]) (st' := [(0, 111), (0, 0), (2, Int.ofNat (o + 22)), (2, Int.ofNat (o + 22)), (2, Int.ofNat o)]) rfl ?_
  refine jEv.asd (jlA l21) (Or.inr ⟨rfl, rfl, rfl⟩) (show jfI 200 690 (.castore) 1 [] = true by decide +kernel) (by decide) (by decide +kernel) ?_
  refine jEv.blk [(.dup, 1, []), (.iconst 1, 1, []), (.bipush 114, 2, [])] (by decide +kernel) (pc' := 695) (ls' := [(2, Int.ofNat o)]) (st' := [(0, 114), (0, 1), (2, Int.ofNat (o + 22)), (2, Int.ofNat (o + 22)), (2, Int.ofNat o)]) rfl ?_
  refine jEv.asd (jlA l21) (Or.inr ⟨rfl, rfl, rfl⟩) (show jfI 200 695 (.castore) 1 [] = true by decide +kernel) (by decide) (by decide +kernel) ?_
  refine jEv.pfR (jlP _ (jlP _ (jlP _ (jlP _ (jlP _ (jlP _ (jlP _ (jlP _ (jlP _ (jlP _ (jlP _ (jlP _ (jlP _ (jlP _ (jlP _ (jlP _ (jlP _ (jlP _ (jlP _ (jlP _ (jlP _ (jlP _ ho)))))))))))))))))))))) (show jfI 200 696 (.putfield 78) 3 [12, 30, 5, 0, 7066] = true by decide +kernel) (by decide) ?_
  refine jEv.blk [(.aload_n 0, 1, []), (.iconst 3, 1, [])] (by decide +kernel) (pc' := 701) (ls' := [(2, Int.ofNat o)]) (st' := [(0, 3), (2, Int.ofNat o)]) rfl ?_
  refine jEv.nwA (n := 3) l22 (show jfI 200 701 (.newarray .char) 2 [23] = true by decide +kernel) (by decide) rfl ?_
  have l23 := jlN (23, 3) l22
  refine jEv.blk [(.dup, 1, []), (.iconst 0, 1, []), (.bipush 97, 2, [])] (by decide +kernel) (pc' := 707) (ls' := [(2, Int.ofNat o)]) (st' := [(0, 97), (0, 0), (2, Int.ofNat (o + 23)), (2, Int.ofNat (o + 23)), (2, Int.ofNat o)]) rfl ?_
  refine jEv.asd (jlA l22) (Or.inr ⟨rfl, rfl, rfl⟩) (show jfI 200 707 (.castore) 1 [] = true by decide +kernel) (by decide) (by decide +kernel) ?_
  refine jEv.blk [(.dup, 1, []), (.iconst 1, 1, []), (.bipush 110, 2, [])] (by decide +kernel) (pc' := 712) (ls' := [(2, Int.ofNat o)]) (st' := [(0, 110), (0, 1), (2, Int.ofNat (o + 23)), (2, Int.ofNat (o + 23)), (2, Int.ofNat o)]) rfl ?_
  refine jEv.asd (jlA l22) (Or.inr ⟨rfl, rfl, rfl⟩) (show jfI 200 712 (.castore) 1 [] = true by decide +kernel) (by decide) (by decide +kernel) ?_
  refine jEv.blk [(.dup, 1, []), (.iconst 2, 1, []), (.bipush 100, 2, [])] (by decide +kernel) (pc' := 717) (ls' := [(2, Int.ofNat o)]) (st' := [(0, 100), (0, 2), (2, Int.ofNat (o + 23)), (2, Int.ofNat (o + 23)), (2, Int.ofNat o)]) rfl ?_
  refine jEv.asd (jlA l22) (Or.inr ⟨rfl, rfl, rfl⟩) (show jfI 200 717 (.castore) 1 [] = true by decide +kernel) (by decide) (by decide +kernel) ?_
  refine jEv.pfR (jlP _ (jlP _ (jlP _ (jlP _ (jlP _ (jlP _ (jlP _ (jlP _ (jlP _ (jlP _ (jlP _ (jlP _ (jlP _ (jlP _ (jlP _ (jlP _ (jlP _ (jlP _ (jlP _ (jlP _ (jlP _ (jlP _ (jlP _ ho))))))))))))))))))))))) (show jfI 200 718 (.putfield 81) 3 [12, 31, 5, 0, 7067] = true by decide +kernel) (by decide) ?_
  refine jEv.blk [(.aload_n 0, 1, []), (.iconst 3, 1, [])] (by decide +kernel) (pc' := 723) (ls' := [(2, Int.ofNat o)]) (st' := [(0, 3), (2, Int.ofNat o)]) rfl ?_
  refine jEv.nwA (n := 3) l23 (show jfI 200 723 (.newarray .char) 2 [23] = true by decide +kernel) (by decide) rfl ?_
  have l24 := jlN (23, 3) l23
  refine jEv.blk [(.dup, 1, []), (.iconst 0, 1, []), (.bipush 110, 2, [])] (by decide +kernel) (pc' := 729) (ls' := [(2, Int.ofNat o)]) (st' := [(0, 110), (0, 0), (2, Int.ofNat (o + 24)), (2, Int.ofNat (o + 24)), (2, Int.ofNat o)]) rfl ?_
  refine jEv.asd (jlA l23) (Or.inr ⟨rfl, rfl, rfl⟩) (show jfI 200 729 (.castore) 1 [] = true by decide +kernel) (by decide) (by decide +kernel) ?_
  refine jEv.blk [(.dup, 1, []), (.iconst 1, 1, []), (.bipush 111, 2, [])] (by decide +kernel) (pc' := 734) (ls' := [(2, Int.ofNat o)]) (st' := [(0, 111), (0, 1), (2, Int.ofNat (o + 24)), (2, Int.ofNat (o + 24)), (2, Int.ofNat o)]) rfl ?_
  refine jEv.asd (jlA l23) (Or.inr ⟨rfl, rfl, rfl⟩) (show jfI 200 734 (.castore) 1 [] = true by decide +kernel) (by decide) (by decide +kernel) ?_
  refine jEv.blk [(.dup, 1, []), (.iconst 2, 1, []), (.bipush 116, 2, [])] (by decide +kernel) (pc' := 739) (ls' := [(2, Int.ofNat o)]) (st' := [(0, 116), (0, 2), (2, Int.ofNat (o + 24)), (2, Int.ofNat (o + 24)), (2, Int.ofNat o)]) rfl ?_
  refine jEv.asd (jlA l23) (Or.inr ⟨rfl, rfl, rfl⟩) (show jfI 200 739 (.castore) 1 [] = true by decide +kernel) (by decide) (by decide +kernel) ?_
  refine jEv.pfR (jlP _ (jlP _ (jlP _ (jlP _ (jlP _ (jlP _ (jlP _ (jlP _ (jlP _ (jlP _ (jlP _ (jlP _ (jlP _ (jlP _ (jlP _ (jlP _ (jlP _ (jlP _ (jlP _ (jlP _ (jlP _ (jlP _ (jlP _ (jlP _ ho)))))))))))))))))))))))) (show jfI 200 740 (.putfield 84) 3 [12, 32, 5, 0, 7068] = true by decide +kernel) (by decide) ?_
  refine jEv.blk [(.aload_n 0, 1, []), (.iconst 3, 1, [])] (by decide +kernel) (pc' := 745) (ls' := [(2, Int.ofNat o)]) (st' := [(0, 3), (2, Int.ofNat o)]) rfl ?_
  refine jEv.nwA (n := 3) l24 (show jfI 200 745 (.newarray .char) 2 [23] = true by decide +kernel) (by decide) rfl ?_
  have l25 := jlN (23, 3) l24
  refine jEv.blk [(.dup, 1, []), (.iconst 0, 1, []), (.bipush 97, 2, [])] (by decide +kernel) (pc' := 751) (ls' := [(2, Int.ofNat o)]) (st' := [(0, 97), (0, 0), (2, Int.ofNat (o + 25)), (2, Int.ofNat (o + 25)), (2, Int.ofNat o)]) rfl ?_
  refine jEv.asd (jlA l24) (Or.inr ⟨rfl, rfl, rfl⟩) (show jfI 200 751 (.castore) 1 [] = true by decide +kernel) (by decide) (by decide +kernel) ?_
  refine jEv.blk [(.dup, 1, []), (.iconst 1, 1, []), (.bipush 108, 2, [])] (by decide +kernel) (pc' := 756) (ls' := [(2, Int.ofNat o)]) (st' := [(0, 108), (0, 1), (2, Int.ofNat (o + 25)), (2, Int.ofNat (o + 25)), (2, Int.ofNat o)]) rfl ?_
  refine jEv.asd (jlA l24) (Or.inr ⟨rfl, rfl, rfl⟩) (show jfI 200 756 (.castore) 1 [] = true by decide +kernel) (by decide) (by decide +kernel) ?_
  refine jEv.blk [(.dup, 1, []), (.iconst 2, 1, []), (.bipush 108, 2, [])] (by decide +kernel) (pc' := 761) (ls' := [(2, Int.ofNat o)]) (st' := [(0, 108), (0, 2), (2, Int.ofNat (o + 25)), (2, Int.ofNat (o + 25)), (2, Int.ofNat o)]) rfl ?_
  refine jEv.asd (jlA l24) (Or.inr ⟨rfl, rfl, rfl⟩) (show jfI 200 761 (.castore) 1 [] = true by decide +kernel) (by decide) (by decide +kernel) ?_
  refine jEv.pfR (jlP _ (jlP _ (jlP _ (jlP _ (jlP _ (jlP _ (jlP _ (jlP _ (jlP _ (jlP _ (jlP _ (jlP _ (jlP _ (jlP _ (jlP _ (jlP _ (jlP _ (jlP _ (jlP _ (jlP _ (jlP _ (jlP _ (jlP _ (jlP _ (jlP _ ho))))))))))))))))))))))))) (show jfI 200 762 (.putfield 87) 3 [12, 33, 5, 0, 7069] = true by decide +kernel) (by decide) ?_
  refine jEv.blk [(.aload_n 0, 1, []), (.iconst 3, 1, [])] (by decide +kernel) (pc' := 767) (ls' := [(2, Int.ofNat o)]) (st' := [(0, 3), (2, Int.ofNat o)]) rfl ?_
  refine jEv.nwA (n := 3) l25 (show jfI 200 767 (.newarray .char) 2 [23] = true by decide +kernel) (by decide) rfl ?_
  have l26 := jlN (23, 3) l25
  refine jEv.blk [(.dup, 1, []), (.iconst 0, 1, []), (.bipush 109, 2, [])] (by decide +kernel) (pc' := 773) (ls' := [(2, Int.ofNat o)]) (st' := [(0, 109), (0, 0), (2, Int.ofNat (o + 26)), (2, Int.ofNat (o + 26)), (2, Int.ofNat o)]) rfl ?_
  refine jEv.asd (jlA l25) (Or.inr ⟨rfl, rfl, rfl⟩) (show jfI 200 773 (.castore) 1 [] = true by decide +kernel) (by decide) (by decide +kernel) ?_
  refine jEv.blk [(.dup, 1, []), (.iconst 1, 1, []), (.bipush 105, 2, [])] (by decide +kernel) (pc' := 778) (ls' := [(2, Int.ofNat o)]) (st' := [(0, 105), (0, 1), (2, Int.ofNat (o + 26)), (2, Int.ofNat (o + 26)), (2, Int.ofNat o)]) rfl ?_
  refine jEv.asd (jlA l25) (Or.inr ⟨rfl, rfl, rfl⟩) (show jfI 200 778 (.castore) 1 [] = true by decide +kernel) (by decide) (by decide +kernel) ?_
  refine jEv.blk [(.dup, 1, []), (.iconst 2, 1, []), (.bipush 110, 2, [])] (by decide +kernel) (pc' := 783) (ls' := [(2, Int.ofNat o)]) (st' := [(0, 110), (0, 2), (2, Int.ofNat (o + 26)), (2, Int.ofNat (o + 26)), (2, Int.ofNat o)]) rfl ?_
  refine jEv.asd (jlA l25) (Or.inr ⟨rfl, rfl, rfl⟩) (show jfI 200 783 (.castore) 1 [] = true by decide +kernel) (by decide) (by decide +kernel) ?_
  refine jEv.pfR (jlP _ (jlP _ (jlP _ (jlP _ (jlP _ (jlP _ (jlP _ (jlP _ (jlP _ (jlP _ (jlP _ (jlP _ (jlP _ (jlP _ (jlP _ (jlP _ (jlP _ (jlP _ (jlP _ (jlP _ (jlP _ (jlP _ (jlP _ (jlP _ (jlP _ (jlP _ ho)))))))))))))))))))))))))) (show jfI 200 784 (.putfield 90) 3 [12, 34, 5, 0, 7070] = true by decide +kernel) (by decide) ?_
  refine jEv.blk [(.aload_n 0, 1, []), (.iconst 3, 1, [])] (by decide +kernel) (pc' := 789) (ls' := [(2, Int.ofNat o)]) (st' := [(0, 3), (2, Int.ofNat o)]) rfl ?_
  refine jEv.nwA (n := 3) l26 (show jfI 200 789 (.newarray .char) 2 [23] = true by decide +kernel) (by decide) rfl ?_
  have l27 := jlN (23, 3) l26
  refine jEv.blk [(.dup, 1, []), (.iconst 0, 1, []), (.bipush 109, 2, [])] (by decide +kernel) (pc' := 795) (ls' := [(2, Int.ofNat o)]) (st' := [(0, 109), (0, 0), (2, Int.ofNat (o + 27)), (2, Int.ofNat (o + 27)), (2, Int.ofNat o)]) rfl ?_
  refine jEv.asd (jlA l26) (Or.inr ⟨rfl, rfl, rfl⟩) (show jfI 200 795 (.castore) 1 [] = true by decide +kernel) (by decide) (by decide +kernel) ?_
  refine jEv.blk [(.dup, 1, []), (.iconst 1, 1, []), (.bipush 97, 2, [])] (by decide +kernel) (pc' := 800) (ls' := [(2, Int.ofNat o)]) (st' := [(0, 97), (0, 1), (2, Int.ofNat (o + 27)), (2, Int.ofNat (o + 27)), (2, Int.ofNat o)]) rfl ?_
  refine jEv.asd (jlA l26) (Or.inr ⟨rfl, rfl, rfl⟩) (show jfI 200 800 (.castore) 1 [] = true by decide +kernel) (by decide) (by decide +kernel) ?_
  refine jEv.blk [(.dup, 1, []), (.iconst 2, 1, []), (.bipush 120, 2, [])] (by decide +kernel) (pc' := 805) (ls' := [(2, Int.ofNat o)]) (st' := [(0, 120), (0, 2), (2, Int.ofNat (o + 27)), (2, Int.ofNat (o + 27)), (2, Int.ofNat o)]) rfl ?_
  refine jEv.asd (jlA l26) (Or.inr ⟨rfl, rfl, rfl⟩) (show jfI 200 805 (.castore) 1 [] = true by decide +kernel) (by decide) (by decide +kernel) ?_
  refine jEv.pfR (jlP _ (jlP _ (jlP _ (jlP _ (jlP _ (jlP _ (jlP _ (jlP _ (jlP _ (jlP _ (jlP _ (jlP _ (jlP _ (jlP _ (jlP _ (jlP _ (jlP _ (jlP _ (jlP _ (jlP _ (jlP _ (jlP _ (jlP _ (jlP _ (jlP _ (jlP _ (jlP _ ho))))))))))))))))))))))))))) (show jfI 200 806 (.putfield 93) 3 [12, 35, 5, 0, 7071] = true by decide +kernel) (by decide) ?_
  refine jEv.blk [(.aload_n 0, 1, []), (.bipush 10, 2, [])] (by decide +kernel) (pc' := 812) (ls' := [(2, Int.ofNat o)]) (st' := [(0, 10), (2, Int.ofNat o)]) rfl ?_
  refine jEv.nwA (n := 10) l27 (show jfI 200 812 (.newarray .int) 2 [20] = true by decide +kernel) (by decide) rfl ?_
  have l28 := jlN (20, 10) l27
  refine jEv.pfR (jlP _ (jlP _ (jlP _ (jlP _ (jlP _ (jlP _ (jlP _ (jlP _ (jlP _ (jlP _ (jlP _ (jlP _ (jlP _ (jlP _ (jlP _ (jlP _ (jlP _ (jlP _ (jlP _ (jlP _ (jlP _ (jlP _ (jlP _ (jlP _ (jlP _ (jlP _ (jlP _ (jlP _ ho)))))))))))))))))))))))))))) (show jfI 200 814 (.putfield 96) 3 [12, 36, 5, 0, 7072] = true by decide +kernel) (by decide) ?_
  refine jEv.blk [(.aload_n 0, 1, []), (.bipush 120, 2, [])] (by decide +kernel) (pc' := 820) (ls' := [(2, Int.ofNat o)]) (st' := [(0, 120), (2, Int.ofNat o)]) rfl ?_
  refine jEv.nwA (n := 120) l28 (show jfI 200 820 (.newarray .int) 2 [20] = true by decide +kernel) (by decide) rfl ?_
  have l29 := jlN (20, 120) l28
  refine jEv.pfR (jlP _ (jlP _ (jlP _ (jlP _ (jlP _ (jlP _ (jlP _ (jlP _ (jlP _ (jlP _ (jlP _ (jlP _ (jlP _ (jlP _ (jlP _ (jlP _ (jlP _ (jlP _ (jlP _ (jlP _ (jlP _ (jlP _ (jlP _ (jlP _ (jlP _ (jlP _ (jlP _ (jlP _ (jlP _ ho))))))))))))))))))))))))))))) (show jfI 200 822 (.putfield 99) 3 [12, 37, 5, 0, 7073] = true by decide +kernel) (by decide) ?_
  refine jEv.blk [(.aload_n 0, 1, []), (.iconst 4, 1, [])] (by decide +kernel) (pc' := 827) (ls' := [(2, Int.ofNat o)]) (st' := [(0, 4), (2, Int.ofNat o)]) rfl ?_
  refine jEv.nwA (n := 4) l29 (show jfI 200 827 (.newarray .int) 2 [20] = true by decide +kernel) (by decide) rfl ?_
  have l30 := jlN (20, 4) l29
  refine jEv.blk [(.dup, 1, []), (.iconst 0, 1, []), (.iconst (-1), 1, [])] (by decide +kernel) (pc' := 832) (ls' := [(2, Int.ofNat o)]) (st' := [(0, (-1)), (0, 0), (2, Int.ofNat (o + 30)), (2, Int.ofNat (o + 30)), (2, Int.ofNat o)]) rfl ?_
  refine jEv.asd (jlA l29) (Or.inl ⟨rfl, rfl, rfl⟩) (show jfI 200 832 (.iastore) 1 [] = true by decide +kernel) (by decide) (by decide +kernel) ?_
  refine jEv.blk [(.dup, 1, []), (.iconst 1, 1, []), (.iconst (-1), 1, [])] (by decide +kernel) (pc' := 836) (ls' := [(2, Int.ofNat o)]) (st' := [(0, (-1)), (0, 1), (2, Int.ofNat (o + 30)), (2, Int.ofNat (o + 30)), (2, Int.ofNat o)]) rfl ?_
  refine jEv.asd (jlA l29) (Or.inl ⟨rfl, rfl, rfl⟩) (show jfI 200 836 (.iastore) 1 [] = true by decide +kernel) (by decide) (by decide +kernel) ?_
  refine jEv.blk [(.dup, 1, []), (.iconst 2, 1, []), (.iconst (-1), 1, [])] (by decide +kernel) (pc' := 840) (ls' := [(2, Int.ofNat o)]) (st' := [(0, (-1)), (0, 2), (2, Int.ofNat (o + 30)), (2, Int.ofNat (o + 30)), (2, Int.ofNat o)]) rfl ?_
  refine jEv.asd (jlA l29) (Or.inl ⟨rfl, rfl, rfl⟩) (show jfI 200 840 (.iastore) 1 [] = true by decide +kernel) (by decide) (by decide +kernel) ?_
  refine jEv.blk [(.dup, 1, []), (.iconst 3, 1, []), (.iconst (-1), 1, [])] (by decide +kernel) (pc' := 844) (ls' := [(2, Int.ofNat o)]) (st' := [(0, (-1)), (0, 3), (2, Int.ofNat (o + 30)), (2, Int.ofNat (o + 30)), (2, Int.ofNat o)]) rfl ?_
  refine jEv.asd (jlA l29) (Or.inl ⟨rfl, rfl, rfl⟩) (show jfI 200 844 (.iastore) 1 [] = true by decide +kernel) (by decide) (by decide +kernel) ?_
  refine jEv.pfR (jlP _ (jlP _ (jlP _ (jlP _ (jlP _ (jlP _ (jlP _ (jlP _ (jlP _ (jlP _ (jlP _ (jlP _ (jlP _ (jlP _ (jlP _ (jlP _ (jlP _ (jlP _ (jlP _ (jlP _ (jlP _ (jlP _ (jlP _ (jlP _ (jlP _ (jlP _ (jlP _ (jlP _ (jlP _ (jlP _ ho)))))))))))))))))))))))))))))) (show jfI 200 845 (.putfield 102) 3 [12, 38, 5, 0, 7074] = true by decide +kernel) (by decide) ?_
  refine jEv.blk [(.aload_n 0, 1, []), (.iconst 4, 1, [])] (by decide +kernel) (pc' := 850) (ls' := [(2, Int.ofNat o)]) (st' := [(0, 4), (2, Int.ofNat o)]) rfl ?_
  refine jEv.nwA (n := 4) l30 (show jfI 200 850 (.newarray .int) 2 [20] = true by decide +kernel) (by decide) rfl ?_
  have l31 := jlN (20, 4) l30
  refine jEv.pfR (jlP _ (jlP _ (jlP _ (jlP _ (jlP _ (jlP _ (jlP _ (jlP _ (jlP _ (jlP _ (jlP _ (jlP _ (jlP _ (jlP _ (jlP _ (jlP _ (jlP _ (jlP _ (jlP _ (jlP _ (jlP _ (jlP _ (jlP _ (jlP _ (jlP _ (jlP _ (jlP _ (jlP _ (jlP _ (jlP _ (jlP _ ho))))))))))))))))))))))))))))))) (show jfI 200 852 (.putfield 105) 3 [12, 39, 5, 0, 7075] = true by decide +kernel) (by decide) ?_
  refine jEv.blk [(.aload_n 0, 1, []), (.sipush 3200, 3, [])] (by decide +kernel) (pc' := 859) (ls' := [(2, Int.ofNat o)]) (st' := [(0, 3200), (2, Int.ofNat o)]) rfl ?_
  refine jEv.nwA (n := 3200) l31 (show jfI 200 859 (.newarray .int) 2 [20] = true by decide +kernel) (by decide) rfl ?_
  have l32 := jlN (20, 3200) l31
  refine jEv.pfR (jlP _ (jlP _ (jlP _ (jlP _ (jlP _ (jlP _ (jlP _ (jlP _ (jlP _ (jlP _ (jlP _ (jlP _ (jlP _ (jlP _ (jlP _ (jlP _ (jlP _ (jlP _ (jlP _ (jlP _ (jlP _ (jlP _ (jlP _ (jlP _ (jlP _ (jlP _ (jlP _ (jlP _ (jlP _ (jlP _ (jlP _ (jlP _ ho)))))))))))))))))))))))))))))))) (show jfI 200 861 (.putfield 108) 3 [12, 40, 5, 0, 7076] = true by decide +kernel) (by decide) ?_
  refine jEv.blk [(.aload_n 0, 1, []), (.sipush 2365, 3, [])] (by decide +kernel) (pc' := 868) (ls' := [(2, Int.ofNat o)]) (st' := [(0, 2365), (2, Int.ofNat o)]) rfl ?_
  refine jEv.nwA (n := 2365) l32 (show jfI 200 868 (.newarray .int) 2 [20] = true by decide +kernel) (by decide) rfl ?_
  have l33 := jlN (20, 2365) l32
  refine jEv.pfR (jlP _ (jlP _ (jlP _ (jlP _ (jlP _ (jlP _ (jlP _ (jlP _ (jlP _ (jlP _ (jlP _ (jlP _ (jlP _ (jlP _ (jlP _ (jlP _ (jlP _ (jlP _ (jlP _ (jlP _ (jlP _ (jlP _ (jlP _ (jlP _ (jlP _ (jlP _ (jlP _ (jlP _ (jlP _ (jlP _ (jlP _ (jlP _ (jlP _ ho))))))))))))))))))))))))))))))))) (show jfI 200 870 (.putfield 111) 3 [12, 45, 5, 0, 7081] = true by decide +kernel) (by decide) ?_
  refine jEv.blk [(.aload_n 0, 1, []), (.bipush 64, 2, [])] (by decide +kernel) (pc' := 876) (ls' := [(2, Int.ofNat o)]) (st' := [(0, 64), (2, Int.ofNat o)]) rfl ?_
  refine jEv.nwA (n := 64) l33 (show jfI 200 876 (.newarray .int) 2 [20] = true by decide +kernel) (by decide) rfl ?_
  have l34 := jlN (20, 64) l33
  refine jEv.pfR (jlP _ (jlP _ (jlP _ (jlP _ (jlP _ (jlP _ (jlP _ (jlP _ (jlP _ (jlP _ (jlP _ (jlP _ (jlP _ (jlP _ (jlP _ (jlP _ (jlP _ (jlP _ (jlP _ (jlP _ (jlP _ (jlP _ (jlP _ (jlP _ (jlP _ (jlP _ (jlP _ (jlP _ (jlP _ (jlP _ (jlP _ (jlP _ (jlP _ (jlP _ ho)))))))))))))))))))))))))))))))))) (show jfI 200 878 (.putfield 114) 3 [12, 49, 5, 0, 7085] = true by decide +kernel) (by decide) ?_
  refine jEv.blk [(.aload_n 0, 1, []), (.sipush 2244, 3, [])] (by decide +kernel) (pc' := 885) (ls' := [(2, Int.ofNat o)]) (st' := [(0, 2244), (2, Int.ofNat o)]) rfl ?_
  refine jEv.nwA (n := 2244) l34 (show jfI 200 885 (.newarray .int) 2 [20] = true by decide +kernel) (by decide) rfl ?_
  have l35 := jlN (20, 2244) l34
  refine jEv.pfR (jlP _ (jlP _ (jlP _ (jlP _ (jlP _ (jlP _ (jlP _ (jlP _ (jlP _ (jlP _ (jlP _ (jlP _ (jlP _ (jlP _ (jlP _ (jlP _ (jlP _ (jlP _ (jlP _ (jlP _ (jlP _ (jlP _ (jlP _ (jlP _ (jlP _ (jlP _ (jlP _ (jlP _ (jlP _ (jlP _ (jlP _ (jlP _ (jlP _ (jlP _ (jlP _ ho))))))))))))))))))))))))))))))))))) (show jfI 200 887 (.putfield 117) 3 [12, 51, 5, 0, 7087] = true by decide +kernel) (by decide) ?_
  refine jEv.blk [(.aload_n 0, 1, []), (.iconst (-1), 1, [])] (by decide +kernel) (pc' := 892) (ls' := [(2, Int.ofNat o)]) (st' := [(0, (-1)), (2, Int.ofNat o)]) rfl ?_
  refine jEv.pfI (show jfI 200 892 (.putfield 120) 3 [12, 52, 0, 0, 7088] = true by decide +kernel) (jlP _ (jlP _ (jlP _ (jlP _ (jlP _ (jlP _ (jlP _ (jlP _ (jlP _ (jlP _ (jlP _ (jlP _ (jlP _ (jlP _ (jlP _ (jlP _ (jlP _ (jlP _ (jlP _ (jlP _ (jlP _ (jlP _ (jlP _ (jlP _ (jlP _ (jlP _ (jlP _ (jlP _ (jlP _ (jlP _ (jlP _ (jlP _ (jlP _ (jlP _ (jlP _ ho))))))))))))))))))))))))))))))))))) (by decide) ?_
  refine jEv.blk [(.aload_n 0, 1, []), (.sipush 2244, 3, [])] (by decide +kernel) (pc' := 899) (ls' := [(2, Int.ofNat o)]) (st' := [(0, 2244), (2, Int.ofNat o)]) rfl ?_
  refine jEv.nwA (n := 2244) l35 (show jfI 200 899 (.newarray .int) 2 [20] = true by decide +kernel) (by decide) rfl ?_
  have l36 := jlN (20, 2244) l35
  refine jEv.pfR (jlP _ (jlP _ (jlP _ (jlP _ (jlP _ (jlP _ (jlP _ (jlP _ (jlP _ (jlP _ (jlP _ (jlP _ (jlP _ (jlP _ (jlP _ (jlP _ (jlP _ (jlP _ (jlP _ (jlP _ (jlP _ (jlP _ (jlP _ (jlP _ (jlP _ (jlP _ (jlP _ (jlP _ (jlP _ (jlP _ (jlP _ (jlP _ (jlP _ (jlP _ (jlP _ (jlP _ ho)))))))))))))))))))))))))))))))))))) (show jfI 200 901 (.putfield 123) 3 [12, 57, 5, 0, 7093] = true by decide +kernel) (by decide) ?_
  refine jEv.blk [(.aload_n 0, 1, []), (.sipush 128, 3, [])] (by decide +kernel) (pc' := 908) (ls' := [(2, Int.ofNat o)]) (st' := [(0, 128), (2, Int.ofNat o)]) rfl ?_
  refine jEv.nwA (n := 128) l36 (show jfI 200 908 (.newarray .int) 2 [20] = true by decide +kernel) (by decide) rfl ?_
  have l37 := jlN (20, 128) l36
  refine jEv.pfR (jlP _ (jlP _ (jlP _ (jlP _ (jlP _ (jlP _ (jlP _ (jlP _ (jlP _ (jlP _ (jlP _ (jlP _ (jlP _ (jlP _ (jlP _ (jlP _ (jlP _ (jlP _ (jlP _ (jlP _ (jlP _ (jlP _ (jlP _ (jlP _ (jlP _ (jlP _ (jlP _ (jlP _ (jlP _ (jlP _ (jlP _ (jlP _ (jlP _ (jlP _ (jlP _ (jlP _ (jlP _ ho))))))))))))))))))))))))))))))))))))) (show jfI 200 910 (.putfield 126) 3 [12, 58, 5, 0, 7094] = true by decide +kernel) (by decide) ?_
  refine jEv.blk [(.aload_n 0, 1, []), (.bipush 32, 2, [])] (by decide +kernel) (pc' := 916) (ls' := [(2, Int.ofNat o)]) (st' := [(0, 32), (2, Int.ofNat o)]) rfl ?_
  refine jEv.nwA (n := 32) l37 (show jfI 200 916 (.newarray .int) 2 [20] = true by decide +kernel) (by decide) rfl ?_
  have l38 := jlN (20, 32) l37
  refine jEv.pfR (jlP _ (jlP _ (jlP _ (jlP _ (jlP _ (jlP _ (jlP _ (jlP _ (jlP _ (jlP _ (jlP _ (jlP _ (jlP _ (jlP _ (jlP _ (jlP _ (jlP _ (jlP _ (jlP _ (jlP _ (jlP _ (jlP _ (jlP _ (jlP _ (jlP _ (jlP _ (jlP _ (jlP _ (jlP _ (jlP _ (jlP _ (jlP _ (jlP _ (jlP _ (jlP _ (jlP _ (jlP _ (jlP _ ho)))))))))))))))))))))))))))))))))))))) (show jfI 200 918 (.putfield 129) 3 [12, 67, 5, 0, 7103] = true by decide +kernel) (by decide) ?_
  refine jEv.blk [(.aload_n 0, 1, []), (.sipush 513, 3, [])] (by decide +kernel) (pc' := 925) (ls' := [(2, Int.ofNat o)]) (st' := [(0, 513), (2, Int.ofNat o)]) rfl ?_
  refine jEv.nwA (n := 513) l38 (show jfI 200 925 (.newarray .boolean) 2 [22] = true by decide +kernel) (by decide) rfl ?_
  have l39 := jlN (22, 513) l38
  refine jEv.pfR (jlP _ (jlP _ (jlP _ (jlP _ (jlP _ (jlP _ (jlP _ (jlP _ (jlP _ (jlP _ (jlP _ (jlP _ (jlP _ (jlP _ (jlP _ (jlP _ (jlP _ (jlP _ (jlP _ (jlP _ (jlP _ (jlP _ (jlP _ (jlP _ (jlP _ (jlP _ (jlP _ (jlP _ (jlP _ (jlP _ (jlP _ (jlP _ (jlP _ (jlP _ (jlP _ (jlP _ (jlP _ (jlP _ (jlP _ ho))))))))))))))))))))))))))))))))))))))) (show jfI 200 927 (.putfield 132) 3 [12, 68, 5, 0, 7104] = true by decide +kernel) (by decide) ?_
  refine jEv.blk [(.aload_n 0, 1, []), (.sipush 8208, 3, [])] (by decide +kernel) (pc' := 934) (ls' := [(2, Int.ofNat o)]) (st' := [(0, 8208), (2, Int.ofNat o)]) rfl ?_
  refine jEv.nwA (n := 8208) l39 (show jfI 200 934 (.newarray .int) 2 [20] = true by decide +kernel) (by decide) rfl ?_
  have l40 := jlN (20, 8208) l39
  refine jEv.pfR (jlP _ (jlP _ (jlP _ (jlP _ (jlP _ (jlP _ (jlP _ (jlP _ (jlP _ (jlP _ (jlP _ (jlP _ (jlP _ (jlP _ (jlP _ (jlP _ (jlP _ (jlP _ (jlP _ (jlP _ (jlP _ (jlP _ (jlP _ (jlP _ (jlP _ (jlP _ (jlP _ (jlP _ (jlP _ (jlP _ (jlP _ (jlP _ (jlP _ (jlP _ (jlP _ (jlP _ (jlP _ (jlP _ (jlP _ (jlP _ ho)))))))))))))))))))))))))))))))))))))))) (show jfI 200 936 (.putfield 136) 3 [12, 70, 5, 0, 7106] = true by decide +kernel) (by decide) ?_
  refine jEv.blk [(.aload_n 0, 1, []), (.sipush 1001, 3, [])] (by decide +kernel) (pc' := 943) (ls' := [(2, Int.ofNat o)]) (st' := [(0, 1001), (2, Int.ofNat o)]) rfl ?_
  refine jEv.nwA (n := 1001) l40 (show jfI 200 943 (.newarray .int) 2 [20] = true by decide +kernel) (by decide) rfl ?_
  have l41 := jlN (20, 1001) l40
  refine jEv.pfR (jlP _ (jlP _ (jlP _ (jlP _ (jlP _ (jlP _ (jlP _ (jlP _ (jlP _ (jlP _ (jlP _ (jlP _ (jlP _ (jlP _ (jlP _ (jlP _ (jlP _ (jlP _ (jlP _ (jlP _ (jlP _ (jlP _ (jlP _ (jlP _ (jlP _ (jlP _ (jlP _ (jlP _ (jlP _ (jlP _ (jlP _ (jlP _ (jlP _ (jlP _ (jlP _ (jlP _ (jlP _ (jlP _ (jlP _ (jlP _ (jlP _ ho))))))))))))))))))))))))))))))))))))))))) (show jfI 200 945 (.putfield 139) 3 [12, 71, 5, 0, 7107] = true by decide +kernel) (by decide) ?_
  refine jEv.blk [(.aload_n 0, 1, []), (.ldc 142, 2, [0, 0, 47300, 7035])] (by decide +kernel) (pc' := 951) (ls' := [(2, Int.ofNat o)]) (st' := [(0, 47300), (2, Int.ofNat o)]) rfl ?_
  refine jEv.nwA (n := 47300) l41 (show jfI 200 951 (.newarray .int) 2 [20] = true by decide +kernel) (by decide) rfl ?_
  have l42 := jlN (20, 47300) l41
  refine jEv.pfR (jlP _ (jlP _ (jlP _ (jlP _ (jlP _ (jlP _ (jlP _ (jlP _ (jlP _ (jlP _ (jlP _ (jlP _ (jlP _ (jlP _ (jlP _ (jlP _ (jlP _ (jlP _ (jlP _ (jlP _ (jlP _ (jlP _ (jlP _ (jlP _ (jlP _ (jlP _ (jlP _ (jlP _ (jlP _ (jlP _ (jlP _ (jlP _ (jlP _ (jlP _ (jlP _ (jlP _ (jlP _ (jlP _ (jlP _ (jlP _ (jlP _ (jlP _ ho)))))))))))))))))))))))))))))))))))))))))) (show jfI 200 953 (.putfield 143) 3 [12, 72, 5, 0, 7108] = true by decide +kernel) (by decide) ?_
  refine jEv.blk [(.aload_n 0, 1, []), (.lconst 1, 1, [])] (by decide +kernel) (pc' := 958) (ls' := [(2, Int.ofNat o)]) (st' := [(1, 1), (2, Int.ofNat o)]) rfl ?_
  refine jEv.pfJ (show jfI 200 958 (.putfield 146) 3 [12, 75, 1, 0, 7111] = true by decide +kernel) (jlP _ (jlP _ (jlP _ (jlP _ (jlP _ (jlP _ (jlP _ (jlP _ (jlP _ (jlP _ (jlP _ (jlP _ (jlP _ (jlP _ (jlP _ (jlP _ (jlP _ (jlP _ (jlP _ (jlP _ (jlP _ (jlP _ (jlP _ (jlP _ (jlP _ (jlP _ (jlP _ (jlP _ (jlP _ (jlP _ (jlP _ (jlP _ (jlP _ (jlP _ (jlP _ (jlP _ (jlP _ (jlP _ (jlP _ (jlP _ (jlP _ (jlP _ ho)))))))))))))))))))))))))))))))))))))))))) (by decide) ?_
  refine jEv.blk [(.aload_n 0, 1, []), (.iconst 5, 1, [])] (by decide +kernel) (pc' := 963) (ls' := [(2, Int.ofNat o)]) (st' := [(0, 5), (2, Int.ofNat o)]) rfl ?_
  refine jEv.nwA (n := 5) l42 (show jfI 200 963 (.newarray .char) 2 [23] = true by decide +kernel) (by decide) rfl ?_
  have l43 := jlN (23, 5) l42
  refine jEv.blk [(.dup, 1, []), (.iconst 0, 1, []), (.bipush 102, 2, [])] (by decide +kernel) (pc' := 969) (ls' := [(2, Int.ofNat o)]) (st' := [(0, 102), (0, 0), (2, Int.ofNat (o + 43)), (2, Int.ofNat (o + 43)), (2, Int.ofNat o)]) rfl ?_
  refine jEv.asd (jlA l42) (Or.inr ⟨rfl, rfl, rfl⟩) (show jfI 200 969 (.castore) 1 [] = true by decide +kernel) (by decide) (by decide +kernel) ?_
  refine jEv.blk [(.dup, 1, []), (.iconst 1, 1, []), (.bipush 105, 2, [])] (by decide +kernel) (pc' := 974) (ls' := [(2, Int.ofNat o)]) (st' := [(0, 105), (0, 1), (2, Int.ofNat (o + 43)), (2, Int.ofNat (o + 43)), (2, Int.ofNat o)]) rfl ?_
  refine jEv.asd (jlA l42) (Or.inr ⟨rfl, rfl, rfl⟩) (show jfI 200 974 (.castore) 1 [] = true by decide +kernel) (by decide) (by decide +kernel) ?_
  refine jEv.blk [(.dup, 1, []), (.iconst 2, 1, []), (.bipush 114, 2, [])] (by decide +kernel) (pc' := 979) (ls' := [(2, Int.ofNat o)]) (st' := [(0, 114), (0, 2), (2, Int.ofNat (o + 43)), (2, Int.ofNat (o + 43)), (2, Int.ofNat o)]) rfl ?_
  refine jEv.asd (jlA l42) (Or.inr ⟨rfl, rfl, rfl⟩) (show jfI 200 979 (.castore) 1 [] = true by decide +kernel) (by decide) (by decide +kernel) ?_
  refine jEv.blk [(.dup, 1, []), (.iconst 3, 1, []), (.bipush 115, 2, [])] (by decide +kernel) (pc' := 984) (ls' := [(2, Int.ofNat o)]) (st' := [(0, 115), (0, 3), (2, Int.ofNat (o + 43)), (2, Int.ofNat (o + 43)), (2, Int.ofNat o)]) rfl ?_
  refine jEv.asd (jlA l42) (Or.inr ⟨rfl, rfl, rfl⟩) (show jfI 200 984 (.castore) 1 [] = true by decide +kernel) (by decide) (by decide +kernel) ?_
  refine jEv.blk [(.dup, 1, []), (.iconst 4, 1, []), (.bipush 116, 2, [])] (by decide +kernel) (pc' := 989) (ls' := [(2, Int.ofNat o)]) (st' := [(0, 116), (0, 4), (2, Int.ofNat (o + 43)), (2, Int.ofNat (o + 43)), (2, Int.ofNat o)]) rfl ?_
  refine jEv.asd (jlA l42) (Or.inr ⟨rfl, rfl, rfl⟩) (show jfI 200 989 (.castore) 1 [] = true by decide +kernel) (by decide) (by decide +kernel) ?_
  refine jEv.pfR (jlP _ (jlP _ (jlP _ (jlP _ (jlP _ (jlP _ (jlP _ (jlP _ (jlP _ (jlP _ (jlP _ (jlP _ (jlP _ (jlP _ (jlP _ (jlP _ (jlP _ (jlP _ (jlP _ (jlP _ (jlP _ (jlP _ (jlP _ (jlP _ (jlP _ (jlP _ (jlP _ (jlP _ (jlP _ (jlP _ (jlP _ (jlP _ (jlP _ (jlP _ (jlP _ (jlP _ (jlP _ (jlP _ (jlP _ (jlP _ (jlP _ (jlP _ (jlP _ ho))))))))))))))))))))))))))))))))))))))))))) (show jfI 200 990 (.putfield 150) 3 [12, 76, 5, 0, 7112] = true by decide +kernel) (by decide) ?_
  refine jEv.blk [(.aload_n 0, 1, []), (.iconst 4, 1, [])] (by decide +kernel) (pc' := 995) (ls' := [(2, Int.ofNat o)]) (st' := [(0, 4), (2, Int.ofNat o)]) rfl ?_
  refine jEv.nwA (n := 4) l43 (show jfI 200 995 (.newarray .char) 2 [23] = true by decide +kernel) (by decide) rfl ?_
  have l44 := jlN (23, 4) l43
  refine jEv.blk [(.dup, 1, []), (.iconst 0, 1, []), (.bipush 108, 2, [])] (by decide +kernel) (pc' := 1001) (ls' := [(2, Int.ofNat o)]) (st' := [(0, 108), (0, 0), (2, Int.ofNat (o + 44)), (2, Int.ofNat (o + 44)), (2, Int.ofNat o)]) rfl ?_
  refine jEv.asd (jlA l43) (Or.inr ⟨rfl, rfl, rfl⟩) (show jfI 200 1001 (.castore) 1 [] = true by decide +kernel) (by decide) (by decide +kernel) ?_
  refine jEv.blk [(.dup, 1, []), (.iconst 1, 1, []), (.bipush 97, 2, [])] (by decide +kernel) (pc' := 1006) (ls' := [(2, Int.ofNat o)]) (st' := [(0, 97), (0, 1), (2, Int.ofNat (o + 44)), (2, Int.ofNat (o + 44)), (2, Int.ofNat o)]) rfl ?_
  refine jEv.asd (jlA l43) (Or.inr ⟨rfl, rfl, rfl⟩) (show jfI 200 1006 (.castore) 1 [] = true by decide +kernel) (by decide) (by decide +kernel) ?_
  refine jEv.blk [(.dup, 1, []), (.iconst 2, 1, []), (.bipush 115, 2, [])] (by decide +kernel) (pc' := 1011) (ls' := [(2, Int.ofNat o)]) (st' := [(0, 115), (0, 2), (2, Int.ofNat (o + 44)), (2, Int.ofNat (o + 44)), (2, Int.ofNat o)]) rfl ?_
  refine jEv.asd (jlA l43) (Or.inr ⟨rfl, rfl, rfl⟩) (show jfI 200 1011 (.castore) 1 [] = true by decide +kernel) (by decide) (by decide +kernel) ?_
  refine jEv.blk [(.dup, 1, []), (.iconst 3, 1, []), (.bipush 116, 2, [])] (by decide +kernel) (pc' := 1016) (ls' := [(2, Int.ofNat o)]) (st' := [(0, 116), (0, 3), (2, Int.ofNat (o + 44)), (2, Int.ofNat (o + 44)), (2, Int.ofNat o)]) rfl ?_
  refine jEv.asd (jlA l43) (Or.inr ⟨rfl, rfl, rfl⟩) (show jfI 200 1016 (.castore) 1 [] = true by decide +kernel) (by decide) (by decide +kernel) ?_
  refine jEv.pfR (jlP _ (jlP _ (jlP _ (jlP _ (jlP _ (jlP _ (jlP _ (jlP _ (jlP _ (jlP _ (jlP _ (jlP _ (jlP _ (jlP _ (jlP _ (jlP _ (jlP _ (jlP _ (jlP _ (jlP _ (jlP _ (jlP _ (jlP _ (jlP _ (jlP _ (jlP _ (jlP _ (jlP _ (jlP _ (jlP _ (jlP _ (jlP _ (jlP _ (jlP _ (jlP _ (jlP _ (jlP _ (jlP _ (jlP _ (jlP _ (jlP _ (jlP _ (jlP _ (jlP _ ho)))))))))))))))))))))))))))))))))))))))))))) (show jfI 200 1017 (.putfield 153) 3 [12, 77, 5, 0, 7113] = true by decide +kernel) (by decide) ?_
  refine jEv.blk [(.aload_n 0, 1, []), (.iconst 5, 1, [])] (by decide +kernel) (pc' := 1022) (ls' := [(2, Int.ofNat o)]) (st' := [(0, 5), (2, Int.ofNat o)]) rfl ?_
  refine jEv.nwA (n := 5) l44 (show jfI 200 1022 (.newarray .char) 2 [23] = true by decide +kernel) (by decide) rfl ?_
  have l45 := jlN (23, 5) l44
  refine jEv.blk [(.dup, 1, []), (.iconst 0, 1, []), (.bipush 111, 2, [])] (by decide +kernel) (pc' := 1028) (ls' := [(2, Int.ofNat o)]) (st' := [(0, 111), (0, 0), (2, Int.ofNat (o + 45)), (2, Int.ofNat (o + 45)), (2, Int.ofNat o)]) rfl ?_
  refine jEv.asd (jlA l44) (Or.inr ⟨rfl, rfl, rfl⟩) (show jfI 200 1028 (.castore) 1 [] = true by decide +kernel) (by decide) (by decide +kernel) ?_
  refine jEv.blk [(.dup, 1, []), (.iconst 1, 1, []), (.bipush 102, 2, [])] (by decide +kernel) (pc' := 1033) (ls' := [(2, Int.ofNat o)]) (st' := [(0, 102), (0, 1), (2, Int.ofNat (o + 45)), (2, Int.ofNat (o + 45)), (2, Int.ofNat o)]) rfl ?_
  refine jEv.asd (jlA l44) (Or.inr ⟨rfl, rfl, rfl⟩) (show jfI 200 1033 (.castore) 1 [] = true by decide +kernel) (by decide) (by decide +kernel) ?_
  refine jEv.blk [(.dup, 1, []), (.iconst 2, 1, []), (.bipush 116, 2, [])] (by decide +kernel) (pc' := 1038) (ls' := [(2, Int.ofNat o)]) (st' := [(0, 116), (0, 2), (2, Int.ofNat (o + 45)), (2, Int.ofNat (o + 45)), (2, Int.ofNat o)]) rfl ?_
  refine jEv.asd (jlA l44) (Or.inr ⟨rfl, rfl, rfl⟩) (show jfI 200 1038 (.castore) 1 [] = true by decide +kernel) (by decide) (by decide +kernel) ?_
  refine jEv.blk [(.dup, 1, []), (.iconst 3, 1, []), (.bipush 101, 2, [])] (by decide +kernel) (pc' := 1043) (ls' := [(2, Int.ofNat o)]) (st' := [(0, 101), (0, 3), (2, Int.ofNat (o + 45)), (2, Int.ofNat (o + 45)), (2, Int.ofNat o)]) rfl ?_
  refine jEv.asd (jlA l44) (Or.inr ⟨rfl, rfl, rfl⟩) (show jfI 200 1043 (.castore) 1 [] = true by decide +kernel) (by decide) (by decide +kernel) ?_
  refine jEv.blk [(.dup, 1, []), (.iconst 4, 1, []), (.bipush 110, 2, [])] (by decide +kernel) (pc' := 1048) (ls' := [(2, Int.ofNat o)]) (st' := [(0, 110), (0, 4), (2, Int.ofNat (o + 45)), (2, Int.ofNat (o + 45)), (2, Int.ofNat o)]) rfl ?_
  refine jEv.asd (jlA l44) (Or.inr ⟨rfl, rfl, rfl⟩) (show jfI 200 1048 (.castore) 1 [] = true by decide +kernel) (by decide) (by decide +kernel) ?_
  refine jEv.pfR (jlP _ (jlP _ (jlP _ (jlP _ (jlP _ (jlP _ (jlP _ (jlP _ (jlP _ (jlP _ (jlP _ (jlP _ (jlP _ (jlP _ (jlP _ (jlP _ (jlP _ (jlP _ (jlP _ (jlP _ (jlP _ (jlP _ (jlP _ (jlP _ (jlP _ (jlP _ (jlP _ (jlP _ (jlP _ (jlP _ (jlP _ (jlP _ (jlP _ (jlP _ (jlP _ (jlP _ (jlP _ (jlP _ (jlP _ (jlP _ (jlP _ (jlP _ (jlP _ (jlP _ (jlP _ ho))))))))))))))))))))))))))))))))))))))))))))) (show jfI 200 1049 (.putfield 156) 3 [12, 78, 5, 0, 7114] = true by decide +kernel) (by decide) ?_
  refine jEv.blk [(.aload_n 0, 1, []), (.iconst 5, 1, [])] (by decide +kernel) (pc' := 1054) (ls' := [(2, Int.ofNat o)]) (st' := [(0, 5), (2, Int.ofNat o)]) rfl ?_
  refine jEv.nwA (n := 5) l45 (show jfI 200 1054 (.newarray .char) 2 [23] = true by decide +kernel) (by decide) rfl ?_
  have l46 := jlN (23, 5) l45
  refine jEv.blk [(.dup, 1, []), (.iconst 0, 1, []), (.bipush 116, 2, [])] (by decide +kernel) (pc' := 1060) (ls' := [(2, Int.ofNat o)]) (st' := [(0, 116), (0, 0), (2, Int.ofNat (o + 46)), (2, Int.ofNat (o + 46)), (2, Int.ofNat o)]) rfl ?_
  refine jEv.asd (jlA l45) (Or.inr ⟨rfl, rfl, rfl⟩) (show jfI 200 1060 (.castore) 1 [] = true by decide +kernel) (by decide) (by decide +kernel) ?_
  refine jEv.blk [(.dup, 1, []), (.iconst 1, 1, []), (.bipush 111, 2, [])] (by decide +kernel) (pc' := 1065) (ls' := [(2, Int.ofNat o)]) (st' := [(0, 111), (0, 1), (2, Int.ofNat (o + 46)), (2, Int.ofNat (o + 46)), (2, Int.ofNat o)]) rfl ?_
  refine jEv.asd (jlA l45) (Or.inr ⟨rfl, rfl, rfl⟩) (show jfI 200 1065 (.castore) 1 [] = true by decide +kernel) (by decide) (by decide +kernel) ?_
  refine jEv.blk [(.dup, 1, []), (.iconst 2, 1, []), (.bipush 116, 2, [])] (by decide +kernel) (pc' := 1070) (ls' := [(2, Int.ofNat o)]) (st' := [(0, 116), (0, 2), (2, Int.ofNat (o + 46)), (2, Int.ofNat (o + 46)), (2, Int.ofNat o)]) rfl ?_
  refine jEv.asd (jlA l45) (Or.inr ⟨rfl, rfl, rfl⟩) (show jfI 200 1070 (.castore) 1 [] = true by decide +kernel) (by decide) (by decide +kernel) ?_
  refine jEv.blk [(.dup, 1, []), (.iconst 3, 1, []), (.bipush 97, 2, [])] (by decide +kernel) (pc' := 1075) (ls' := [(2, Int.ofNat o)]) (st' := [(0, 97), (0, 3), (2, Int.ofNat (o + 46)), (2, Int.ofNat (o + 46)), (2, Int.ofNat o)]) rfl ?_
  refine jEv.asd (jlA l45) (Or.inr ⟨rfl, rfl, rfl⟩) (show jfI 200 1075 (.castore) 1 [] = true by decide +kernel) (by decide) (by decide +kernel) ?_
  refine jEv.blk [(.dup, 1, []), (.iconst 4, 1, []), (.bipush 108, 2, [])] (by decide +kernel) (pc' := 1080) (ls' := [(2, Int.ofNat o)]) (st' := [(0, 108), (0, 4), (2, Int.ofNat (o + 46)), (2, Int.ofNat (o + 46)), (2, Int.ofNat o)]) rfl ?_
  refine jEv.asd (jlA l45) (Or.inr ⟨rfl, rfl, rfl⟩) (show jfI 200 1080 (.castore) 1 [] = true by decide +kernel) (by decide) (by decide +kernel) ?_
  refine jEv.pfR (jlP _ (jlP _ (jlP _ (jlP _ (jlP _ (jlP _ (jlP _ (jlP _ (jlP _ (jlP _ (jlP _ (jlP _ (jlP _ (jlP _ (jlP _ (jlP _ (jlP _ (jlP _ (jlP _ (jlP _ (jlP _ (jlP _ (jlP _ (jlP _ (jlP _ (jlP _ (jlP _ (jlP _ (jlP _ (jlP _ (jlP _ (jlP _ (jlP _ (jlP _ (jlP _ (jlP _ (jlP _ (jlP _ (jlP _ (jlP _ (jlP _ (jlP _ (jlP _ (jlP _ (jlP _ (jlP _ ho)))))))))))))))))))))))))))))))))))))))))))))) (show jfI 200 1081 (.putfield 159) 3 [12, 79, 5, 0, 7115] = true by decide +kernel) (by decide) ?_
  refine jEv.blk [(.aload_n 0, 1, []), (.iconst 4, 1, [])] (by decide +kernel) (pc' := 1086) (ls' := [(2, Int.ofNat o)]) (st' := [(0, 4), (2, Int.ofNat o)]) rfl ?_
  refine jEv.nwA (n := 4) l46 (show jfI 200 1086 (.newarray .char) 2 [23] = true by decide +kernel) (by decide) rfl ?_
  have l47 := jlN (23, 4) l46
  refine jEv.blk [(.dup, 1, []), (.iconst 0, 1, []), (.bipush 109, 2, [])] (by decide +kernel) (pc' := 1092) (ls' := [(2, Int.ofNat o)]) (st' := [(0, 109), (0, 0), (2, Int.ofNat (o + 47)), (2, Int.ofNat (o + 47)), (2, Int.ofNat o)]) rfl ?_
  refine jEv.asd (jlA l46) (Or.inr ⟨rfl, rfl, rfl⟩) (show jfI 200 1092 (.castore) 1 [] = true by decide +kernel) (by decide) (by decide +kernel) ?_
  refine jEv.blk [(.dup, 1, []), (.iconst 1, 1, []), (.bipush 111, 2, [])] (by decide +kernel) (pc' := 1097) (ls' := [(2, Int.ofNat o)]) (st' := [(0, 111), (0, 1), (2, Int.ofNat (o + 47)), (2, Int.ofNat (o + 47)), (2, Int.ofNat o)]) rfl ?_
  refine jEv.asd (jlA l46) (Or.inr ⟨rfl, rfl, rfl⟩) (show jfI 200 1097 (.castore) 1 [] = true by decide +kernel) (by decide) (by decide +kernel) ?_
  refine jEv.blk [(.dup, 1, []), (.iconst 2, 1, []), (.bipush 115, 2, [])] (by decide +kernel) (pc' := 1102) (ls' := [(2, Int.ofNat o)]) (st' := [(0, 115), (0, 2), (2, Int.ofNat (o + 47)), (2, Int.ofNat (o + 47)), (2, Int.ofNat o)]) rfl ?_
  refine jEv.asd (jlA l46) (Or.inr ⟨rfl, rfl, rfl⟩) (show jfI 200 1102 (.castore) 1 [] = true by decide +kernel) (by decide) (by decide +kernel) ?_
  refine jEv.blk [(.dup, 1, []), (.iconst 3, 1, []), (.bipush 116, 2, [])] (by decide +kernel) (pc' := 1107) (ls' := [(2, Int.ofNat o)]) (st' := [(0, 116), (0, 3), (2, Int.ofNat (o + 47)), (2, Int.ofNat (o + 47)), (2, Int.ofNat o)]) rfl ?_
  refine jEv.asd (jlA l46) (Or.inr ⟨rfl, rfl, rfl⟩) (show jfI 200 1107 (.castore) 1 [] = true by decide +kernel) (by decide) (by decide +kernel) ?_
  refine jEv.pfR (jlP _ (jlP _ (jlP _ (jlP _ (jlP _ (jlP _ (jlP _ (jlP _ (jlP _ (jlP _ (jlP _ (jlP _ (jlP _ (jlP _ (jlP _ (jlP _ (jlP _ (jlP _ (jlP _ (jlP _ (jlP _ (jlP _ (jlP _ (jlP _ (jlP _ (jlP _ (jlP _ (jlP _ (jlP _ (jlP _ (jlP _ (jlP _ (jlP _ (jlP _ (jlP _ (jlP _ (jlP _ (jlP _ (jlP _ (jlP _ (jlP _ (jlP _ (jlP _ (jlP _ (jlP _ (jlP _ (jlP _ ho))))))))))))))))))))))))))))))))))))))))))))))) (show jfI 200 1108 (.putfield 162) 3 [12, 80, 5, 0, 7116] = true by decide +kernel) (by decide) ?_
  refine jEv.blk [(.aload_n 0, 1, []), (.iconst 5, 1, [])] (by decide +kernel) (pc' := 1113) (ls' := [(2, Int.ofNat o)]) (st' := [(0, 5), (2, Int.ofNat o)]) rfl ?_
  refine jEv.nwA (n := 5) l47 (show jfI 200 1113 (.newarray .char) 2 [23] = true by decide +kernel) (by decide) rfl ?_
  have l48 := jlN (23, 5) l47
  refine jEv.blk [(.dup, 1, []), (.iconst 0, 1, []), (.bipush 108, 2, [])] (by decide +kernel) (pc' := 1119) (ls' := [(2, Int.ofNat o)]) (st' := [(0, 108), (0, 0), (2, Int.ofNat (o + 48)), (2, Int.ofNat (o + 48)), (2, Int.ofNat o)]) rfl ?_
  refine jEv.asd (jlA l47) (Or.inr ⟨rfl, rfl, rfl⟩) (show jfI 200 1119 (.castore) 1 [] = true by decide +kernel) (by decide) (by decide +kernel) ?_
  refine jEv.blk [(.dup, 1, []), (.iconst 1, 1, []), (.bipush 101, 2, [])] (by decide +kernel) (pc' := 1124) (ls' := [(2, Int.ofNat o)]) (st' := [(0, 101), (0, 1), (2, Int.ofNat (o + 48)), (2, Int.ofNat (o + 48)), (2, Int.ofNat o)]) rfl ?_
  refine jEv.asd (jlA l47) (Or.inr ⟨rfl, rfl, rfl⟩) (show jfI 200 1124 (.castore) 1 [] = true by decide +kernel) (by decide) (by decide +kernel) ?_
  refine jEv.blk [(.dup, 1, []), (.iconst 2, 1, []), (.bipush 97, 2, [])] (by decide +kernel) (pc' := 1129) (ls' := [(2, Int.ofNat o)]) (st' := [(0, 97), (0, 2), (2, Int.ofNat (o + 48)), (2, Int.ofNat (o + 48)), (2, Int.ofNat o)]) rfl ?_
  refine jEv.asd (jlA l47) (Or.inr ⟨rfl, rfl, rfl⟩) (show jfI 200 1129 (.castore) 1 [] = true by decide +kernel) (by decide) (by decide +kernel) ?_
  refine jEv.blk [(.dup, 1, []), (.iconst 3, 1, []), (.bipush 115, 2, [])] (by decide +kernel) (pc' := 1134) (ls' := [(2, Int.ofNat o)]) (st' := [(0, 115), (0, 3), (2, Int.ofNat (o + 48)), (2, Int.ofNat (o + 48)), (2, Int.ofNat o)]) rfl ?_
  refine jEv.asd (jlA l47) (Or.inr ⟨rfl, rfl, rfl⟩) (show jfI 200 1134 (.castore) 1 [] = true by decide +kernel) (by decide) (by decide +kernel) ?_
  refine jEv.blk [(.dup, 1, []), (.iconst 4, 1, []), (.bipush 116, 2, [])] (by decide +kernel) (pc' := 1139) (ls' := [(2, Int.ofNat o)]) (st' := [(0, 116), (0, 4), (2, Int.ofNat (o + 48)), (2, Int.ofNat (o + 48)), (2, Int.ofNat o)]) rfl ?_
  refine jEv.asd (jlA l47) (Or.inr ⟨rfl, rfl, rfl⟩) (show jfI 200 1139 (.castore) 1 [] = true by decide +kernel) (by decide) (by decide +kernel) ?_
  refine jEv.pfR (jlP _ (jlP _ (jlP _ (jlP _ (jlP _ (jlP _ (jlP _ (jlP _ (jlP _ (jlP _ (jlP _ (jlP _ (jlP _ (jlP _ (jlP _ (jlP _ (jlP _ (jlP _ (jlP _ (jlP _ (jlP _ (jlP _ (jlP _ (jlP _ (jlP _ (jlP _ (jlP _ (jlP _ (jlP _ (jlP _ (jlP _ (jlP _ (jlP _ (jlP _ (jlP _ (jlP _ (jlP _ (jlP _ (jlP _ (jlP _ (jlP _ (jlP _ (jlP _ (jlP _ (jlP _ (jlP _ (jlP _ (jlP _ ho)))))))))))))))))))))))))))))))))))))))))))))))) (show jfI 200 1140 (.putfield 165) 3 [12, 81, 5, 0, 7117] = true by decide +kernel) (by decide) ?_
  refine jEv.blk [(.aload_n 0, 1, []), (.iconst 3, 1, [])] (by decide +kernel) (pc' := 1145) (ls' := [(2, Int.ofNat o)]) (st' := [(0, 3), (2, Int.ofNat o)]) rfl ?_
  refine jEv.nwA (n := 3) l48 (show jfI 200 1145 (.newarray .char) 2 [23] = true by decide +kernel) (by decide) rfl ?_
  have l49 := jlN (23, 3) l48
  refine jEv.blk [(.dup, 1, []), (.iconst 0, 1, []), (.bipush 110, 2, [])] (by decide +kernel) (pc' := 1151) (ls' := [(2, Int.ofNat o)]) (st' := [(0, 110), (0, 0), (2, Int.ofNat (o + 49)), (2, Int.ofNat (o + 49)), (2, Int.ofNat o)]) rfl ?_
  refine jEv.asd (jlA l48) (Or.inr ⟨rfl, rfl, rfl⟩) (show jfI 200 1151 (.castore) 1 [] = true by decide +kernel) (by decide) (by decide +kernel) ?_
  refine jEv.blk [(.dup, 1, []), (.iconst 1, 1, []), (.bipush 111, 2, [])] (by decide +kernel) (pc' := 1156) (ls' := [(2, Int.ofNat o)]) (st' := [(0, 111), (0, 1), (2, Int.ofNat (o + 49)), (2, Int.ofNat (o + 49)), (2, Int.ofNat o)]) rfl ?_
  refine jEv.asd (jlA l48) (Or.inr ⟨rfl, rfl, rfl⟩) (show jfI 200 1156 (.castore) 1 [] = true by decide +kernel) (by decide) (by decide +kernel) ?_
  refine jEv.blk [(.dup, 1, []), (.iconst 2, 1, []), (.bipush 116, 2, [])] (by decide +kernel) (pc' := 1161) (ls' := [(2, Int.ofNat o)]) (st' := [(0, 116), (0, 2), (2, Int.ofNat (o + 49)), (2, Int.ofNat (o + 49)), (2, Int.ofNat o)]) rfl ?_
  refine jEv.asd (jlA l48) (Or.inr ⟨rfl, rfl, rfl⟩) (show jfI 200 1161 (.castore) 1 [] = true by decide +kernel) (by decide) (by decide +kernel) ?_
  refine jEv.pfR (jlP _ (jlP _ (jlP _ (jlP _ (jlP _ (jlP _ (jlP _ (jlP _ (jlP _ (jlP _ (jlP _ (jlP _ (jlP _ (jlP _ (jlP _ (jlP _ (jlP _ (jlP _ (jlP _ (jlP _ (jlP _ (jlP _ (jlP _ (jlP _ (jlP _ (jlP _ (jlP _ (jlP _ (jlP _ (jlP _ (jlP _ (jlP _ (jlP _ (jlP _ (jlP _ (jlP _ (jlP _ (jlP _ (jlP _ (jlP _ (jlP _ (jlP _ (jlP _ (jlP _ (jlP _ (jlP _ (jlP _ (jlP _ (jlP _ ho))))))))))))))))))))))))))))))))))))))))))))))))) (show jfI 200 1162 (.putfield 168) 3 [12, 82, 5, 0, 7118] = true by decide +kernel) (by decide) ?_
  refine jEv.blk [(.aload_n 0, 1, []), (.iconst 3, 1, [])] (by decide +kernel) (pc' := 1167) (ls' := [(2, Int.ofNat o)]) (st' := [(0, 3), (2, Int.ofNat o)]) rfl ?_
  refine jEv.nwA (n := 3) l49 (show jfI 200 1167 (.newarray .char) 2 [23] = true by decide +kernel) (by decide) rfl ?_
  have l50 := jlN (23, 3) l49
  refine jEv.blk [(.dup, 1, []), (.iconst 0, 1, []), (.bipush 97, 2, [])] (by decide +kernel) (pc' := 1173) (ls' := [(2, Int.ofNat o)]) (st' := [(0, 97), (0, 0), (2, Int.ofNat (o + 50)), (2, Int.ofNat (o + 50)), (2, Int.ofNat o)]) rfl ?_
  refine jEv.asd (jlA l49) (Or.inr ⟨rfl, rfl, rfl⟩) (show jfI 200 1173 (.castore) 1 [] = true by decide +kernel) (by decide) (by decide +kernel) ?_
  refine jEv.blk [(.dup, 1, []), (.iconst 1, 1, []), (.bipush 110, 2, [])] (by decide +kernel) (pc' := 1178) (ls' := [(2, Int.ofNat o)]) (st' := [(0, 110), (0, 1), (2, Int.ofNat (o + 50)), (2, Int.ofNat (o + 50)), (2, Int.ofNat o)]) rfl ?_
  refine jEv.asd (jlA l49) (Or.inr ⟨rfl, rfl, rfl⟩) (show jfI 200 1178 (.castore) 1 [] = true by decide +kernel) (by decide) (by decide +kernel) ?_
  refine jEv.blk [(.dup, 1, []), (.iconst 2, 1, []), (.bipush 100, 2, [])] (by decide +kernel) (pc' := 1183) (ls' := [(2, Int.ofNat o)]) (st' := [(0, 100), (0, 2), (2, Int.ofNat (o + 50)), (2, Int.ofNat (o + 50)), (2, Int.ofNat o)]) rfl ?_
  refine jEv.asd (jlA l49) (Or.inr ⟨rfl, rfl, rfl⟩) (show jfI 200 1183 (.castore) 1 [] = true by decide +kernel) (by decide) (by decide +kernel) ?_
  refine jEv.pfR (jlP _ (jlP _ (jlP _ (jlP _ (jlP _ (jlP _ (jlP _ (jlP _ (jlP _ (jlP _ (jlP _ (jlP _ (jlP _ (jlP _ (jlP _ (jlP _ (jlP _ (jlP _ (jlP _ (jlP _ (jlP _ (jlP _ (jlP _ (jlP _ (jlP _ (jlP _ (jlP _ (jlP _ (jlP _ (jlP _ (jlP _ (jlP _ (jlP _ (jlP _ (jlP _ (jlP _ (jlP _ (jlP _ (jlP _ (jlP _ (jlP _ (jlP _ (jlP _ (jlP _ (jlP _ (jlP _ (jlP _ (jlP _ (jlP _ (jlP _ ho)))))))))))))))))))))))))))))))))))))))))))))))))) (show jfI 200 1184 (.putfield 171) 3 [12, 83, 5, 0, 7119] = true by decide +kernel) (by decide) ?_
  refine jEv.blk [(.aload_n 0, 1, []), (.iconst 2, 1, [])] (by decide +kernel) (pc' := 1189) (ls' := [(2, Int.ofNat o)]) (st' := [(0, 2), (2, Int.ofNat o)]) rfl ?_
  refine jEv.nwA (n := 2) l50 (show jfI 200 1189 (.newarray .char) 2 [23] = true by decide +kernel) (by decide) rfl ?_
  have l51 := jlN (23, 2) l50
  refine jEv.blk [(.dup, 1, []), (.iconst 0, 1, []), (.bipush 111, 2, [])] (by decide +kernel) (pc' := 1195) (ls' := [(2, Int.ofNat o)]) (st' := [(0, 111), (0, 0), (2, Int.ofNat (o + 51)), (2, Int.ofNat (o + 51)), (2, Int.ofNat o)]) rfl ?_
  refine jEv.asd (jlA l50) (Or.inr ⟨rfl, rfl, rfl⟩) (show jfI 200 1195 (.castore) 1 [] = true by decide +kernel) (by decide) (by decide +kernel) ?_
  refine jEv.blk [(.dup, 1, []), (.iconst 1, 1, []), (.bipush 114, 2, [])] (by decide +kernel) (pc' := 1200) (ls' := [(2, Int.ofNat o)]) (st' := [(0, 114), (0, 1), (2, Int.ofNat (o + 51)), (2, Int.ofNat (o + 51)), (2, Int.ofNat o)]) rfl ?_
  refine jEv.asd (jlA l50) (Or.inr ⟨rfl, rfl, rfl⟩) (show jfI 200 1200 (.castore) 1 [] = true by decide +kernel) (by decide) (by decide +kernel) ?_
  refine jEv.pfR (jlP _ (jlP _ (jlP _ (jlP _ (jlP _ (jlP _ (jlP _ (jlP _ (jlP _ (jlP _ (jlP _ (jlP _ (jlP _ (jlP _ (jlP _ (jlP _ (jlP _ (jlP _ (jlP _ (jlP _ (jlP _ (jlP _ (jlP _ (jlP _ (jlP _ (jlP _ (jlP _ (jlP _ (jlP _ (jlP _ (jlP _ (jlP _ (jlP _ (jlP _ (jlP _ (jlP _ (jlP _ (jlP _ (jlP _ (jlP _ (jlP _ (jlP _ (jlP _ (jlP _ (jlP _ (jlP _ (jlP _ (jlP _ (jlP _ (jlP _ (jlP _ ho))))))))))))))))))))))))))))))))))))))))))))))))))) (show jfI 200 1201 (.putfield 174) 3 [12, 84, 5, 0, 7120] = true by decide +kernel) (by decide) ?_
  refine jEv.blk [(.aload_n 0, 1, []), (.iconst 3, 1, [])] (by decide +kernel) (pc' := 1206) (ls' := [(2, Int.ofNat o)]) (st' := [(0, 3), (2, Int.ofNat o)]) rfl ?_
  refine jEv.nwA (n := 3) l51 (show jfI 200 1206 (.newarray .char) 2 [23] = true by decide +kernel) (by decide) rfl ?_
  have l52 := jlN (23, 3) l51
  refine jEv.blk [(.dup, 1, []), (.iconst 0, 1, []), (.bipush 97, 2, [])] (by decide +kernel) (pc' := 1212) (ls' := [(2, Int.ofNat o)]) (st' := [(0, 97), (0, 0), (2, Int.ofNat (o + 52)), (2, Int.ofNat (o + 52)), (2, Int.ofNat o)]) rfl ?_
  refine jEv.asd (jlA l51) (Or.inr ⟨rfl, rfl, rfl⟩) (show jfI 200 1212 (.castore) 1 [] = true by decide +kernel) (by decide) (by decide +kernel) ?_
  refine jEv.blk [(.dup, 1, []), (.iconst 1, 1, []), (.bipush 108, 2, [])] (by decide +kernel) (pc' := 1217) (ls' := [(2, Int.ofNat o)]) (st' := [(0, 108), (0, 1), (2, Int.ofNat (o + 52)), (2, Int.ofNat (o + 52)), (2, Int.ofNat o)]) rfl ?_
  refine jEv.asd (jlA l51) (Or.inr ⟨rfl, rfl, rfl⟩) (show jfI 200 1217 (.castore) 1 [] = true by decide +kernel) (by decide) (by decide +kernel) ?_
  refine jEv.blk [(.dup, 1, []), (.iconst 2, 1, []), (.bipush 108, 2, [])] (by decide +kernel) (pc' := 1222) (ls' := [(2, Int.ofNat o)]) (st' := [(0, 108), (0, 2), (2, Int.ofNat (o + 52)), (2, Int.ofNat (o + 52)), (2, Int.ofNat o)]) rfl ?_
  refine jEv.asd (jlA l51) (Or.inr ⟨rfl, rfl, rfl⟩) (show jfI 200 1222 (.castore) 1 [] = true by decide +kernel) (by decide) (by decide +kernel) ?_
  refine jEv.pfR (jlP _ (jlP _ (jlP _ (jlP _ (jlP _ (jlP _ (jlP _ (jlP _ (jlP _ (jlP _ (jlP _ (jlP _ (jlP _ (jlP _ (jlP _ (jlP _ (jlP _ (jlP _ (jlP _ (jlP _ (jlP _ (jlP _ (jlP _ (jlP _ (jlP _ (jlP _ (jlP _ (jlP _ (jlP _ (jlP _ (jlP _ (jlP _ (jlP _ (jlP _ (jlP _ (jlP _ (jlP _ (jlP _ (jlP _ (jlP _ (jlP _ (jlP _ (jlP _ (jlP _ (jlP _ (jlP _ (jlP _ (jlP _ (jlP _ (jlP _ (jlP _ (jlP _ ho)))))))))))))))))))))))))))))))))))))))))))))))))))) (show jfI 200 1223 (.putfield 177) 3 [12, 85, 5, 0, 7121] = true by decide +kernel) (by decide) ?_
  refine jEv.blk [(.aload_n 0, 1, []), (.iconst 3, 1, [])] (by decide +kernel) (pc' := 1228) (ls' := [(2, Int.ofNat o)]) (st' := [(0, 3), (2, Int.ofNat o)]) rfl ?_
  refine jEv.nwA (n := 3) l52 (show jfI 200 1228 (.newarray .char) 2 [23] = true by decide +kernel) (by decide) rfl ?_
  have l53 := jlN (23, 3) l52
  refine jEv.blk [(.dup, 1, []), (.iconst 0, 1, []), (.bipush 109, 2, [])] (by decide +kernel) (pc' := 1234) (ls' := [(2, Int.ofNat o)]) (st' := [(0, 109), (0, 0), (2, Int.ofNat (o + 53)), (2, Int.ofNat (o + 53)), (2, Int.ofNat o)]) rfl ?_
  refine jEv.asd (jlA l52) (Or.inr ⟨rfl, rfl, rfl⟩) (show jfI 200 1234 (.castore) 1 [] = true by decide +kernel) (by decide) (by decide +kernel) ?_
  refine jEv.blk [(.dup, 1, []), (.iconst 1, 1, []), (.bipush 105, 2, [])] (by decide +kernel) (pc' := 1239) (ls' := [(2, Int.ofNat o)]) (st' := [(0, 105), (0, 1), (2, Int.ofNat (o + 53)), (2, Int.ofNat (o + 53)), (2, Int.ofNat o)]) rfl ?_
  refine jEv.asd (jlA l52) (Or.inr ⟨rfl, rfl, rfl⟩) (show jfI 200 1239 (.castore) 1 [] = true by decide +kernel) (by decide) (by decide +kernel) ?_
  refine jEv.blk [(.dup, 1, []), (.iconst 2, 1, []), (.bipush 110, 2, [])] (by decide +kernel) (pc' := 1244) (ls' := [(2, Int.ofNat o)]) (st' := [(0, 110), (0, 2), (2, Int.ofNat (o + 53)), (2, Int.ofNat (o + 53)), (2, Int.ofNat o)]) rfl ?_
  refine jEv.asd (jlA l52) (Or.inr ⟨rfl, rfl, rfl⟩) (show jfI 200 1244 (.castore) 1 [] = true by decide +kernel) (by decide) (by decide +kernel) ?_
  refine jEv.pfR (jlP _ (jlP _ (jlP _ (jlP _ (jlP _ (jlP _ (jlP _ (jlP _ (jlP _ (jlP _ (jlP _ (jlP _ (jlP _ (jlP _ (jlP _ (jlP _ (jlP _ (jlP _ (jlP _ (jlP _ (jlP _ (jlP _ (jlP _ (jlP _ (jlP _ (jlP _ (jlP _ (jlP _ (jlP _ (jlP _ (jlP _ (jlP _ (jlP _ (jlP _ (jlP _ (jlP _ (jlP _ (jlP _ (jlP _ (jlP _ (jlP _ (jlP _ (jlP _ (jlP _ (jlP _ (jlP _ (jlP _ (jlP _ (jlP _ (jlP _ (jlP _ (jlP _ (jlP _ ho))))))))))))))))))))))))))))))))))))))))))))))))))))) (show jfI 200 1245 (.putfield 180) 3 [12, 86, 5, 0, 7122] = true by decide +kernel) (by decide) ?_
  refine jEv.blk [(.aload_n 0, 1, []), (.iconst 3, 1, [])] (by decide +kernel) (pc' := 1250) (ls' := [(2, Int.ofNat o)]) (st' := [(0, 3), (2, Int.ofNat o)]) rfl ?_
  refine jEv.nwA (n := 3) l53 (show jfI 200 1250 (.newarray .char) 2 [23] = true by decide +kernel) (by decide) rfl ?_
  have l54 := jlN (23, 3) l53
  refine jEv.blk [(.dup, 1, []), (.iconst 0, 1, []), (.bipush 109, 2, [])] (by decide +kernel) (pc' := 1256) (ls' := [(2, Int.ofNat o)]) (st' := [(0, 109), (0, 0), (2, Int.ofNat (o + 54)), (2, Int.ofNat (o + 54)), (2, Int.ofNat o)]) rfl ?_
  refine jEv.asd (jlA l53) (Or.inr ⟨rfl, rfl, rfl⟩) (show jfI 200 1256 (.castore) 1 [] = true by decide +kernel) (by decide) (by decide +kernel) ?_
  refine jEv.blk [(.dup, 1, []), (.iconst 1, 1, []), (.bipush 97, 2, [])] (by decide +kernel) (pc' := 1261) (ls' := [(2, Int.ofNat o)]) (st' := [(0, 97), (0, 1), (2, Int.ofNat (o + 54)), (2, Int.ofNat (o + 54)), (2, Int.ofNat o)]) rfl ?_
  refine jEv.asd (jlA l53) (Or.inr ⟨rfl, rfl, rfl⟩) (show jfI 200 1261 (.castore) 1 [] = true by decide +kernel) (by decide) (by decide +kernel) ?_
  refine jEv.blk [(.dup, 1, []), (.iconst 2, 1, []), (.bipush 120, 2, [])] (by decide +kernel) (pc' := 1266) (ls' := [(2, Int.ofNat o)]) (st' := [(0, 120), (0, 2), (2, Int.ofNat (o + 54)), (2, Int.ofNat (o + 54)), (2, Int.ofNat o)]) rfl ?_
  refine jEv.asd (jlA l53) (Or.inr ⟨rfl, rfl, rfl⟩) (show jfI 200 1266 (.castore) 1 [] = true by decide +kernel) (by decide) (by decide +kernel) ?_
  refine jEv.pfR (jlP _ (jlP _ (jlP _ (jlP _ (jlP _ (jlP _ (jlP _ (jlP _ (jlP _ (jlP _ (jlP _ (jlP _ (jlP _ (jlP _ (jlP _ (jlP _ (jlP _ (jlP _ (jlP _ (jlP _ (jlP _ (jlP _ (jlP _ (jlP _ (jlP _ (jlP _ (jlP _ (jlP _ (jlP _ (jlP _ (jlP _ (jlP _ (jlP _ (jlP _ (jlP _ (jlP _ (jlP _ (jlP _ (jlP _ (jlP _ (jlP _ (jlP _ (jlP _ (jlP _ (jlP _ (jlP _ (jlP _ (jlP _ (jlP _ (jlP _ (jlP _ (jlP _ (jlP _ (jlP _ ho)))))))))))))))))))))))))))))))))))))))))))))))))))))) (show jfI 200 1267 (.putfield 183) 3 [12, 87, 5, 0, 7123] = true by decide +kernel) (by decide) ?_
  refine jEv.blk [(.aload_n 0, 1, []), (.iconst 4, 1, [])] (by decide +kernel) (pc' := 1272) (ls' := [(2, Int.ofNat o)]) (st' := [(0, 4), (2, Int.ofNat o)]) rfl ?_
  refine jEv.nwA (n := 4) l54 (show jfI 200 1272 (.newarray .char) 2 [23] = true by decide +kernel) (by decide) rfl ?_
  have l55 := jlN (23, 4) l54
  refine jEv.blk [(.dup, 1, []), (.iconst 0, 1, []), (.bipush 116, 2, [])] (by decide +kernel) (pc' := 1278) (ls' := [(2, Int.ofNat o)]) (st' := [(0, 116), (0, 0), (2, Int.ofNat (o + 55)), (2, Int.ofNat (o + 55)), (2, Int.ofNat o)]) rfl ?_
  refine jEv.asd (jlA l54) (Or.inr ⟨rfl, rfl, rfl⟩) (show jfI 200 1278 (.castore) 1 [] = true by decide +kernel) (by decide) (by decide +kernel) ?_
  refine jEv.blk [(.dup, 1, []), (.iconst 1, 1, []), (.bipush 105, 2, [])] (by decide +kernel) (pc' := 1283) (ls' := [(2, Int.ofNat o)]) (st' := [(0, 105), (0, 1), (2, Int.ofNat (o + 55)), (2, Int.ofNat (o + 55)), (2, Int.ofNat o)]) rfl ?_
  refine jEv.asd (jlA l54) (Or.inr ⟨rfl, rfl, rfl⟩) (show jfI 200 1283 (.castore) 1 [] = true by decide +kernel) (by decide) (by decide +kernel) ?_
  refine jEv.blk [(.dup, 1, []), (.iconst 2, 1, []), (.bipush 99, 2, [])] (by decide +kernel) (pc' := 1288) (ls' := [(2, Int.ofNat o)]) (st' := [(0, 99), (0, 2), (2, Int.ofNat (o + 55)), (2, Int.ofNat (o + 55)), (2, Int.ofNat o)]) rfl ?_
  refine jEv.asd (jlA l54) (Or.inr ⟨rfl, rfl, rfl⟩) (show jfI 200 1288 (.castore) 1 [] = true by decide +kernel) (by decide) (by decide +kernel) ?_
  refine jEv.blk [(.dup, 1, []), (.iconst 3, 1, []), (.bipush 107, 2, [])] (by decide +kernel) (pc' := 1293) (ls' := [(2, Int.ofNat o)]) (st' := [(0, 107), (0, 3), (2, Int.ofNat (o + 55)), (2, Int.ofNat (o + 55)), (2, Int.ofNat o)]) rfl ?_
  refine jEv.asd (jlA l54) (Or.inr ⟨rfl, rfl, rfl⟩) (show jfI 200 1293 (.castore) 1 [] = true by decide +kernel) (by decide) (by decide +kernel) ?_
  refine jEv.pfR (jlP _ (jlP _ (jlP _ (jlP _ (jlP _ (jlP _ (jlP _ (jlP _ (jlP _ (jlP _ (jlP _ (jlP _ (jlP _ (jlP _ (jlP _ (jlP _ (jlP _ (jlP _ (jlP _ (jlP _ (jlP _ (jlP _ (jlP _ (jlP _ (jlP _ (jlP _ (jlP _ (jlP _ (jlP _ (jlP _ (jlP _ (jlP _ (jlP _ (jlP _ (jlP _ (jlP _ (jlP _ (jlP _ (jlP _ (jlP _ (jlP _ (jlP _ (jlP _ (jlP _ (jlP _ (jlP _ (jlP _ (jlP _ (jlP _ (jlP _ (jlP _ (jlP _ (jlP _ (jlP _ (jlP _ ho))))))))))))))))))))))))))))))))))))))))))))))))))))))) (show jfI 200 1294 (.putfield 186) 3 [12, 88, 5, 0, 7124] = true by decide +kernel) (by decide) ?_
  refine jEv.blk [(.aload_n 0, 1, []), (.bipush 7, 2, [])] (by decide +kernel) (pc' := 1300) (ls' := [(2, Int.ofNat o)]) (st' := [(0, 7), (2, Int.ofNat o)]) rfl ?_
  refine jEv.nwA (n := 7) l55 (show jfI 200 1300 (.newarray .char) 2 [23] = true by decide +kernel) (by decide) rfl ?_
  have l56 := jlN (23, 7) l55
  refine jEv.blk [(.dup, 1, []), (.iconst 0, 1, []), (.bipush 114, 2, [])] (by decide +kernel) (pc' := 1306) (ls' := [(2, Int.ofNat o)]) (st' := [(0, 114), (0, 0), (2, Int.ofNat (o + 56)), (2, Int.ofNat (o + 56)), (2, Int.ofNat o)]) rfl ?_
  refine jEv.asd (jlA l55) (Or.inr ⟨rfl, rfl, rfl⟩) (show jfI 200 1306 (.castore) 1 [] = true by decide +kernel) (by decide) (by decide +kernel) ?_
  refine jEv.blk [(.dup, 1, []), (.iconst 1, 1, []), (.bipush 101, 2, [])] (by decide +kernel) (pc' := 1311) (ls' := [(2, Int.ofNat o)]) (st' := [(0, 101), (0, 1), (2, Int.ofNat (o + 56)), (2, Int.ofNat (o + 56)), (2, Int.ofNat o)]) rfl ?_
  refine jEv.asd (jlA l55) (Or.inr ⟨rfl, rfl, rfl⟩) (show jfI 200 1311 (.castore) 1 [] = true by decide +kernel) (by decide) (by decide +kernel) ?_
  refine jEv.blk [(.dup, 1, []), (.iconst 2, 1, []), (.bipush 99, 2, [])] (by decide +kernel) (pc' := 1316) (ls' := [(2, Int.ofNat o)]) (st' := [(0, 99), (0, 2), (2, Int.ofNat (o + 56)), (2, Int.ofNat (o + 56)), (2, Int.ofNat o)]) rfl ?_
  refine jEv.asd (jlA l55) (Or.inr ⟨rfl, rfl, rfl⟩) (show jfI 200 1316 (.castore) 1 [] = true by decide +kernel) (by decide) (by decide +kernel) ?_
  refine jEv.blk [(.dup, 1, []), (.iconst 3, 1, []), (.bipush 111, 2, [])] (by decide +kernel) (pc' := 1321) (ls' := [(2, Int.ofNat o)]) (st' := [(0, 111), (0, 3), (2, Int.ofNat (o + 56)), (2, Int.ofNat (o + 56)), (2, Int.ofNat o)]) rfl ?_
  refine jEv.asd (jlA l55) (Or.inr ⟨rfl, rfl, rfl⟩) (show jfI 200 1321 (.castore) 1 [] = true by decide +kernel) (by decide) (by decide +kernel) ?_
  refine jEv.blk [(.dup, 1, []), (.iconst 4, 1, []), (.bipush 114, 2, [])] (by decide +kernel) (pc' := 1326) (ls' := [(2, Int.ofNat o)]) (st' := [(0, 114), (0, 4), (2, Int.ofNat (o + 56)), (2, Int.ofNat (o + 56)), (2, Int.ofNat o)]) rfl ?_
  refine jEv.asd (jlA l55) (Or.inr ⟨rfl, rfl, rfl⟩) (show jfI 200 1326 (.castore) 1 [] = true by decide +kernel) (by decide) (by decide +kernel) ?_
  refine jEv.blk [(.dup, 1, []), (.iconst 5, 1, []), (.bipush 100, 2, [])] (by decide +kernel) (pc' := 1331) (ls' := [(2, Int.ofNat o)]) (st' := [(0, 100), (0, 5), (2, Int.ofNat (o + 56)), (2, Int.ofNat (o + 56)), (2, Int.ofNat o)]) rfl ?_
  refine jEv.asd (jlA l55) (Or.inr ⟨rfl, rfl, rfl⟩) (show jfI 200 1331 (.castore) 1 [] = true by decide +kernel) (by decide) (by decide +kernel) ?_
  refine jEv.blk [(.dup, 1, []), (.bipush 6, 2, []), (.bipush 115, 2, [])] (by decide +kernel) (pc' := 1337) (ls' := [(2, Int.ofNat o)]) (st' := [(0, 115), (0, 6), (2, Int.ofNat (o + 56)), (2, Int.ofNat (o + 56)), (2, Int.ofNat o)]) rfl ?_
  refine jEv.asd (jlA l55) (Or.inr ⟨rfl, rfl, rfl⟩) (show jfI 200 1337 (.castore) 1 [] = true by decide +kernel) (by decide) (by decide +kernel) ?_
  refine jEv.pfR (jlP _ (jlP _ (jlP _ (jlP _ (jlP _ (jlP _ (jlP _ (jlP _ (jlP _ (jlP _ (jlP _ (jlP _ (jlP _ (jlP _ (jlP _ (jlP _ (jlP _ (jlP _ (jlP _ (jlP _ (jlP _ (jlP _ (jlP _ (jlP _ (jlP _ (jlP _ (jlP _ (jlP _ (jlP _ (jlP _ (jlP _ (jlP _ (jlP _ (jlP _ (jlP _ (jlP _ (jlP _ (jlP _ (jlP _ (jlP _ (jlP _ (jlP _ (jlP _ (jlP _ (jlP _ (jlP _ (jlP _ (jlP _ (jlP _ (jlP _ (jlP _ (jlP _ (jlP _ (jlP _ (jlP _ (jlP _ ho)))))))))))))))))))))))))))))))))))))))))))))))))))))))) (show jfI 200 1338 (.putfield 189) 3 [12, 89, 5, 0, 7125] = true by decide +kernel) (by decide) ?_
  refine jEv.blk [(.aload_n 0, 1, []), (.bipush 7, 2, [])] (by decide +kernel) (pc' := 1344) (ls' := [(2, Int.ofNat o)]) (st' := [(0, 7), (2, Int.ofNat o)]) rfl ?_
  refine jEv.nwA (n := 7) l56 (show jfI 200 1344 (.newarray .char) 2 [23] = true by decide +kernel) (by decide) rfl ?_
  have l57 := jlN (23, 7) l56
  refine jEv.blk [(.dup, 1, []), (.iconst 0, 1, []), (.bipush 112, 2, [])] (by decide +kernel) (pc' := 1350) (ls' := [(2, Int.ofNat o)]) (st' := [(0, 112), (0, 0), (2, Int.ofNat (o + 57)), (2, Int.ofNat (o + 57)), (2, Int.ofNat o)]) rfl ?_
  refine jEv.asd (jlA l56) (Or.inr ⟨rfl, rfl, rfl⟩) (show jfI 200 1350 (.castore) 1 [] = true by decide +kernel) (by decide) (by decide +kernel) ?_
  refine jEv.blk [(.dup, 1, []), (.iconst 1, 1, []), (.bipush 97, 2, [])] (by decide +kernel) (pc' := 1355) (ls' := [(2, Int.ofNat o)]) (st' := [(0, 97), (0, 1), (2, Int.ofNat (o + 57)), (2, Int.ofNat (o + 57)), (2, Int.ofNat o)]) rfl ?_
  refine jEv.asd (jlA l56) (Or.inr ⟨rfl, rfl, rfl⟩) (show jfI 200 1355 (.castore) 1 [] = true by decide +kernel) (by decide) (by decide +kernel) ?_
  refine jEv.blk [(.dup, 1, []), (.iconst 2, 1, []), (.bipush 121, 2, [])] (by decide +kernel) (pc' := 1360) (ls' := [(2, Int.ofNat o)]) (st' := [(0, 121), (0, 2), (2, Int.ofNat (o + 57)), (2, Int.ofNat (o + 57)), (2, Int.ofNat o)]) rfl ?_
  refine jEv.asd (jlA l56) (Or.inr ⟨rfl, rfl, rfl⟩) (show jfI 200 1360 (.castore) 1 [] = true by decide +kernel) (by decide) (by decide +kernel) ?_
  refine jEv.blk [(.dup, 1, []), (.iconst 3, 1, []), (.bipush 108, 2, [])] (by decide +kernel) (pc' := 1365) (ls' := [(2, Int.ofNat o)]) (st' := [(0, 108), (0, 3), (2, Int.ofNat (o + 57)), (2, Int.ofNat (o + 57)), (2, Int.ofNat o)]) rfl ?_
  refine jEv.asd (jlA l56) (Or.inr ⟨rfl, rfl, rfl⟩) (show jfI 200 1365 (.castore) 1 [] = true by decide +kernel) (by decide) (by decide +kernel) ?_
  refine jEv.blk [(.dup, 1, []), (.iconst 4, 1, []), (.bipush 111, 2, [])] (by decide +kernel) (pc' := 1370) (ls' := [(2, Int.ofNat o)]) (st' := [(0, 111), (0, 4), (2, Int.ofNat (o + 57)), (2, Int.ofNat (o + 57)), (2, Int.ofNat o)]) rfl ?_
  refine jEv.asd (jlA l56) (Or.inr ⟨rfl, rfl, rfl⟩) (show jfI 200 1370 (.castore) 1 [] = true by decide +kernel) (by decide) (by decide +kernel) ?_
  refine jEv.blk [(.dup, 1, []), (.iconst 5, 1, []), (.bipush 97, 2, [])] (by decide +kernel) (pc' := 1375) (ls' := [(2, Int.ofNat o)]) (st' := [(0, 97), (0, 5), (2, Int.ofNat (o + 57)), (2, Int.ofNat (o + 57)), (2, Int.ofNat o)]) rfl ?_
  refine jEv.asd (jlA l56) (Or.inr ⟨rfl, rfl, rfl⟩) (show jfI 200 1375 (.castore) 1 [] = true by decide +kernel) (by decide) (by decide +kernel) ?_
  refine jEv.blk [(.dup, 1, []), (.bipush 6, 2, []), (.bipush 100, 2, [])] (by decide +kernel) (pc' := 1381) (ls' := [(2, Int.ofNat o)]) (st' := [(0, 100), (0, 6), (2, Int.ofNat (o + 57)), (2, Int.ofNat (o + 57)), (2, Int.ofNat o)]) rfl ?_
  refine jEv.asd (jlA l56) (Or.inr ⟨rfl, rfl, rfl⟩) (show jfI 200 1381 (.castore) 1 [] = true by decide +kernel) (by decide) (by decide +kernel) ?_
  refine jEv.pfR (jlP _ (jlP _ (jlP _ (jlP _ (jlP _ (jlP _ (jlP _ (jlP _ (jlP _ (jlP _ (jlP _ (jlP _ (jlP _ (jlP _ (jlP _ (jlP _ (jlP _ (jlP _ (jlP _ (jlP _ (jlP _ (jlP _ (jlP _ (jlP _ (jlP _ (jlP _ (jlP _ (jlP _ (jlP _ (jlP _ (jlP _ (jlP _ (jlP _ (jlP _ (jlP _ (jlP _ (jlP _ (jlP _ (jlP _ (jlP _ (jlP _ (jlP _ (jlP _ (jlP _ (jlP _ (jlP _ (jlP _ (jlP _ (jlP _ (jlP _ (jlP _ (jlP _ (jlP _ (jlP _ (jlP _ (jlP _ (jlP _ ho))))))))))))))))))))))))))))))))))))))))))))))))))))))))) (show jfI 200 1382 (.putfield 192) 3 [12, 90, 5, 0, 7126] = true by decide +kernel) (by decide) ?_
  refine jEv.blk [(.aload_n 0, 1, []), (.iconst 3, 1, [])] (by decide +kernel) (pc' := 1387) (ls' := [(2, Int.ofNat o)]) (st' := [(0, 3), (2, Int.ofNat o)]) rfl ?_
  refine jEv.nwA (n := 3) l57 (show jfI 200 1387 (.newarray .char) 2 [23] = true by decide +kernel) (by decide) rfl ?_
  have l58 := jlN (23, 3) l57
  refine jEv.blk [(.dup, 1, []), (.iconst 0, 1, []), (.bipush 97, 2, [])] (by decide +kernel) (pc' := 1393) (ls' := [(2, Int.ofNat o)]) (st' := [(0, 97), (0, 0), (2, Int.ofNat (o + 58)), (2, Int.ofNat (o + 58)), (2, Int.ofNat o)]) rfl ?_
  refine jEv.asd (jlA l57) (Or.inr ⟨rfl, rfl, rfl⟩) (show jfI 200 1393 (.castore) 1 [] = true by decide +kernel) (by decide) (by decide +kernel) ?_
  refine jEv.blk [(.dup, 1, []), (.iconst 1, 1, []), (.bipush 103, 2, [])] (by decide +kernel) (pc' := 1398) (ls' := [(2, Int.ofNat o)]) (st' := [(0, 103), (0, 1), (2, Int.ofNat (o + 58)), (2, Int.ofNat (o + 58)), (2, Int.ofNat o)]) rfl ?_
  refine jEv.asd (jlA l57) (Or.inr ⟨rfl, rfl, rfl⟩) (show jfI 200 1398 (.castore) 1 [] = true by decide +kernel) (by decide) (by decide +kernel) ?_
  refine jEv.blk [(.dup, 1, []), (.iconst 2, 1, []), (.bipush 101, 2, [])] (by decide +kernel) (pc' := 1403) (ls' := [(2, Int.ofNat o)]) (st' := [(0, 101), (0, 2), (2, Int.ofNat (o + 58)), (2, Int.ofNat (o + 58)), (2, Int.ofNat o)]) rfl ?_
  refine jEv.asd (jlA l57) (Or.inr ⟨rfl, rfl, rfl⟩) (show jfI 200 1403 (.castore) 1 [] = true by decide +kernel) (by decide) (by decide +kernel) ?_
  refine jEv.pfR (jlP _ (jlP _ (jlP _ (jlP _ (jlP _ (jlP _ (jlP _ (jlP _ (jlP _ (jlP _ (jlP _ (jlP _ (jlP _ (jlP _ (jlP _ (jlP _ (jlP _ (jlP _ (jlP _ (jlP _ (jlP _ (jlP _ (jlP _ (jlP _ (jlP _ (jlP _ (jlP _ (jlP _ (jlP _ (jlP _ (jlP _ (jlP _ (jlP _ (jlP _ (jlP _ (jlP _ (jlP _ (jlP _ (jlP _ (jlP _ (jlP _ (jlP _ (jlP _ (jlP _ (jlP _ (jlP _ (jlP _ (jlP _ (jlP _ (jlP _ (jlP _ (jlP _ (jlP _ (jlP _ (jlP _ (jlP _ (jlP _ (jlP _ ho)))))))))))))))))))))))))))))))))))))))))))))))))))))))))) (show jfI 200 1404 (.putfield 195) 3 [12, 91, 5, 0, 7127] = true by decide +kernel) (by decide) ?_
  refine jEv.blk [(.aload_n 0, 1, []), (.bipush 7, 2, [])] (by decide +kernel) (pc' := 1410) (ls' := [(2, Int.ofNat o)]) (st' := [(0, 7), (2, Int.ofNat o)]) rfl ?_
  refine jEv.nwA (n := 7) l58 (show jfI 200 1410 (.newarray .char) 2 [23] = true by decide +kernel) (by decide) rfl ?_
  have l59 := jlN (23, 7) l58
  refine jEv.blk [(.dup, 1, []), (.iconst 0, 1, []), (.bipush 119, 2, [])] (by decide +kernel) (pc' := 1416) (ls' := [(2, Int.ofNat o)]) (st' := [(0, 119), (0, 0), (2, Int.ofNat (o + 59)), (2, Int.ofNat (o + 59)), (2, Int.ofNat o)]) rfl ?_
  refine jEv.asd (jlA l58) (Or.inr ⟨rfl, rfl, rfl⟩) (show jfI 200 1416 (.castore) 1 [] = true by decide +kernel) (by decide) (by decide +kernel) ?_
  refine jEv.blk [(.dup, 1, []), (.iconst 1, 1, []), (.bipush 97, 2, [])] (by decide +kernel) (pc' := 1421) (ls' := [(2, Int.ofNat o)]) (st' := [(0, 97), (0, 1), (2, Int.ofNat (o + 59)), (2, Int.ofNat (o + 59)), (2, Int.ofNat o)]) rfl ?_
  refine jEv.asd (jlA l58) (Or.inr ⟨rfl, rfl, rfl⟩) (show jfI 200 1421 (.castore) 1 [] = true by decide +kernel) (by decide) (by decide +kernel) ?_
  refine jEv.blk [(.dup, 1, []), (.iconst 2, 1, []), (.bipush 105, 2, [])] (by decide +kernel) (pc' := 1426) (ls' := [(2, Int.ofNat o)]) (st' := [(0, 105), (0, 2), (2, Int.ofNat (o + 59)), (2, Int.ofNat (o + 59)), (2, Int.ofNat o)]) rfl ?_
  refine jEv.asd (jlA l58) (Or.inr ⟨rfl, rfl, rfl⟩) (show jfI 200 1426 (.castore) 1 [] = true by decide +kernel) (by decide) (by decide +kernel) ?_
  refine jEv.blk [(.dup, 1, []), (.iconst 3, 1, []), (.bipush 116, 2, [])] (by decide +kernel) (pc' := 1431) (ls' := [(2, Int.ofNat o)]) (st' := [(0, 116), (0, 3), (2, Int.ofNat (o + 59)), (2, Int.ofNat (o + 59)), (2, Int.ofNat o)]) rfl ?_
  refine jEv.asd (jlA l58) (Or.inr ⟨rfl, rfl, rfl⟩) (show jfI 200 1431 (.castore) 1 [] = true by decide +kernel) (by decide) (by decide +kernel) ?_
  refine jEv.blk [(.dup, 1, []), (.iconst 4, 1, []), (.bipush 101, 2, [])] (by decide +kernel) (pc' := 1436) (ls' := [(2, Int.ofNat o)]) (st' := [(0, 101), (0, 4), (2, Int.ofNat (o + 59)), (2, Int.ofNat (o + 59)), (2, Int.ofNat o)]) rfl ?_
  refine jEv.asd (jlA l58) (Or.inr ⟨rfl, rfl, rfl⟩) (show jfI 200 1436 (.castore) 1 [] = true by decide +kernel) (by decide) (by decide +kernel) ?_
  refine jEv.blk [(.dup, 1, []), (.iconst 5, 1, []), (.bipush 114, 2, [])] (by decide +kernel) (pc' := 1441) (ls' := [(2, Int.ofNat o)]) (st' := [(0, 114), (0, 5), (2, Int.ofNat (o + 59)), (2, Int.ofNat (o + 59)), (2, Int.ofNat o)]) rfl ?_
  refine jEv.asd (jlA l58) (Or.inr ⟨rfl, rfl, rfl⟩) (show jfI 200 1441 (.castore) 1 [] = true by decide +kernel) (by decide) (by decide +kernel) ?_
  refine jEv.blk [(.dup, 1, []), (.bipush 6, 2, []), (.bipush 115, 2, [])] (by decide +kernel) (pc' := 1447) (ls' := [(2, Int.ofNat o)]) (st' := [(0, 115), (0, 6), (2, Int.ofNat (o + 59)), (2, Int.ofNat (o + 59)), (2, Int.ofNat o)]) rfl ?_
  refine jEv.asd (jlA l58) (Or.inr ⟨rfl, rfl, rfl⟩) (show jfI 200 1447 (.castore) 1 [] = true by decide +kernel) (by decide) (by decide +kernel) ?_
  refine jEv.pfR (jlP _ (jlP _ (jlP _ (jlP _ (jlP _ (jlP _ (jlP _ (jlP _ (jlP _ (jlP _ (jlP _ (jlP _ (jlP _ (jlP _ (jlP _ (jlP _ (jlP _ (jlP _ (jlP _ (jlP _ (jlP _ (jlP _ (jlP _ (jlP _ (jlP _ (jlP _ (jlP _ (jlP _ (jlP _ (jlP _ (jlP _ (jlP _ (jlP _ (jlP _ (jlP _ (jlP _ (jlP _ (jlP _ (jlP _ (jlP _ (jlP _ (jlP _ (jlP _ (jlP _ (jlP _ (jlP _ (jlP _ (jlP _ (jlP _ (jlP _ (jlP _ (jlP _ (jlP _ (jlP _ (jlP _ (jlP _ (jlP _ (jlP _ (jlP _ ho))))))))))))))))))))))))))))))))))))))))))))))))))))))))))) (show jfI 200 1448 (.putfield 198) 3 [12, 92, 5, 0, 7128] = true by decide +kernel) (by decide) ?_
  refine jEv.blk [(.aload_n 0, 1, []), (.bipush 6, 2, [])] (by decide +kernel) (pc' := 1454) (ls' := [(2, Int.ofNat o)]) (st' := [(0, 6), (2, Int.ofNat o)]) rfl ?_
  refine jEv.nwA (n := 6) l59 (show jfI 200 1454 (.newarray .char) 2 [23] = true by decide +kernel) (by decide) rfl ?_
  have l60 := jlN (23, 6) l59
  refine jEv.blk [(.dup, 1, []), (.iconst 0, 1, []), (.bipush 110, 2, [])] (by decide +kernel) (pc' := 1460) (ls' := [(2, Int.ofNat o)]) (st' := [(0, 110), (0, 0), (2, Int.ofNat (o + 60)), (2, Int.ofNat (o + 60)), (2, Int.ofNat o)]) rfl ?_
  refine jEv.asd (jlA l59) (Or.inr ⟨rfl, rfl, rfl⟩) (show jfI 200 1460 (.castore) 1 [] = true by decide +kernel) (by decide) (by decide +kernel) ?_
  refine jEv.blk [(.dup, 1, []), (.iconst 1, 1, []), (.bipush 117, 2, [])] (by decide +kernel) (pc' := 1465) (ls' := [(2, Int.ofNat o)]) (st' := [(0, 117), (0, 1), (2, Int.ofNat (o + 60)), (2, Int.ofNat (o + 60)), (2, Int.ofNat o)]) rfl ?_
  refine jEv.asd (jlA l59) (Or.inr ⟨rfl, rfl, rfl⟩) (show jfI 200 1465 (.castore) 1 [] = true by decide +kernel) (by decide) (by decide +kernel) ?_
  refine jEv.blk [(.dup, 1, []), (.iconst 2, 1, []), (.bipush 109, 2, [])] (by decide +kernel) (pc' := 1470) (ls' := [(2, Int.ofNat o)]) (st' := [(0, 109), (0, 2), (2, Int.ofNat (o + 60)), (2, Int.ofNat (o + 60)), (2, Int.ofNat o)]) rfl ?_
  refine jEv.asd (jlA l59) (Or.inr ⟨rfl, rfl, rfl⟩) (show jfI 200 1470 (.castore) 1 [] = true by decide +kernel) (by decide) (by decide +kernel) ?_
  refine jEv.blk [(.dup, 1, []), (.iconst 3, 1, []), (.bipush 98, 2, [])] (by decide +kernel) (pc' := 1475) (ls' := [(2, Int.ofNat o)]) (st' := [(0, 98), (0, 3), (2, Int.ofNat (o + 60)), (2, Int.ofNat (o + 60)), (2, Int.ofNat o)]) rfl ?_
  refine jEv.asd (jlA l59) (Or.inr ⟨rfl, rfl, rfl⟩) (show jfI 200 1475 (.castore) 1 [] = true by decide +kernel) (by decide) (by decide +kernel) ?_
  refine jEv.blk [(.dup, 1, []), (.iconst 4, 1, []), (.bipush 101, 2, [])] (by decide +kernel) (pc' := 1480) (ls' := [(2, Int.ofNat o)]) (st' := [(0, 101), (0, 4), (2, Int.ofNat (o + 60)), (2, Int.ofNat (o + 60)), (2, Int.ofNat o)]) rfl ?_
  refine jEv.asd (jlA l59) (Or.inr ⟨rfl, rfl, rfl⟩) (show jfI 200 1480 (.castore) 1 [] = true by decide +kernel) (by decide) (by decide +kernel) ?_
  refine jEv.blk [(.dup, 1, []), (.iconst 5, 1, []), (.bipush 114, 2, [])] (by decide +kernel) (pc' := 1485) (ls' := [(2, Int.ofNat o)]) (st' := [(0, 114), (0, 5), (2, Int.ofNat (o + 60)), (2, Int.ofNat (o + 60)), (2, Int.ofNat o)]) rfl ?_
  refine jEv.asd (jlA l59) (Or.inr ⟨rfl, rfl, rfl⟩) (show jfI 200 1485 (.castore) 1 [] = true by decide +kernel) (by decide) (by decide +kernel) ?_
  refine jEv.pfR (jlP _ (jlP _ (jlP _ (jlP _ (jlP _ (jlP _ (jlP _ (jlP _ (jlP _ (jlP _ (jlP _ (jlP _ (jlP _ (jlP _ (jlP _ (jlP _ (jlP _ (jlP _ (jlP _ (jlP _ (jlP _ (jlP _ (jlP _ (jlP _ (jlP _ (jlP _ (jlP _ (jlP _ (jlP _ (jlP _ (jlP _ (jlP _ (jlP _ (jlP _ (jlP _ (jlP _ (jlP _ (jlP _ (jlP _ (jlP _ (jlP _ (jlP _ (jlP _ (jlP _ (jlP _ (jlP _ (jlP _ (jlP _ (jlP _ (jlP _ (jlP _ (jlP _ (jlP _ (jlP _ (jlP _ (jlP _ (jlP _ (jlP _ (jlP _ (jlP _ ho)))))))))))))))))))))))))))))))))))))))))))))))))))))))))))) (show jfI 200 1486 (.putfield 201) 3 [12, 93, 5, 0, 7129] = true by decide +kernel) (by decide) ?_
  refine jEv.blk [(.aload_n 0, 1, []), (.bipush 6, 2, [])] (by decide +kernel) (pc' := 1492) (ls' := [(2, Int.ofNat o)]) (st' := [(0, 6), (2, Int.ofNat o)]) rfl ?_
  refine jEv.nwA (n := 6) l60 (show jfI 200 1492 (.newarray .char) 2 [23] = true by decide +kernel) (by decide) rfl ?_
  have l61 := jlN (23, 6) l60
  refine jEv.blk [(.dup, 1, []), (.iconst 0, 1, []), (.bipush 115, 2, [])] (by decide +kernel) (pc' := 1498) (ls' := [(2, Int.ofNat o)]) (st' := [(0, 115), (0, 0), (2, Int.ofNat (o + 61)), (2, Int.ofNat (o + 61)), (2, Int.ofNat o)]) rfl ?_
  refine jEv.asd (jlA l60) (Or.inr ⟨rfl, rfl, rfl⟩) (show jfI 200 1498 (.castore) 1 [] = true by decide +kernel) (by decide) (by decide +kernel) ?_
  refine jEv.blk [(.dup, 1, []), (.iconst 1, 1, []), (.bipush 101, 2, [])] (by decide +kernel) (pc' := 1503) (ls' := [(2, Int.ofNat o)]) (st' := [(0, 101), (0, 1), (2, Int.ofNat (o + 61)), (2, Int.ofNat (o + 61)), (2, Int.ofNat o)]) rfl ?_
  refine jEv.asd (jlA l60) (Or.inr ⟨rfl, rfl, rfl⟩) (show jfI 200 1503 (.castore) 1 [] = true by decide +kernel) (by decide) (by decide +kernel) ?_
  refine jEv.blk [(.dup, 1, []), (.iconst 2, 1, []), (.bipush 114, 2, [])] (by decide +kernel) (pc' := 1508) (ls' := [(2, Int.ofNat o)]) (st' := [(0, 114), (0, 2), (2, Int.ofNat (o + 61)), (2, Int.ofNat (o + 61)), (2, Int.ofNat o)]) rfl ?_
  refine jEv.asd (jlA l60) (Or.inr ⟨rfl, rfl, rfl⟩) (show jfI 200 1508 (.castore) 1 [] = true by decide +kernel) (by decide) (by decide +kernel) ?_
  refine jEv.blk [(.dup, 1, []), (.iconst 3, 1, []), (.bipush 105, 2, [])] (by decide +kernel) (pc' := 1513) (ls' := [(2, Int.ofNat o)]) (st' := [(0, 105), (0, 3), (2, Int.ofNat (o + 61)), (2, Int.ofNat (o + 61)), (2, Int.ofNat o)]) rfl ?_
  refine jEv.asd (jlA l60) (Or.inr ⟨rfl, rfl, rfl⟩) (show jfI 200 1513 (.castore) 1 [] = true by decide +kernel) (by decide) (by decide +kernel) ?_
  refine jEv.blk [(.dup, 1, []), (.iconst 4, 1, []), (.bipush 97, 2, [])] (by decide +kernel) (pc' := 1518) (ls' := [(2, Int.ofNat o)]) (st' := [(0, 97), (0, 4), (2, Int.ofNat (o + 61)), (2, Int.ofNat (o + 61)), (2, Int.ofNat o)]) rfl ?_
  refine jEv.asd (jlA l60) (Or.inr ⟨rfl, rfl, rfl⟩) (show jfI 200 1518 (.castore) 1 [] = true by decide +kernel) (by decide) (by decide +kernel) ?_
  refine jEv.blk [(.dup, 1, []), (.iconst 5, 1, []), (.bipush 108, 2, [])] (by decide +kernel) (pc' := 1523) (ls' := [(2, Int.ofNat o)]) (st' := [(0, 108), (0, 5), (2, Int.ofNat (o + 61)), (2, Int.ofNat (o + 61)), (2, Int.ofNat o)]) rfl ?_
  refine jEv.asd (jlA l60) (Or.inr ⟨rfl, rfl, rfl⟩) (show jfI 200 1523 (.castore) 1 [] = true by decide +kernel) (by decide) (by decide +kernel) ?_
  refine jEv.pfR (jlP _ (jlP _ (jlP _ (jlP _ (jlP _ (jlP _ (jlP _ (jlP _ (jlP _ (jlP _ (jlP _ (jlP _ (jlP _ (jlP _ (jlP _ (jlP _ (jlP _ (jlP _ (jlP _ (jlP _ (jlP _ (jlP _ (jlP _ (jlP _ (jlP _ (jlP _ (jlP _ (jlP _ (jlP _ (jlP _ (jlP _ (jlP _ (jlP _ (jlP _ (jlP _ (jlP _ (jlP _ (jlP _ (jlP _ (jlP _ (jlP _ (jlP _ (jlP _ (jlP _ (jlP _ (jlP _ (jlP _ (jlP _ (jlP _ (jlP _ (jlP _ (jlP _ (jlP _ (jlP _ (jlP _ (jlP _ (jlP _ (jlP _ (jlP _ (jlP _ (jlP _ ho))))))))))))))))))))))))))))))))))))))))))))))))))))))))))))) (show jfI 200 1524 (.putfield 204) 3 [12, 94, 5, 0, 7130] = true by decide +kernel) (by decide) ?_
  refine jEv.blk [(.aload_n 0, 1, []), (.bipush 6, 2, [])] (by decide +kernel) (pc' := 1530) (ls' := [(2, Int.ofNat o)]) (st' := [(0, 6), (2, Int.ofNat o)]) rfl ?_
  refine jEv.nwA (n := 6) l61 (show jfI 200 1530 (.newarray .char) 2 [23] = true by decide +kernel) (by decide) rfl ?_
  have l62 := jlN (23, 6) l61
  refine jEv.blk [(.dup, 1, []), (.iconst 0, 1, []), (.bipush 102, 2, [])] (by decide +kernel) (pc' := 1536) (ls' := [(2, Int.ofNat o)]) (st' := [(0, 102), (0, 0), (2, Int.ofNat (o + 62)), (2, Int.ofNat (o + 62)), (2, Int.ofNat o)]) rfl ?_
  refine jEv.asd (jlA l61) (Or.inr ⟨rfl, rfl, rfl⟩) (show jfI 200 1536 (.castore) 1 [] = true by decide +kernel) (by decide) (by decide +kernel) ?_
  refine jEv.blk [(.dup, 1, []), (.iconst 1, 1, []), (.bipush 114, 2, [])] (by decide +kernel) (pc' := 1541) (ls' := [(2, Int.ofNat o)]) (st' := [(0, 114), (0, 1), (2, Int.ofNat (o + 62)), (2, Int.ofNat (o + 62)), (2, Int.ofNat o)]) rfl ?_
  refine jEv.asd (jlA l61) (Or.inr ⟨rfl, rfl, rfl⟩) (show jfI 200 1541 (.castore) 1 [] = true by decide +kernel) (by decide) (by decide +kernel) ?_
  refine jEv.blk [(.dup, 1, []), (.iconst 2, 1, []), (.bipush 97, 2, [])] (by decide +kernel) (pc' := 1546) (ls' := [(2, Int.ofNat o)]) (st' := [(0, 97), (0, 2), (2, Int.ofNat (o + 62)), (2, Int.ofNat (o + 62)), (2, Int.ofNat o)]) rfl ?_
  refine jEv.asd (jlA l61) (Or.inr ⟨rfl, rfl, rfl⟩) (show jfI 200 1546 (.castore) 1 [] = true by decide +kernel) (by decide) (by decide +kernel) ?_
  refine jEv.blk [(.dup, 1, []), (.iconst 3, 1, []), (.bipush 109, 2, [])] (by decide +kernel) (pc' := 1551) (ls' := [(2, Int.ofNat o)]) (st' := [(0, 109), (0, 3), (2, Int.ofNat (o + 62)), (2, Int.ofNat (o + 62)), (2, Int.ofNat o)]) rfl ?_
  refine jEv.asd (jlA l61) (Or.inr ⟨rfl, rfl, rfl⟩) (show jfI 200 1551 (.castore) 1 [] = true by decide +kernel) (by decide) (by decide +kernel) ?_
  refine jEv.blk [(.dup, 1, []), (.iconst 4, 1, []), (.bipush 101, 2, [])] (by decide +kernel) (pc' := 1556) (ls' := [(2, Int.ofNat o)]) (st' := [(0, 101), (0, 4), (2, Int.ofNat (o + 62)), (2, Int.ofNat (o + 62)), (2, Int.ofNat o)]) rfl ?_
  refine jEv.asd (jlA l61) (Or.inr ⟨rfl, rfl, rfl⟩) (show jfI 200 1556 (.castore) 1 [] = true by decide +kernel) (by decide) (by decide +kernel) ?_
  refine jEv.blk [(.dup, 1, []), (.iconst 5, 1, []), (.bipush 115, 2, [])] (by decide +kernel) (pc' := 1561) (ls' := [(2, Int.ofNat o)]) (st' := [(0, 115), (0, 5), (2, Int.ofNat (o + 62)), (2, Int.ofNat (o + 62)), (2, Int.ofNat o)]) rfl ?_
  refine jEv.asd (jlA l61) (Or.inr ⟨rfl, rfl, rfl⟩) (show jfI 200 1561 (.castore) 1 [] = true by decide +kernel) (by decide) (by decide +kernel) ?_
  refine jEv.pfR (jlP _ (jlP _ (jlP _ (jlP _ (jlP _ (jlP _ (jlP _ (jlP _ (jlP _ (jlP _ (jlP _ (jlP _ (jlP _ (jlP _ (jlP _ (jlP _ (jlP _ (jlP _ (jlP _ (jlP _ (jlP _ (jlP _ (jlP _ (jlP _ (jlP _ (jlP _ (jlP _ (jlP _ (jlP _ (jlP _ (jlP _ (jlP _ (jlP _ (jlP _ (jlP _ (jlP _ (jlP _ (jlP _ (jlP _ (jlP _ (jlP _ (jlP _ (jlP _ (jlP _ (jlP _ (jlP _ (jlP _ (jlP _ (jlP _ (jlP _ (jlP _ (jlP _ (jlP _ (jlP _ (jlP _ (jlP _ (jlP _ (jlP _ (jlP _ (jlP _ (jlP _ (jlP _ ho)))))))))))))))))))))))))))))))))))))))))))))))))))))))))))))) (show jfI 200 1562 (.putfield 207) 3 [12, 95, 5, 0, 7131] = true by decide +kernel) (by decide) ?_
  refine jEv.blk [(.aload_n 0, 1, []), (.iconst 5, 1, [])] (by decide +kernel) (pc' := 1567) (ls' := [(2, Int.ofNat o)]) (st' := [(0, 5), (2, Int.ofNat o)]) rfl ?_
  refine jEv.nwA (n := 5) l62 (show jfI 200 1567 (.newarray .char) 2 [23] = true by decide +kernel) (by decide) rfl ?_
  have l63 := jlN (23, 5) l62
  refine jEv.blk [(.dup, 1, []), (.iconst 0, 1, []), (.bipush 111, 2, [])] (by decide +kernel) (pc' := 1573) (ls' := [(2, Int.ofNat o)]) (st' := [(0, 111), (0, 0), (2, Int.ofNat (o + 63)), (2, Int.ofNat (o + 63)), (2, Int.ofNat o)]) rfl ?_
  refine jEv.asd (jlA l62) (Or.inr ⟨rfl, rfl, rfl⟩) (show jfI 200 1573 (.castore) 1 [] = true by decide +kernel) (by decide) (by decide +kernel) ?_
  refine jEv.blk [(.dup, 1, []), (.iconst 1, 1, []), (.bipush 99, 2, [])] (by decide +kernel) (pc' := 1578) (ls' := [(2, Int.ofNat o)]) (st' := [(0, 99), (0, 1), (2, Int.ofNat (o + 63)), (2, Int.ofNat (o + 63)), (2, Int.ofNat o)]) rfl ?_
  refine jEv.asd (jlA l62) (Or.inr ⟨rfl, rfl, rfl⟩) (show jfI 200 1578 (.castore) 1 [] = true by decide +kernel) (by decide) (by decide +kernel) ?_
  refine jEv.blk [(.dup, 1, []), (.iconst 2, 1, []), (.bipush 116, 2, [])] (by decide +kernel) (pc' := 1583) (ls' := [(2, Int.ofNat o)]) (st' := [(0, 116), (0, 2), (2, Int.ofNat (o + 63)), (2, Int.ofNat (o + 63)), (2, Int.ofNat o)]) rfl ?_
  refine jEv.asd (jlA l62) (Or.inr ⟨rfl, rfl, rfl⟩) (show jfI 200 1583 (.castore) 1 [] = true by decide +kernel) (by decide) (by decide +kernel) ?_
  refine jEv.blk [(.dup, 1, []), (.iconst 3, 1, []), (.bipush 101, 2, [])] (by decide +kernel) (pc' := 1588) (ls' := [(2, Int.ofNat o)]) (st' := [(0, 101), (0, 3), (2, Int.ofNat (o + 63)), (2, Int.ofNat (o + 63)), (2, Int.ofNat o)]) rfl ?_
  refine jEv.asd (jlA l62) (Or.inr ⟨rfl, rfl, rfl⟩) (show jfI 200 1588 (.castore) 1 [] = true by decide +kernel) (by decide) (by decide +kernel) ?_
  refine jEv.blk [(.dup, 1, []), (.iconst 4, 1, []), (.bipush 116, 2, [])] (by decide +kernel) (pc' := 1593) (ls' := [(2, Int.ofNat o)]) (st' := [(0, 116), (0, 4), (2, Int.ofNat (o + 63)), (2, Int.ofNat (o + 63)), (2, Int.ofNat o)]) rfl ?_
  refine jEv.asd (jlA l62) (Or.inr ⟨rfl, rfl, rfl⟩) (show jfI 200 1593 (.castore) 1 [] = true by decide +kernel) (by decide) (by decide +kernel) ?_
  refine jEv.pfR (jlP _ (jlP _ (jlP _ (jlP _ (jlP _ (jlP _ (jlP _ (jlP _ (jlP _ (jlP _ (jlP _ (jlP _ (jlP _ (jlP _ (jlP _ (jlP _ (jlP _ (jlP _ (jlP _ (jlP _ (jlP _ (jlP _ (jlP _ (jlP _ (jlP _ (jlP _ (jlP _ (jlP _ (jlP _ (jlP _ (jlP _ (jlP _ (jlP _ (jlP _ (jlP _ (jlP _ (jlP _ (jlP _ (jlP _ (jlP _ (jlP _ (jlP _ (jlP _ (jlP _ (jlP _ (jlP _ (jlP _ (jlP _ (jlP _ (jlP _ (jlP _ (jlP _ (jlP _ (jlP _ (jlP _ (jlP _ (jlP _ (jlP _ (jlP _ (jlP _ (jlP _ (jlP _ (jlP _ ho))))))))))))))))))))))))))))))))))))))))))))))))))))))))))))))) (show jfI 200 1594 (.putfield 210) 3 [12, 96, 5, 0, 7132] = true by decide +kernel) (by decide) ?_
  refine jEv.blk [(.aload_n 0, 1, []), (.iconst 5, 1, [])] (by decide +kernel) (pc' := 1599) (ls' := [(2, Int.ofNat o)]) (st' := [(0, 5), (2, Int.ofNat o)]) rfl ?_
  refine jEv.nwA (n := 5) l63 (show jfI 200 1599 (.newarray .char) 2 [23] = true by decide +kernel) (by decide) rfl ?_
  have l64 := jlN (23, 5) l63
  refine jEv.blk [(.dup, 1, []), (.iconst 0, 1, []), (.bipush 118, 2, [])] (by decide +kernel) (pc' := 1605) (ls' := [(2, Int.ofNat o)]) (st' := [(0, 118), (0, 0), (2, Int.ofNat (o + 64)), (2, Int.ofNat (o + 64)), (2, Int.ofNat o)]) rfl ?_
  refine jEv.asd (jlA l63) (Or.inr ⟨rfl, rfl, rfl⟩) (show jfI 200 1605 (.castore) 1 [] = true by decide +kernel) (by decide) (by decide +kernel) ?_
  refine jEv.blk [(.dup, 1, []), (.iconst 1, 1, []), (.bipush 97, 2, [])] (by decide +kernel) (pc' := 1610) (ls' := [(2, Int.ofNat o)]) (st' := [(0, 97), (0, 1), (2, Int.ofNat (o + 64)), (2, Int.ofNat (o + 64)), (2, Int.ofNat o)]) rfl ?_
  refine jEv.asd (jlA l63) (Or.inr ⟨rfl, rfl, rfl⟩) (show jfI 200 1610 (.castore) 1 [] = true by decide +kernel) (by decide) (by decide +kernel) ?_
  refine jEv.blk [(.dup, 1, []), (.iconst 2, 1, []), (.bipush 108, 2, [])] (by decide +kernel) (pc' := 1615) (ls' := [(2, Int.ofNat o)]) (st' := [(0, 108), (0, 2), (2, Int.ofNat (o + 64)), (2, Int.ofNat (o + 64)), (2, Int.ofNat o)]) rfl ?_
  refine jEv.asd (jlA l63) (Or.inr ⟨rfl, rfl, rfl⟩) (show jfI 200 1615 (.castore) 1 [] = true by decide +kernel) (by decide) (by decide +kernel) ?_
  refine jEv.blk [(.dup, 1, []), (.iconst 3, 1, []), (.bipush 117, 2, [])] (by decide +kernel) (pc' := 1620) (ls' := [(2, Int.ofNat o)]) (st' := [(0, 117), (0, 3), (2, Int.ofNat (o + 64)), (2, Int.ofNat (o + 64)), (2, Int.ofNat o)]) rfl ?_
  refine jEv.asd (jlA l63) (Or.inr ⟨rfl, rfl, rfl⟩) (show jfI 200 1620 (.castore) 1 [] = true by decide +kernel) (by decide) (by decide +kernel) ?_
  refine jEv.blk [(.dup, 1, []), (.iconst 4, 1, []), (.bipush 101, 2, [])] (by decide +kernel) (pc' := 1625) (ls' := [(2, Int.ofNat o)]) (st' := [(0, 101), (0, 4), (2, Int.ofNat (o + 64)), (2, Int.ofNat (o + 64)), (2, Int.ofNat o)]) rfl ?_
  refine jEv.asd (jlA l63) (Or.inr ⟨rfl, rfl, rfl⟩) (show jfI 200 1625 (.castore) 1 [] = true by decide +kernel) (by decide) (by decide +kernel) ?_
  refine jEv.pfR (jlP _ (jlP _ (jlP _ (jlP _ (jlP _ (jlP _ (jlP _ (jlP _ (jlP _ (jlP _ (jlP _ (jlP _ (jlP _ (jlP _ (jlP _ (jlP _ (jlP _ (jlP _ (jlP _ (jlP _ (jlP _ (jlP _ (jlP _ (jlP _ (jlP _ (jlP _ (jlP _ (jlP _ (jlP _ (jlP _ (jlP _ (jlP _ (jlP _ (jlP _ (jlP _ (jlP _ (jlP _ (jlP _ (jlP _ (jlP _ (jlP _ (jlP _ (jlP _ (jlP _ (jlP _ (jlP _ (jlP _ (jlP _ (jlP _ (jlP _ (jlP _ (jlP _ (jlP _ (jlP _ (jlP _ (jlP _ (jlP _ (jlP _ (jlP _ (jlP _ (jlP _ (jlP _ (jlP _ (jlP _ ho)))))))))))))))))))))))))))))))))))))))))))))))))))))))))))))))) (show jfI 200 1626 (.putfield 213) 3 [12, 97, 5, 0, 7133] = true by decide +kernel) (by decide) ?_
  refine jEv.blk [(.aload_n 0, 1, []), (.sipush 1700, 3, [])] (by decide +kernel) (pc' := 1633) (ls' := [(2, Int.ofNat o)]) (st' := [(0, 1700), (2, Int.ofNat o)]) rfl ?_
  refine jEv.nwA (n := 1700) l64 (show jfI 200 1633 (.newarray .int) 2 [20] = true by decide +kernel) (by decide) rfl ?_
  have l65 := jlN (20, 1700) l64
  refine jEv.pfR (jlP _ (jlP _ (jlP _ (jlP _ (jlP _ (jlP _ (jlP _ (jlP _ (jlP _ (jlP _ (jlP _ (jlP _ (jlP _ (jlP _ (jlP _ (jlP _ (jlP _ (jlP _ (jlP _ (jlP _ (jlP _ (jlP _ (jlP _ (jlP _ (jlP _ (jlP _ (jlP _ (jlP _ (jlP _ (jlP _ (jlP _ (jlP _ (jlP _ (jlP _ (jlP _ (jlP _ (jlP _ (jlP _ (jlP _ (jlP _ (jlP _ (jlP _ (jlP _ (jlP _ (jlP _ (jlP _ (jlP _ (jlP _ (jlP _ (jlP _ (jlP _ (jlP _ (jlP _ (jlP _ (jlP _ (jlP _ (jlP _ (jlP _ (jlP _ (jlP _ (jlP _ (jlP _ (jlP _ (jlP _ (jlP _ ho))))))))))))))))))))))))))))))))))))))))))))))))))))))))))))))))) (show jfI 200 1635 (.putfield 216) 3 [12, 98, 5, 0, 7134] = true by decide +kernel) (by decide) ?_
  refine jEv.blk [(.aload_n 0, 1, []), (.sipush 1700, 3, [])] (by decide +kernel) (pc' := 1642) (ls' := [(2, Int.ofNat o)]) (st' := [(0, 1700), (2, Int.ofNat o)]) rfl ?_
  refine jEv.nwA (n := 1700) l65 (show jfI 200 1642 (.newarray .int) 2 [20] = true by decide +kernel) (by decide) rfl ?_
  have l66 := jlN (20, 1700) l65
  refine jEv.pfR (jlP _ (jlP _ (jlP _ (jlP _ (jlP _ (jlP _ (jlP _ (jlP _ (jlP _ (jlP _ (jlP _ (jlP _ (jlP _ (jlP _ (jlP _ (jlP _ (jlP _ (jlP _ (jlP _ (jlP _ (jlP _ (jlP _ (jlP _ (jlP _ (jlP _ (jlP _ (jlP _ (jlP _ (jlP _ (jlP _ (jlP _ (jlP _ (jlP _ (jlP _ (jlP _ (jlP _ (jlP _ (jlP _ (jlP _ (jlP _ (jlP _ (jlP _ (jlP _ (jlP _ (jlP _ (jlP _ (jlP _ (jlP _ (jlP _ (jlP _ (jlP _ (jlP _ (jlP _ (jlP _ (jlP _ (jlP _ (jlP _ (jlP _ (jlP _ (jlP _ (jlP _ (jlP _ (jlP _ (jlP _ (jlP _ (jlP _ ho)))))))))))))))))))))))))))))))))))))))))))))))))))))))))))))))))) (show jfI 200 1644 (.putfield 219) 3 [12, 100, 5, 0, 7136] = true by decide +kernel) (by decide) ?_
  refine jEv.blk [(.aload_n 0, 1, []), (.sipush 1700, 3, [])] (by decide +kernel) (pc' := 1651) (ls' := [(2, Int.ofNat o)]) (st' := [(0, 1700), (2, Int.ofNat o)]) rfl ?_
  refine jEv.nwA (n := 1700) l66 (show jfI 200 1651 (.newarray .long) 2 [21] = true by decide +kernel) (by decide) rfl ?_
  have l67 := jlN (21, 1700) l66
  refine jEv.pfR (jlP _ (jlP _ (jlP _ (jlP _ (jlP _ (jlP _ (jlP _ (jlP _ (jlP _ (jlP _ (jlP _ (jlP _ (jlP _ (jlP _ (jlP _ (jlP _ (jlP _ (jlP _ (jlP _ (jlP _ (jlP _ (jlP _ (jlP _ (jlP _ (jlP _ (jlP _ (jlP _ (jlP _ (jlP _ (jlP _ (jlP _ (jlP _ (jlP _ (jlP _ (jlP _ (jlP _ (jlP _ (jlP _ (jlP _ (jlP _ (jlP _ (jlP _ (jlP _ (jlP _ (jlP _ (jlP _ (jlP _ (jlP _ (jlP _ (jlP _ (jlP _ (jlP _ (jlP _ (jlP _ (jlP _ (jlP _ (jlP _ (jlP _ (jlP _ (jlP _ (jlP _ (jlP _ (jlP _ (jlP _ (jlP _ (jlP _ (jlP _ ho))))))))))))))))))))))))))))))))))))))))))))))))))))))))))))))))))) (show jfI 200 1653 (.putfield 222) 3 [12, 104, 5, 0, 7140] = true by decide +kernel) (by decide) ?_
  refine jEv.blk [(.aload_n 0, 1, []), (.sipush 547, 3, [])] (by decide +kernel) (pc' := 1660) (ls' := [(2, Int.ofNat o)]) (st' := [(0, 547), (2, Int.ofNat o)]) rfl ?_
  refine jEv.nwA (n := 547) l67 (show jfI 200 1660 (.newarray .int) 2 [20] = true by decide +kernel) (by decide) rfl ?_
  have l68 := jlN (20, 547) l67
  refine jEv.pfR (jlP _ (jlP _ (jlP _ (jlP _ (jlP _ (jlP _ (jlP _ (jlP _ (jlP _ (jlP _ (jlP _ (jlP _ (jlP _ (jlP _ (jlP _ (jlP _ (jlP _ (jlP _ (jlP _ (jlP _ (jlP _ (jlP _ (jlP _ (jlP _ (jlP _ (jlP _ (jlP _ (jlP _ (jlP _ (jlP _ (jlP _ (jlP _ (jlP _ (jlP _ (jlP _ (jlP _ (jlP _ (jlP _ (jlP _ (jlP _ (jlP _ (jlP _ (jlP _ (jlP _ (jlP _ (jlP _ (jlP _ (jlP _ (jlP _ (jlP _ (jlP _ (jlP _ (jlP _ (jlP _ (jlP _ (jlP _ (jlP _ (jlP _ (jlP _ (jlP _ (jlP _ (jlP _ (jlP _ (jlP _ (jlP _ (jlP _ (jlP _ (jlP _ ho)))))))))))))))))))))))))))))))))))))))))))))))))))))))))))))))))))) (show jfI 200 1662 (.putfield 226) 3 [12, 108, 5, 0, 7144] = true by decide +kernel) (by decide) ?_
  exact jEv.retV (show jfI 200 1665 (.return_) 1 [] = true by decide +kernel) (by decide +kernel) rfl
