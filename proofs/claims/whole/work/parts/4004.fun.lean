/-! methods as functions -/
set_option maxRecDepth 20000 in
noncomputable def Pl_clear  (h : jH) (o0 : Nat) : Option jH := Option.bind (Fo_become (jup (jup (jup (jup (jup h o0 3 0) o0 4 0) o0 12 0) o0 5 0) o0 6 0) (o0 + 1) ([10001, 3, 30003, 10003, 4, 30003, 30000] : List Int)) (fun b1 => Option.bind (Fo_become b1 (o0 + 5) ([1, 10002, 16, 30008, 30005] : List Int)) (fun b2 => some b2))
set_option maxRecDepth 20000 in
theorem t_Pl_clear {T : jT} {xs : List Int} {h : jH}  {o0 : Nat} {out : jH} (ho0 : isX6 T o0) (H : Pl_clear h o0 = some out) : jEm xs 4 88 [(2, Int.ofNat o0)] (T, h) ((3, 0), (T, out)) := by
  have hd : 3 ≤ 3 := Nat.le_refl _
  obtain ⟨y, ey⟩ : ∃ y : jV × jS, y = ((3, 0), (T, out)) := ⟨_, rfl⟩
  rw [← ey]
  have HY : ykV T y out := ey
  refine jEm.ent (n := 1) (by decide +kernel) (Nat.le_of_ble_eq_true rfl) ?_
  show jEv xs 3 (88, 0, [(2, Int.ofNat o0)], []) (T, h) y
  unfold Pl_clear at H
  refine jEv.blk [(.aload_n 0, 1, []), (.iconst 0, 1, [])] (by decide +kernel) (pc' := 2) (ls' := [(2, Int.ofNat o0)]) (st' := [(0, 0), (2, Int.ofNat o0)]) rfl ?_
  refine jEv.pfI (show jfI 88 2 (.putfield 31) 3 [6, 3, 0, 0, 1065] = true by decide +kernel) (isX6_L ho0) (by decide) ?_
  refine jEv.blk [(.aload_n 0, 1, []), (.iconst 0, 1, [])] (by decide +kernel) (pc' := 7) (ls' := [(2, Int.ofNat o0)]) (st' := [(0, 0), (2, Int.ofNat o0)]) rfl ?_
  refine jEv.pfI (show jfI 88 7 (.putfield 35) 3 [6, 4, 0, 0, 1068] = true by decide +kernel) (isX6_L ho0) (by decide) ?_
  refine jEv.blk [(.aload_n 0, 1, []), (.iconst 0, 1, [])] (by decide +kernel) (pc' := 12) (ls' := [(2, Int.ofNat o0)]) (st' := [(0, 0), (2, Int.ofNat o0)]) rfl ?_
  refine jEv.pfI (show jfI 88 12 (.putfield 38) 3 [6, 12, 0, 0, 1087] = true by decide +kernel) (isX6_L ho0) (by decide) ?_
  refine jEv.blk [(.aload_n 0, 1, []), (.iconst 0, 1, [])] (by decide +kernel) (pc' := 17) (ls' := [(2, Int.ofNat o0)]) (st' := [(0, 0), (2, Int.ofNat o0)]) rfl ?_
  refine jEv.pfZ (show jfI 88 17 (.putfield 41) 3 [6, 5, 0, 1, 1071] = true by decide +kernel) (isX6_L ho0) (by decide) (by decide) ?_
  refine jEv.blk [(.aload_n 0, 1, []), (.iconst 0, 1, [])] (by decide +kernel) (pc' := 22) (ls' := [(2, Int.ofNat o0)]) (st' := [(0, 0), (2, Int.ofNat o0)]) rfl ?_
  refine jEv.pfZ (show jfI 88 22 (.putfield 45) 3 [6, 6, 0, 1, 1073] = true by decide +kernel) (isX6_L ho0) (by decide) (by decide) ?_
  refine jEv.blk [(.aload_n 0, 1, [])] (by decide +kernel) (pc' := 26) (ls' := [(2, Int.ofNat o0)]) (st' := [(2, Int.ofNat o0)]) rfl ?_
  refine jEv.gfR (o' := (o0 + 1)) (show jfI 88 26 (.getfield 12) 3 [6, 7, 5, 0, 1075] = true by decide +kernel) (isX6_L ho0) (by decide) (isX6_r7 ho0) ?_
  refine jEv.gs (show jfI 88 29 (.getstatic 48) 3 [0, 1, 3111] = true by decide +kernel) (by decide) ?_
  refine jbind H (fun b1 Hb1 H => ?_)
  refine jEv.calV (st' := []) (show jfI 88 32 (.invokevirtual 51) 3 [1, 27, 1, 3113] = true by decide +kernel) rfl (Or.inl rfl) rfl (Nat.le_of_ble_eq_true rfl) (by decide +kernel) (by decide) (isX2_L (isX6_s7 ho0)) ((t_Fo_become (T := T) (xs := xs) (isX6_s7 ho0) (jext0 xs) Hb1).mono (jKle 3 hd)) rfl ?_
  refine jEv.blk [(.aload_n 0, 1, [])] (by decide +kernel) (pc' := 36) (ls' := [(2, Int.ofNat o0)]) (st' := [(2, Int.ofNat o0)]) rfl ?_
  refine jEv.gfR (o' := (o0 + 5)) (show jfI 88 36 (.getfield 18) 3 [6, 8, 5, 0, 1078] = true by decide +kernel) (isX6_L ho0) (by decide) (isX6_r8 ho0) ?_
  refine jEv.gs (show jfI 88 39 (.getstatic 55) 3 [1, 1, 3122] = true by decide +kernel) (by decide) ?_
  refine jbind H (fun b2 Hb2 H => ?_)
  refine jEv.calV (st' := []) (show jfI 88 42 (.invokevirtual 51) 3 [1, 27, 1, 3113] = true by decide +kernel) rfl (Or.inl rfl) rfl (Nat.le_of_ble_eq_true rfl) (by decide +kernel) (by decide) (isX2_L (isX6_s8 ho0)) ((t_Fo_become (T := T) (xs := xs) (isX6_s8 ho0) (jext1 xs) Hb2).mono (jKle 3 hd)) rfl ?_
  exact jEv.retV (show jfI 88 45 (.return_) 1 [] = true by decide +kernel) (by decide +kernel) (by cases H; exact HY)
def yk_Pa_readJournal_L24 (T : jT) (xs : List Int) (d : Nat) (y : jV × jS)  (o0 : Nat) : ((Int × jH) ⊕ (Int × jH)) → Prop
  | .inl (v3, h) => jEv xs d (48, 24, [(2, Int.ofNat o0), (3, 0), (3, 0), (0, v3)], []) (T, h) y
  | .inr o => ykI T y o
set_option maxRecDepth 20000 in
noncomputable def Pa_readJournal_B24 (T : jT) (h : jH) (o0 : Nat) (v3 : Int) : Option ((Int × jH) ⊕ (Int × jH)) := (if 40 < v3 then Option.map Sum.inr (some (0, h)) else Option.bind (Pa_expect T h o0 59) (fun b7 => (if b7.1 = 0 then Option.map Sum.inr (some (0, b7.2)) else Option.bind (jdyn (isX6 T) (b7.2 o0 0)) (fun q9 => Option.bind (Pa_peek T (jup b7.2 q9 4 v3) o0) (fun b10 => (if b10.1 = (-1) then Option.map Sum.inr (some (1, b10.2)) else (if v3 = 40 then Option.map Sum.inr (Option.bind (Pa_fail b10.2 o0 5 (b10.2 o0 7)) (fun b13 => (if b13.1 = 0 ∨ b13.1 = 1 then some (b13.1, b13.2) else none))) else Option.bind (Pa_statement T b10.2 o0) (fun b15 => (if b15.1 = 0 then Option.map Sum.inr (some (0, b15.2)) else some (.inl ((wr (v3 + 1)), b15.2)))))))))))
noncomputable def Pa_readJournal_L24 (T : jT) (h : jH) (o0 : Nat) (v3 : Int) : Option (Int × jH) := jloop (fun s : (Int × jH) => Pa_readJournal_B24 T s.2 o0 s.1) (v3, h)
set_option maxRecDepth 20000 in
theorem t_Pa_readJournal_B24 {T : jT} {xs : List Int} {d : Nat} {y : jV × jS} (hd : 88 ≤ d) {h : jH}  {o0 : Nat} {v3 : Int} {out : ((Int × jH) ⊕ (Int × jH))} (ho0 : isX4 T o0) (H : Pa_readJournal_B24 T h o0 v3 = some out) (HY : yk_Pa_readJournal_L24 T xs d y o0 out) : jEv xs d (48, 24, [(2, Int.ofNat o0), (3, 0), (3, 0), (0, v3)], []) (T, h) y := by
  unfold Pa_readJournal_B24 at H
  refine jEv.blk [(.iload_n 3, 1, []), (.bipush 40, 2, [])] (by decide +kernel) (pc' := 27) (ls' := [(2, Int.ofNat o0), (3, 0), (3, 0), (0, v3)]) (st' := [(0, 40), (0, v3)]) rfl ?_
  refine jEv.ic_gt (t := 90) (show jfI 48 27 (.if_icmp .gt 63) 3 [] = true by decide +kernel) rfl H (fun c6 H => ?_) (fun c6 H => ?_)
  · refine jmapr H HY (fun out H (HY : ykI T y out) => ?_)
    refine jEv.blk [(.iconst 0, 1, [])] (by decide +kernel) (pc' := 91) (ls' := [(2, Int.ofNat o0), (3, 0), (3, 0), (0, v3)]) (st' := [(0, 0)]) rfl ?_
    exact jEv.retZ (show jfI 48 91 (.ireturn) 1 [] = true by decide +kernel) (by decide +kernel) (by decide) (by cases H; exact HY)
  · refine jEv.blk [(.aload_n 0, 1, []), (.bipush 59, 2, [])] (by decide +kernel) (pc' := 33) (ls' := [(2, Int.ofNat o0), (3, 0), (3, 0), (0, v3)]) (st' := [(0, 59), (2, Int.ofNat o0)]) rfl ?_
    refine jbind H (fun b7 Hb7 H => ?_)
    refine jEv.calV (st' := [(0, b7.1)]) (show jfI 48 33 (.invokevirtual 47) 3 [1, 58, 1, 3206] = true by decide +kernel) rfl (Or.inl rfl) rfl (Nat.le_of_ble_eq_true rfl) (by decide +kernel) (by decide) (isX4_L ho0) ((t_Pa_expect (T := T) (xs := xs) ho0 Hb7).mono (jKle 3 hd)) rfl ?_
    refine jEv.if_ne (t := 41) (show jfI 48 36 (.ifCond .ne 5) 3 [] = true by decide +kernel) rfl H (fun c8 H => ?_) (fun c8 H => ?_)
    · refine jmapr H HY (fun out H (HY : ykI T y out) => ?_)
      refine jEv.blk [(.iconst 0, 1, [])] (by decide +kernel) (pc' := 40) (ls' := [(2, Int.ofNat o0), (3, 0), (3, 0), (0, v3)]) (st' := [(0, 0)]) rfl ?_
      exact jEv.retZ (show jfI 48 40 (.ireturn) 1 [] = true by decide +kernel) (by decide +kernel) (by decide) (by cases H; exact HY)
    · refine jEv.blk [(.aload_n 0, 1, [])] (by decide +kernel) (pc' := 42) (ls' := [(2, Int.ofNat o0), (3, 0), (3, 0), (0, v3)]) (st' := [(2, Int.ofNat o0)]) rfl ?_
      refine jEv.gfD (show jfI 48 42 (.getfield 12) 3 [4, 0, 2, 0, 1126] = true by decide +kernel) (isX4_L ho0) (by decide) H (fun q9 hq9 H => ?_)
      refine jEv.blk [(.iload_n 3, 1, [])] (by decide +kernel) (pc' := 46) (ls' := [(2, Int.ofNat o0), (3, 0), (3, 0), (0, v3)]) (st' := [(0, v3), (2, Int.ofNat q9)]) rfl ?_
      refine jEv.pfI (show jfI 48 46 (.putfield 51) 3 [6, 4, 0, 0, 1069] = true by decide +kernel) (isX6_L hq9) (by decide) ?_
      refine jEv.blk [(.aload_n 0, 1, [])] (by decide +kernel) (pc' := 50) (ls' := [(2, Int.ofNat o0), (3, 0), (3, 0), (0, v3)]) (st' := [(2, Int.ofNat o0)]) rfl ?_
      refine jbind H (fun b10 Hb10 H => ?_)
      refine jEv.calV (st' := [(0, b10.1)]) (show jfI 48 50 (.invokevirtual 54) 3 [1, 53, 0, 3137] = true by decide +kernel) rfl (Or.inl rfl) rfl (Nat.le_of_ble_eq_true rfl) (by decide +kernel) (by decide) (isX4_L ho0) ((t_Pa_peek (T := T) (xs := xs) ho0 Hb10).mono (jKle 1 hd)) rfl ?_
      refine jEv.blk [(.iconst (-1), 1, [])] (by decide +kernel) (pc' := 54) (ls' := [(2, Int.ofNat o0), (3, 0), (3, 0), (0, v3)]) (st' := [(0, (-1)), (0, b10.1)]) rfl ?_
      refine jEv.ic_ne (t := 59) (show jfI 48 54 (.if_icmp .ne 5) 3 [] = true by decide +kernel) rfl H (fun c11 H => ?_) (fun c11 H => ?_)
      · refine jmapr H HY (fun out H (HY : ykI T y out) => ?_)
        refine jEv.blk [(.iconst 1, 1, [])] (by decide +kernel) (pc' := 58) (ls' := [(2, Int.ofNat o0), (3, 0), (3, 0), (0, v3)]) (st' := [(0, 1)]) rfl ?_
        exact jEv.retZ (show jfI 48 58 (.ireturn) 1 [] = true by decide +kernel) (by decide +kernel) (by decide) (by cases H; exact HY)
      · refine jEv.blk [(.iload_n 3, 1, []), (.bipush 40, 2, [])] (by decide +kernel) (pc' := 62) (ls' := [(2, Int.ofNat o0), (3, 0), (3, 0), (0, v3)]) (st' := [(0, 40), (0, v3)]) rfl ?_
        refine jEv.ic_ne (t := 75) (show jfI 48 62 (.if_icmp .ne 13) 3 [] = true by decide +kernel) rfl H (fun c12 H => ?_) (fun c12 H => ?_)
        · refine jmapr H HY (fun out H (HY : ykI T y out) => ?_)
          refine jEv.blk [(.aload_n 0, 1, []), (.iconst 5, 1, []), (.aload_n 0, 1, [])] (by decide +kernel) (pc' := 68) (ls' := [(2, Int.ofNat o0), (3, 0), (3, 0), (0, v3)]) (st' := [(2, Int.ofNat o0), (0, 5), (2, Int.ofNat o0)]) rfl ?_
          refine jEv.gfI (show jfI 48 68 (.getfield 58) 3 [4, 7, 0, 0, 1138] = true by decide +kernel) (isX4_L ho0) (by decide) ?_
          refine jbind H (fun b13 Hb13 H => ?_)
          refine jEv.calV (st' := [(0, b13.1)]) (show jfI 48 71 (.invokevirtual 61) 3 [1, 55, 2, 3193] = true by decide +kernel) rfl (Or.inl rfl) rfl (Nat.le_of_ble_eq_true rfl) (by decide +kernel) (by decide) (isX4_L ho0) ((t_Pa_fail (T := T) (xs := xs) ho0 Hb13).mono (jKle 1 hd)) rfl ?_
          refine jchk H (fun c14 H => ?_)
          exact jEv.retZ (show jfI 48 74 (.ireturn) 1 [] = true by decide +kernel) (by decide +kernel) c14 (by cases H; exact HY)
        · refine jEv.blk [(.aload_n 0, 1, [])] (by decide +kernel) (pc' := 76) (ls' := [(2, Int.ofNat o0), (3, 0), (3, 0), (0, v3)]) (st' := [(2, Int.ofNat o0)]) rfl ?_
          refine jbind H (fun b15 Hb15 H => ?_)
          refine jEv.calV (st' := [(0, b15.1)]) (show jfI 48 76 (.invokevirtual 65) 3 [1, 60, 0, 3214] = true by decide +kernel) rfl (Or.inl rfl) rfl (Nat.le_of_ble_eq_true rfl) (by decide +kernel) (by decide) (isX4_L ho0) ((t_Pa_statement (T := T) (xs := xs) ho0 Hb15).mono (jKle 88 hd)) rfl ?_
          refine jEv.if_ne (t := 84) (show jfI 48 79 (.ifCond .ne 5) 3 [] = true by decide +kernel) rfl H (fun c16 H => ?_) (fun c16 H => ?_)
          · refine jmapr H HY (fun out H (HY : ykI T y out) => ?_)
            refine jEv.blk [(.iconst 0, 1, [])] (by decide +kernel) (pc' := 83) (ls' := [(2, Int.ofNat o0), (3, 0), (3, 0), (0, v3)]) (st' := [(0, 0)]) rfl ?_
            exact jEv.retZ (show jfI 48 83 (.ireturn) 1 [] = true by decide +kernel) (by decide +kernel) (by decide) (by cases H; exact HY)
          · refine jEv.blk [(.iinc 3 1, 3, [])] (by decide +kernel) (pc' := 87) (ls' := [(2, Int.ofNat o0), (3, 0), (3, 0), (0, (wr (v3 + 1)))]) (st' := []) rfl ?_
            refine jEv.goto (t := 24) (show jfI 48 87 (.goto (-63)) 3 [] = true by decide +kernel) rfl ?_
            exact (by cases H; exact HY)
theorem t_Pa_readJournal_L24 {T : jT} {xs : List Int} {d : Nat} {y : jV × jS} (hd : 88 ≤ d) {h : jH}  {o0 : Nat} {v3 : Int} {out : (Int × jH)} (ho0 : isX4 T o0) (H : Pa_readJournal_L24 T h o0 v3 = some out) (HY : ykI T y out) : jEv xs d (48, 24, [(2, Int.ofNat o0), (3, 0), (3, 0), (0, v3)], []) (T, h) y :=
  jloop_sound (G := fun s : (Int × jH) => jEv xs d (48, 24, [(2, Int.ofNat o0), (3, 0), (3, 0), (0, s.1)], []) (T, s.2) y) (K := yk_Pa_readJournal_L24 T xs d y o0) (fun s out H HY => t_Pa_readJournal_B24 hd ho0 H HY) (fun s' hg => hg) (s := (v3, h)) H HY
set_option maxRecDepth 20000 in
noncomputable def Pa_readJournal (T : jT) (h : jH) (o0 : Nat) (r1 : Nat) (n1 : Nat) (v2 : Int) : Option (Int × jH) := Option.bind (Pa_begin h o0 r1 n1 v2) (fun b1 => Option.bind (jdyn (isX6 T) (b1 o0 0)) (fun q2 => Option.bind (Pl_clear b1 q2) (fun b3 => Option.bind (Pa_shape T b3 o0) (fun b4 => (if b4.1 = 0 then some (0, b4.2) else Pa_readJournal_L24 T b4.2 o0 1)))))
set_option maxRecDepth 20000 in
theorem t_Pa_readJournal {T : jT} {xs : List Int} {h : jH}  {o0 : Nat} {r1 : Nat} {n1 : Nat} {v2 : Int} {out : (Int × jH)} (ho0 : isX4 T o0) (hr1 : T.1[r1]? = some (20, n1)) (H : Pa_readJournal T h o0 r1 n1 v2 = some out) : jEm xs 89 48 [(2, Int.ofNat o0), (2, Int.ofNat r1), (0, v2)] (T, h) ((0, out.1), (T, out.2)) := by
  have hd : 88 ≤ 88 := Nat.le_refl _
  obtain ⟨y, ey⟩ : ∃ y : jV × jS, y = ((0, out.1), (T, out.2)) := ⟨_, rfl⟩
  rw [← ey]
  have HY : ykI T y out := ey
  refine jEm.ent (n := 4) (by decide +kernel) (Nat.le_of_ble_eq_true rfl) ?_
  show jEv xs 88 (48, 0, [(2, Int.ofNat o0), (2, Int.ofNat r1), (0, v2), (3, 0)], []) (T, h) y
  unfold Pa_readJournal at H
  refine jEv.blk [(.aload_n 0, 1, []), (.aload_n 1, 1, []), (.iload_n 2, 1, [])] (by decide +kernel) (pc' := 3) (ls' := [(2, Int.ofNat o0), (2, Int.ofNat r1), (0, v2), (3, 0)]) (st' := [(0, v2), (2, Int.ofNat r1), (2, Int.ofNat o0)]) rfl ?_
  refine jbind H (fun b1 Hb1 H => ?_)
  refine jEv.calV (st' := []) (show jfI 48 3 (.invokevirtual 36) 3 [1, 49, 2, 3100] = true by decide +kernel) rfl (Or.inl rfl) rfl (Nat.le_of_ble_eq_true rfl) (by decide +kernel) (by decide) (isX4_L ho0) ((t_Pa_begin (T := T) (xs := xs) ho0 hr1 Hb1).mono (jKle 2 hd)) rfl ?_
  refine jEv.blk [(.aload_n 0, 1, [])] (by decide +kernel) (pc' := 7) (ls' := [(2, Int.ofNat o0), (2, Int.ofNat r1), (0, v2), (3, 0)]) (st' := [(2, Int.ofNat o0)]) rfl ?_
  refine jEv.gfD (show jfI 48 7 (.getfield 12) 3 [4, 0, 2, 0, 1126] = true by decide +kernel) (isX4_L ho0) (by decide) H (fun q2 hq2 H => ?_)
  refine jbind H (fun b3 Hb3 H => ?_)
  refine jEv.calV (st' := []) (show jfI 48 10 (.invokevirtual 40) 3 [1, 88, 0, 3107] = true by decide +kernel) rfl (Or.inl rfl) rfl (Nat.le_of_ble_eq_true rfl) (by decide +kernel) (by decide) (isX6_L hq2) ((t_Pl_clear (T := T) (xs := xs) hq2 Hb3).mono (jKle 4 hd)) rfl ?_
  refine jEv.blk [(.aload_n 0, 1, [])] (by decide +kernel) (pc' := 14) (ls' := [(2, Int.ofNat o0), (2, Int.ofNat r1), (0, v2), (3, 0)]) (st' := [(2, Int.ofNat o0)]) rfl ?_
  refine jbind H (fun b4 Hb4 H => ?_)
  refine jEv.calV (st' := [(0, b4.1)]) (show jfI 48 14 (.invokevirtual 43) 3 [1, 50, 0, 3124] = true by decide +kernel) rfl (Or.inl rfl) rfl (Nat.le_of_ble_eq_true rfl) (by decide +kernel) (by decide) (isX4_L ho0) ((t_Pa_shape (T := T) (xs := xs) ho0 Hb4).mono (jKle 7 hd)) rfl ?_
  refine jEv.if_ne (t := 22) (show jfI 48 17 (.ifCond .ne 5) 3 [] = true by decide +kernel) rfl H (fun c5 H => ?_) (fun c5 H => ?_)
  · refine jEv.blk [(.iconst 0, 1, [])] (by decide +kernel) (pc' := 21) (ls' := [(2, Int.ofNat o0), (2, Int.ofNat r1), (0, v2), (3, 0)]) (st' := [(0, 0)]) rfl ?_
    exact jEv.retZ (show jfI 48 21 (.ireturn) 1 [] = true by decide +kernel) (by decide +kernel) (by decide) (by cases H; exact HY)
  · refine jEv.blk [(.iconst 1, 1, []), (.istore_n 3, 1, [])] (by decide +kernel) (pc' := 24) (ls' := [(2, Int.ofNat o0), (2, Int.ofNat r1), (0, v2), (0, 1)]) (st' := []) rfl ?_
    exact jEv.weak (a := [(2, Int.ofNat o0), (3, 0), (3, 0), (0, 1)]) (jles.c1 (jles.c0 (jles.c0 (jles.c1 jles.nl)))) (t_Pa_readJournal_L24 (T := T) (xs := xs) (y := y) hd ho0 H HY)
set_option maxRecDepth 20000 in
noncomputable def Pa_command (T : jT) (h : jH) (o0 : Nat) : Option (Int × jH) := Option.bind (Pa_word T h o0 [102, 105, 114, 115, 116]) (fun b1 => (if b1.1 = 0 then Option.bind (Pa_word T b1.2 o0 [108, 97, 115, 116]) (fun b3 => (if b3.1 = 0 then Option.bind (Pa_word T b3.2 o0 [111, 102, 116, 101, 110]) (fun b5 => (if b5.1 = 0 then Option.bind (Pa_word T b5.2 o0 [116, 111, 116, 97, 108]) (fun b7 => (if b7.1 = 0 then Option.bind (Pa_word T b7.2 o0 [109, 111, 115, 116]) (fun b9 => (if b9.1 = 0 then Option.bind (Pa_word T b9.2 o0 [108, 101, 97, 115, 116]) (fun b11 => (if b11.1 = 0 then some ((-1), b11.2) else some (5, b11.2))) else some (4, b9.2))) else some (3, b7.2))) else some (2, b5.2))) else some (1, b3.2))) else some (0, b1.2)))
set_option maxRecDepth 20000 in
theorem t_Pa_command {T : jT} {xs : List Int} {h : jH}  {o0 : Nat} {out : (Int × jH)} (ho0 : isX4 T o0) (H : Pa_command T h o0 = some out) : jEm xs 6 76 [(2, Int.ofNat o0)] (T, h) ((0, out.1), (T, out.2)) := by
  have hd : 5 ≤ 5 := Nat.le_refl _
  obtain ⟨y, ey⟩ : ∃ y : jV × jS, y = ((0, out.1), (T, out.2)) := ⟨_, rfl⟩
  rw [← ey]
  have HY : ykI T y out := ey
  refine jEm.ent (n := 1) (by decide +kernel) (Nat.le_of_ble_eq_true rfl) ?_
  show jEv xs 5 (76, 0, [(2, Int.ofNat o0)], []) (T, h) y
  unfold Pa_command at H
  refine jEv.blk [(.aload_n 0, 1, []), (.ldc 171, 2, [4, 16, 0, 4061])] (by decide +kernel) (pc' := 3) (ls' := [(2, Int.ofNat o0)]) (st' := [(4, 16), (2, Int.ofNat o0)]) rfl ?_
  refine jbind H (fun b1 Hb1 H => ?_)
  refine jEv.calV (st' := [(0, b1.1)]) (show jfI 76 3 (.invokevirtual 114) 3 [1, 52, 1, 3133] = true by decide +kernel) rfl (Or.inl rfl) rfl (Nat.le_of_ble_eq_true rfl) (by decide +kernel) (by decide) (isX4_L ho0) ((t_Pa_word (T := T) (xs := xs) ho0 (jIsS_16) Hb1).mono (jKle 5 hd)) rfl ?_
  refine jEv.if_eq (t := 11) (show jfI 76 6 (.ifCond .eq 5) 3 [] = true by decide +kernel) rfl H (fun c2 H => ?_) (fun c2 H => ?_)
  · refine jEv.blk [(.aload_n 0, 1, []), (.ldc 173, 2, [4, 19, 0, 6214])] (by decide +kernel) (pc' := 14) (ls' := [(2, Int.ofNat o0)]) (st' := [(4, 19), (2, Int.ofNat o0)]) rfl ?_
    refine jbind H (fun b3 Hb3 H => ?_)
    refine jEv.calV (st' := [(0, b3.1)]) (show jfI 76 14 (.invokevirtual 114) 3 [1, 52, 1, 3133] = true by decide +kernel) rfl (Or.inl rfl) rfl (Nat.le_of_ble_eq_true rfl) (by decide +kernel) (by decide) (isX4_L ho0) ((t_Pa_word (T := T) (xs := xs) ho0 (jIsS_19) Hb3).mono (jKle 5 hd)) rfl ?_
    refine jEv.if_eq (t := 22) (show jfI 76 17 (.ifCond .eq 5) 3 [] = true by decide +kernel) rfl H (fun c4 H => ?_) (fun c4 H => ?_)
    · refine jEv.blk [(.aload_n 0, 1, []), (.ldc 175, 2, [4, 28, 0, 6215])] (by decide +kernel) (pc' := 25) (ls' := [(2, Int.ofNat o0)]) (st' := [(4, 28), (2, Int.ofNat o0)]) rfl ?_
      refine jbind H (fun b5 Hb5 H => ?_)
      refine jEv.calV (st' := [(0, b5.1)]) (show jfI 76 25 (.invokevirtual 114) 3 [1, 52, 1, 3133] = true by decide +kernel) rfl (Or.inl rfl) rfl (Nat.le_of_ble_eq_true rfl) (by decide +kernel) (by decide) (isX4_L ho0) ((t_Pa_word (T := T) (xs := xs) ho0 (jIsS_28) Hb5).mono (jKle 5 hd)) rfl ?_
      refine jEv.if_eq (t := 33) (show jfI 76 28 (.ifCond .eq 5) 3 [] = true by decide +kernel) rfl H (fun c6 H => ?_) (fun c6 H => ?_)
      · refine jEv.blk [(.aload_n 0, 1, []), (.ldc 177, 2, [4, 37, 0, 6216])] (by decide +kernel) (pc' := 36) (ls' := [(2, Int.ofNat o0)]) (st' := [(4, 37), (2, Int.ofNat o0)]) rfl ?_
        refine jbind H (fun b7 Hb7 H => ?_)
        refine jEv.calV (st' := [(0, b7.1)]) (show jfI 76 36 (.invokevirtual 114) 3 [1, 52, 1, 3133] = true by decide +kernel) rfl (Or.inl rfl) rfl (Nat.le_of_ble_eq_true rfl) (by decide +kernel) (by decide) (isX4_L ho0) ((t_Pa_word (T := T) (xs := xs) ho0 (jIsS_37) Hb7).mono (jKle 5 hd)) rfl ?_
        refine jEv.if_eq (t := 44) (show jfI 76 39 (.ifCond .eq 5) 3 [] = true by decide +kernel) rfl H (fun c8 H => ?_) (fun c8 H => ?_)
        · refine jEv.blk [(.aload_n 0, 1, []), (.ldc 179, 2, [4, 23, 0, 6217])] (by decide +kernel) (pc' := 47) (ls' := [(2, Int.ofNat o0)]) (st' := [(4, 23), (2, Int.ofNat o0)]) rfl ?_
          refine jbind H (fun b9 Hb9 H => ?_)
          refine jEv.calV (st' := [(0, b9.1)]) (show jfI 76 47 (.invokevirtual 114) 3 [1, 52, 1, 3133] = true by decide +kernel) rfl (Or.inl rfl) rfl (Nat.le_of_ble_eq_true rfl) (by decide +kernel) (by decide) (isX4_L ho0) ((t_Pa_word (T := T) (xs := xs) ho0 (jIsS_23) Hb9).mono (jKle 5 hd)) rfl ?_
          refine jEv.if_eq (t := 55) (show jfI 76 50 (.ifCond .eq 5) 3 [] = true by decide +kernel) rfl H (fun c10 H => ?_) (fun c10 H => ?_)
          · refine jEv.blk [(.aload_n 0, 1, []), (.ldc 181, 2, [4, 20, 0, 6218])] (by decide +kernel) (pc' := 58) (ls' := [(2, Int.ofNat o0)]) (st' := [(4, 20), (2, Int.ofNat o0)]) rfl ?_
            refine jbind H (fun b11 Hb11 H => ?_)
            refine jEv.calV (st' := [(0, b11.1)]) (show jfI 76 58 (.invokevirtual 114) 3 [1, 52, 1, 3133] = true by decide +kernel) rfl (Or.inl rfl) rfl (Nat.le_of_ble_eq_true rfl) (by decide +kernel) (by decide) (isX4_L ho0) ((t_Pa_word (T := T) (xs := xs) ho0 (jIsS_20) Hb11).mono (jKle 5 hd)) rfl ?_
            refine jEv.if_eq (t := 68) (show jfI 76 61 (.ifCond .eq 7) 3 [] = true by decide +kernel) rfl H (fun c12 H => ?_) (fun c12 H => ?_)
            · refine jEv.blk [(.iconst (-1), 1, [])] (by decide +kernel) (pc' := 69) (ls' := [(2, Int.ofNat o0)]) (st' := [(0, (-1))]) rfl ?_
              exact jEv.retI (show jfI 76 69 (.ireturn) 1 [] = true by decide +kernel) (by decide +kernel) (by cases H; exact HY)
            · refine jEv.blk [(.iconst 5, 1, [])] (by decide +kernel) (pc' := 65) (ls' := [(2, Int.ofNat o0)]) (st' := [(0, 5)]) rfl ?_
              refine jEv.goto (t := 69) (show jfI 76 65 (.goto 4) 3 [] = true by decide +kernel) rfl ?_
              exact jEv.retI (show jfI 76 69 (.ireturn) 1 [] = true by decide +kernel) (by decide +kernel) (by cases H; exact HY)
          · refine jEv.blk [(.iconst 4, 1, [])] (by decide +kernel) (pc' := 54) (ls' := [(2, Int.ofNat o0)]) (st' := [(0, 4)]) rfl ?_
            exact jEv.retI (show jfI 76 54 (.ireturn) 1 [] = true by decide +kernel) (by decide +kernel) (by cases H; exact HY)
        · refine jEv.blk [(.iconst 3, 1, [])] (by decide +kernel) (pc' := 43) (ls' := [(2, Int.ofNat o0)]) (st' := [(0, 3)]) rfl ?_
          exact jEv.retI (show jfI 76 43 (.ireturn) 1 [] = true by decide +kernel) (by decide +kernel) (by cases H; exact HY)
      · refine jEv.blk [(.iconst 2, 1, [])] (by decide +kernel) (pc' := 32) (ls' := [(2, Int.ofNat o0)]) (st' := [(0, 2)]) rfl ?_
        exact jEv.retI (show jfI 76 32 (.ireturn) 1 [] = true by decide +kernel) (by decide +kernel) (by cases H; exact HY)
    · refine jEv.blk [(.iconst 1, 1, [])] (by decide +kernel) (pc' := 21) (ls' := [(2, Int.ofNat o0)]) (st' := [(0, 1)]) rfl ?_
      exact jEv.retI (show jfI 76 21 (.ireturn) 1 [] = true by decide +kernel) (by decide +kernel) (by cases H; exact HY)
  · refine jEv.blk [(.iconst 0, 1, [])] (by decide +kernel) (pc' := 10) (ls' := [(2, Int.ofNat o0)]) (st' := [(0, 0)]) rfl ?_
    exact jEv.retI (show jfI 76 10 (.ireturn) 1 [] = true by decide +kernel) (by decide +kernel) (by cases H; exact HY)
set_option maxRecDepth 20000 in
noncomputable def Pa_readQuestion_p89 (T : jT) (h : jH)  : Option (Int × jH) := some (0, h)
set_option maxRecDepth 20000 in
theorem t_Pa_readQuestion_p89 {T : jT} {xs : List Int} {d : Nat} {y : jV × jS} (hd : 87 ≤ d) {h : jH}   {out : (Int × jH)}  (H : Pa_readQuestion_p89 T h = some out) (HY : ykI T y out) : jEv xs d (75, 89, [(3, 0), (3, 0), (3, 0), (3, 0)], []) (T, h) y := by
  unfold Pa_readQuestion_p89 at H
  refine jEv.blk [(.iconst 0, 1, [])] (by decide +kernel) (pc' := 90) (ls' := [(3, 0), (3, 0), (3, 0), (3, 0)]) (st' := [(0, 0)]) rfl ?_
  exact jEv.retZ (show jfI 75 90 (.ireturn) 1 [] = true by decide +kernel) (by decide +kernel) (by decide) (by cases H; exact HY)
set_option maxRecDepth 20000 in
noncomputable def Pa_readQuestion_p85 (T : jT) (h : jH)  : Option (Int × jH) := some (1, h)
set_option maxRecDepth 20000 in
theorem t_Pa_readQuestion_p85 {T : jT} {xs : List Int} {d : Nat} {y : jV × jS} (hd : 87 ≤ d) {h : jH}   {out : (Int × jH)}  (H : Pa_readQuestion_p85 T h = some out) (HY : ykI T y out) : jEv xs d (75, 85, [(3, 0), (3, 0), (3, 0), (3, 0)], []) (T, h) y := by
  unfold Pa_readQuestion_p85 at H
  refine jEv.blk [(.iconst 1, 1, [])] (by decide +kernel) (pc' := 86) (ls' := [(3, 0), (3, 0), (3, 0), (3, 0)]) (st' := [(0, 1)]) rfl ?_
  refine jEv.goto (t := 90) (show jfI 75 86 (.goto 4) 3 [] = true by decide +kernel) rfl ?_
  exact jEv.retZ (show jfI 75 90 (.ireturn) 1 [] = true by decide +kernel) (by decide +kernel) (by decide) (by cases H; exact HY)
set_option maxRecDepth 20000 in
noncomputable def Pa_readQuestion_p60 (T : jT) (h : jH) (o0 : Nat) (vs0 : Int) : Option (Int × jH) := (if vs0 = 0 then Pa_readQuestion_p89 T h else Option.bind (Pa_peek T h o0) (fun b11 => (if b11.1 = (-1) then Pa_readQuestion_p85 T b11.2 else Option.bind (Pa_fail b11.2 o0 1 (b11.2 o0 7)) (fun b13 => (if b13.1 = 0 then Pa_readQuestion_p89 T b13.2 else Pa_readQuestion_p85 T b13.2)))))
set_option maxRecDepth 20000 in
theorem t_Pa_readQuestion_p60 {T : jT} {xs : List Int} {d : Nat} {y : jV × jS} (hd : 87 ≤ d) {h : jH}  {o0 : Nat} {vs0 : Int} {out : (Int × jH)} (ho0 : isX4 T o0) (H : Pa_readQuestion_p60 T h o0 vs0 = some out) (HY : ykI T y out) : jEv xs d (75, 60, [(2, Int.ofNat o0), (3, 0), (3, 0), (3, 0)], [(0, vs0)]) (T, h) y := by
  unfold Pa_readQuestion_p60 at H
  refine jEv.blk [(.istore_n 3, 1, []), (.iload_n 3, 1, [])] (by decide +kernel) (pc' := 62) (ls' := [(2, Int.ofNat o0), (3, 0), (3, 0), (0, vs0)]) (st' := [(0, vs0)]) rfl ?_
  refine jEv.if_eq (t := 89) (show jfI 75 62 (.ifCond .eq 27) 3 [] = true by decide +kernel) rfl H (fun c10 H => ?_) (fun c10 H => ?_)
  · exact jEv.weak (a := [(3, 0), (3, 0), (3, 0), (3, 0)]) (jles.c0 (jles.c0 (jles.c0 (jles.c0 jles.nl)))) (t_Pa_readQuestion_p89 (T := T) (xs := xs) (y := y) hd H HY)
  · refine jEv.blk [(.aload_n 0, 1, [])] (by decide +kernel) (pc' := 66) (ls' := [(2, Int.ofNat o0), (3, 0), (3, 0), (0, vs0)]) (st' := [(2, Int.ofNat o0)]) rfl ?_
    refine jbind H (fun b11 Hb11 H => ?_)
    refine jEv.calV (st' := [(0, b11.1)]) (show jfI 75 66 (.invokevirtual 54) 3 [1, 53, 0, 3137] = true by decide +kernel) rfl (Or.inl rfl) rfl (Nat.le_of_ble_eq_true rfl) (by decide +kernel) (by decide) (isX4_L ho0) ((t_Pa_peek (T := T) (xs := xs) ho0 Hb11).mono (jKle 1 hd)) rfl ?_
    refine jEv.blk [(.iconst (-1), 1, [])] (by decide +kernel) (pc' := 70) (ls' := [(2, Int.ofNat o0), (3, 0), (3, 0), (0, vs0)]) (st' := [(0, (-1)), (0, b11.1)]) rfl ?_
    refine jEv.ic_eq (t := 85) (show jfI 75 70 (.if_icmp .eq 15) 3 [] = true by decide +kernel) rfl H (fun c12 H => ?_) (fun c12 H => ?_)
    · exact jEv.weak (a := [(3, 0), (3, 0), (3, 0), (3, 0)]) (jles.c0 (jles.c0 (jles.c0 (jles.c0 jles.nl)))) (t_Pa_readQuestion_p85 (T := T) (xs := xs) (y := y) hd H HY)
    · refine jEv.blk [(.aload_n 0, 1, []), (.iconst 1, 1, []), (.aload_n 0, 1, [])] (by decide +kernel) (pc' := 76) (ls' := [(2, Int.ofNat o0), (3, 0), (3, 0), (0, vs0)]) (st' := [(2, Int.ofNat o0), (0, 1), (2, Int.ofNat o0)]) rfl ?_
      refine jEv.gfI (show jfI 75 76 (.getfield 58) 3 [4, 7, 0, 0, 1138] = true by decide +kernel) (isX4_L ho0) (by decide) ?_
      refine jbind H (fun b13 Hb13 H => ?_)
      refine jEv.calV (st' := [(0, b13.1)]) (show jfI 75 79 (.invokevirtual 61) 3 [1, 55, 2, 3193] = true by decide +kernel) rfl (Or.inl rfl) rfl (Nat.le_of_ble_eq_true rfl) (by decide +kernel) (by decide) (isX4_L ho0) ((t_Pa_fail (T := T) (xs := xs) ho0 Hb13).mono (jKle 1 hd)) rfl ?_
      refine jEv.if_eq (t := 89) (show jfI 75 82 (.ifCond .eq 7) 3 [] = true by decide +kernel) rfl H (fun c14 H => ?_) (fun c14 H => ?_)
      · exact jEv.weak (a := [(3, 0), (3, 0), (3, 0), (3, 0)]) (jles.c0 (jles.c0 (jles.c0 (jles.c0 jles.nl)))) (t_Pa_readQuestion_p89 (T := T) (xs := xs) (y := y) hd H HY)
      · exact jEv.weak (a := [(3, 0), (3, 0), (3, 0), (3, 0)]) (jles.c0 (jles.c0 (jles.c0 (jles.c0 jles.nl)))) (t_Pa_readQuestion_p85 (T := T) (xs := xs) (y := y) hd H HY)
set_option maxRecDepth 20000 in
noncomputable def Pa_readQuestion (T : jT) (h : jH) (o0 : Nat) (r1 : Nat) (n1 : Nat) (v2 : Int) : Option (Int × jH) := Option.bind (Pa_begin h o0 r1 n1 v2) (fun b1 => Option.bind (Pa_command T b1 o0) (fun b2 => (if ((jup b2.2 o0 2 b2.1) o0 2) = (-1) then Option.bind (Pa_fail (jup b2.2 o0 2 b2.1) o0 1 ((jup b2.2 o0 2 b2.1) o0 7)) (fun b4 => (if b4.1 = 0 ∨ b4.1 = 1 then some (b4.1, b4.2) else none)) else Option.bind (Pa_aim T (jup b2.2 o0 2 b2.1) o0 (o0 + 13) 2) (fun b6 => (if 2 < (b6 o0 2) then Option.bind ((jrecW T).2.2.2.2.1 b6 o0) (fun b8 => Pa_readQuestion_p60 T b8.2 o0 b8.1) else Option.bind ((jrecW T).1 b6 o0) (fun b9 => Pa_readQuestion_p60 T b9.2 o0 b9.1))))))
set_option maxRecDepth 20000 in
theorem t_Pa_readQuestion {T : jT} {xs : List Int} {h : jH}  {o0 : Nat} {r1 : Nat} {n1 : Nat} {v2 : Int} {out : (Int × jH)} (ho0 : isX4 T o0) (hr1 : T.1[r1]? = some (20, n1)) (H : Pa_readQuestion T h o0 r1 n1 v2 = some out) : jEm xs 88 75 [(2, Int.ofNat o0), (2, Int.ofNat r1), (0, v2)] (T, h) ((0, out.1), (T, out.2)) := by
  have hd : 87 ≤ 87 := Nat.le_refl _
  obtain ⟨y, ey⟩ : ∃ y : jV × jS, y = ((0, out.1), (T, out.2)) := ⟨_, rfl⟩
  rw [← ey]
  have HY : ykI T y out := ey
  refine jEm.ent (n := 4) (by decide +kernel) (Nat.le_of_ble_eq_true rfl) ?_
  show jEv xs 87 (75, 0, [(2, Int.ofNat o0), (2, Int.ofNat r1), (0, v2), (3, 0)], []) (T, h) y
  unfold Pa_readQuestion at H
  refine jEv.blk [(.aload_n 0, 1, []), (.aload_n 1, 1, []), (.iload_n 2, 1, [])] (by decide +kernel) (pc' := 3) (ls' := [(2, Int.ofNat o0), (2, Int.ofNat r1), (0, v2), (3, 0)]) (st' := [(0, v2), (2, Int.ofNat r1), (2, Int.ofNat o0)]) rfl ?_
  refine jbind H (fun b1 Hb1 H => ?_)
  refine jEv.calV (st' := []) (show jfI 75 3 (.invokevirtual 36) 3 [1, 49, 2, 3100] = true by decide +kernel) rfl (Or.inl rfl) rfl (Nat.le_of_ble_eq_true rfl) (by decide +kernel) (by decide) (isX4_L ho0) ((t_Pa_begin (T := T) (xs := xs) ho0 hr1 Hb1).mono (jKle 2 hd)) rfl ?_
  refine jEv.blk [(.aload_n 0, 1, []), (.aload_n 0, 1, [])] (by decide +kernel) (pc' := 8) (ls' := [(2, Int.ofNat o0), (2, Int.ofNat r1), (0, v2), (3, 0)]) (st' := [(2, Int.ofNat o0), (2, Int.ofNat o0)]) rfl ?_
  refine jbind H (fun b2 Hb2 H => ?_)
  refine jEv.calV (st' := [(0, b2.1), (2, Int.ofNat o0)]) (show jfI 75 8 (.invokevirtual 68) 3 [1, 76, 0, 6210] = true by decide +kernel) rfl (Or.inl rfl) rfl (Nat.le_of_ble_eq_true rfl) (by decide +kernel) (by decide) (isX4_L ho0) ((t_Pa_command (T := T) (xs := xs) ho0 Hb2).mono (jKle 6 hd)) rfl ?_
  refine jEv.pfI (show jfI 75 11 (.putfield 71) 3 [4, 2, 0, 0, 1130] = true by decide +kernel) (isX4_L ho0) (by decide) ?_
  refine jEv.blk [(.aload_n 0, 1, [])] (by decide +kernel) (pc' := 15) (ls' := [(2, Int.ofNat o0), (2, Int.ofNat r1), (0, v2), (3, 0)]) (st' := [(2, Int.ofNat o0)]) rfl ?_
  refine jEv.gfI (show jfI 75 15 (.getfield 71) 3 [4, 2, 0, 0, 1130] = true by decide +kernel) (isX4_L ho0) (by decide) ?_
  refine jEv.blk [(.iconst (-1), 1, [])] (by decide +kernel) (pc' := 19) (ls' := [(2, Int.ofNat o0), (2, Int.ofNat r1), (0, v2), (3, 0)]) (st' := [(0, (-1)), (0, ((jup b2.2 o0 2 b2.1) o0 2))]) rfl ?_
  refine jEv.ic_ne (t := 32) (show jfI 75 19 (.if_icmp .ne 13) 3 [] = true by decide +kernel) rfl H (fun c3 H => ?_) (fun c3 H => ?_)
  · refine jEv.blk [(.aload_n 0, 1, []), (.iconst 1, 1, []), (.aload_n 0, 1, [])] (by decide +kernel) (pc' := 25) (ls' := [(2, Int.ofNat o0), (2, Int.ofNat r1), (0, v2), (3, 0)]) (st' := [(2, Int.ofNat o0), (0, 1), (2, Int.ofNat o0)]) rfl ?_
    refine jEv.gfI (show jfI 75 25 (.getfield 58) 3 [4, 7, 0, 0, 1138] = true by decide +kernel) (isX4_L ho0) (by decide) ?_
    refine jbind H (fun b4 Hb4 H => ?_)
    refine jEv.calV (st' := [(0, b4.1)]) (show jfI 75 28 (.invokevirtual 61) 3 [1, 55, 2, 3193] = true by decide +kernel) rfl (Or.inl rfl) rfl (Nat.le_of_ble_eq_true rfl) (by decide +kernel) (by decide) (isX4_L ho0) ((t_Pa_fail (T := T) (xs := xs) ho0 Hb4).mono (jKle 1 hd)) rfl ?_
    refine jchk H (fun c5 H => ?_)
    exact jEv.retZ (show jfI 75 31 (.ireturn) 1 [] = true by decide +kernel) (by decide +kernel) c5 (by cases H; exact HY)
  · refine jEv.blk [(.aload_n 0, 1, []), (.aload_n 0, 1, [])] (by decide +kernel) (pc' := 34) (ls' := [(2, Int.ofNat o0), (2, Int.ofNat r1), (0, v2), (3, 0)]) (st' := [(2, Int.ofNat o0), (2, Int.ofNat o0)]) rfl ?_
    refine jEv.gfR (o' := (o0 + 13)) (show jfI 75 34 (.getfield 21) 3 [4, 1, 5, 0, 1128] = true by decide +kernel) (isX4_L ho0) (by decide) (isX4_r1 ho0) ?_
    refine jEv.blk [(.iconst 2, 1, [])] (by decide +kernel) (pc' := 38) (ls' := [(2, Int.ofNat o0), (2, Int.ofNat r1), (0, v2), (3, 0)]) (st' := [(0, 2), (2, Int.ofNat (o0 + 13)), (2, Int.ofNat o0)]) rfl ?_
    refine jbind H (fun b6 Hb6 H => ?_)
    refine jEv.calV (st' := []) (show jfI 75 38 (.invokevirtual 74) 3 [1, 62, 2, 3231] = true by decide +kernel) rfl (Or.inl rfl) rfl (Nat.le_of_ble_eq_true rfl) (by decide +kernel) (by decide) (isX4_L ho0) ((t_Pa_aim (T := T) (xs := xs) ho0 (isX4_s1 ho0) Hb6).mono (jKle 2 hd)) rfl ?_
    refine jEv.blk [(.aload_n 0, 1, [])] (by decide +kernel) (pc' := 42) (ls' := [(2, Int.ofNat o0), (2, Int.ofNat r1), (0, v2), (3, 0)]) (st' := [(2, Int.ofNat o0)]) rfl ?_
    refine jEv.gfI (show jfI 75 42 (.getfield 71) 3 [4, 2, 0, 0, 1130] = true by decide +kernel) (isX4_L ho0) (by decide) ?_
    refine jEv.blk [(.iconst 2, 1, [])] (by decide +kernel) (pc' := 46) (ls' := [(2, Int.ofNat o0), (2, Int.ofNat r1), (0, v2), (3, 0)]) (st' := [(0, 2), (0, (b6 o0 2))]) rfl ?_
    refine jEv.ic_gt (t := 56) (show jfI 75 46 (.if_icmp .gt 10) 3 [] = true by decide +kernel) rfl H (fun c7 H => ?_) (fun c7 H => ?_)
    · refine jEv.blk [(.aload_n 0, 1, [])] (by decide +kernel) (pc' := 57) (ls' := [(2, Int.ofNat o0), (2, Int.ofNat r1), (0, v2), (3, 0)]) (st' := [(2, Int.ofNat o0)]) rfl ?_
      refine jbind H (fun b8 Hb8 H => ?_)
      refine jEv.calV (st' := [(0, b8.1)]) (show jfI 75 57 (.invokevirtual 81) 3 [1, 69, 0, 4026] = true by decide +kernel) rfl (Or.inl rfl) rfl (Nat.le_of_ble_eq_true rfl) (by decide +kernel) (by decide) (isX4_L ho0) (((t_jrecW (T := T) (xs := xs)).2.2.2.2.1 ho0 Hb8).mono (jKle 87 hd)) rfl ?_
      exact jEv.weak (a := [(2, Int.ofNat o0), (3, 0), (3, 0), (3, 0)]) (jles.c1 (jles.c0 (jles.c0 (jles.c0 jles.nl)))) (t_Pa_readQuestion_p60 (T := T) (xs := xs) (y := y) hd ho0 H HY)
    · refine jEv.blk [(.aload_n 0, 1, [])] (by decide +kernel) (pc' := 50) (ls' := [(2, Int.ofNat o0), (2, Int.ofNat r1), (0, v2), (3, 0)]) (st' := [(2, Int.ofNat o0)]) rfl ?_
      refine jbind H (fun b9 Hb9 H => ?_)
      refine jEv.calV (st' := [(0, b9.1)]) (show jfI 75 50 (.invokevirtual 78) 3 [1, 63, 0, 3239] = true by decide +kernel) rfl (Or.inl rfl) rfl (Nat.le_of_ble_eq_true rfl) (by decide +kernel) (by decide) (isX4_L ho0) (((t_jrecW (T := T) (xs := xs)).1 ho0 Hb9).mono (jKle 87 hd)) rfl ?_
      refine jEv.goto (t := 60) (show jfI 75 53 (.goto 7) 3 [] = true by decide +kernel) rfl ?_
      exact jEv.weak (a := [(2, Int.ofNat o0), (3, 0), (3, 0), (3, 0)]) (jles.c1 (jles.c0 (jles.c0 (jles.c0 jles.nl)))) (t_Pa_readQuestion_p60 (T := T) (xs := xs) (y := y) hd ho0 H HY)
set_option maxRecDepth 20000 in
noncomputable def Pe_start  (h : jH) (o0 : Nat) (o1 : Nat) : Option jH := some (jup (jup (jup (jup (jup h o0 0 (h o1 10)) o0 1 ((jup h o0 0 (h o1 10)) o1 11)) o0 2 ((jup (jup h o0 0 (h o1 10)) o0 1 ((jup h o0 0 (h o1 10)) o1 11)) o1 12)) o0 3 ((jup (jup (jup h o0 0 (h o1 10)) o0 1 ((jup h o0 0 (h o1 10)) o1 11)) o0 2 ((jup (jup h o0 0 (h o1 10)) o0 1 ((jup h o0 0 (h o1 10)) o1 11)) o1 12)) o1 13)) o0 4 (jshl 1 ((jup (jup (jup (jup h o0 0 (h o1 10)) o0 1 ((jup h o0 0 (h o1 10)) o1 11)) o0 2 ((jup (jup h o0 0 (h o1 10)) o0 1 ((jup h o0 0 (h o1 10)) o1 11)) o1 12)) o0 3 ((jup (jup (jup h o0 0 (h o1 10)) o0 1 ((jup h o0 0 (h o1 10)) o1 11)) o0 2 ((jup (jup h o0 0 (h o1 10)) o0 1 ((jup h o0 0 (h o1 10)) o1 11)) o1 12)) o1 13)) o0 0)))
set_option maxRecDepth 20000 in
theorem t_Pe_start {T : jT} {xs : List Int} {h : jH}  {o0 : Nat} {o1 : Nat} {out : jH} (ho0 : isX5 T o0) (ho1 : isX9 T o1) (H : Pe_start h o0 o1 = some out) : jEm xs 1 79 [(2, Int.ofNat o0), (2, Int.ofNat o1)] (T, h) ((3, 0), (T, out)) := by
  have hd : 0 ≤ 0 := Nat.le_refl _
  obtain ⟨y, ey⟩ : ∃ y : jV × jS, y = ((3, 0), (T, out)) := ⟨_, rfl⟩
  rw [← ey]
  have HY : ykV T y out := ey
  refine jEm.ent (n := 2) (by decide +kernel) (Nat.le_of_ble_eq_true rfl) ?_
  show jEv xs 0 (79, 0, [(2, Int.ofNat o0), (2, Int.ofNat o1)], []) (T, h) y
  unfold Pe_start at H
  refine jEv.blk [(.aload_n 0, 1, []), (.aload_n 1, 1, [])] (by decide +kernel) (pc' := 2) (ls' := [(2, Int.ofNat o0), (2, Int.ofNat o1)]) (st' := [(2, Int.ofNat o1), (2, Int.ofNat o0)]) rfl ?_
  refine jEv.gfI (show jfI 79 2 (.getfield 9) 3 [9, 10, 0, 0, 2086] = true by decide +kernel) (isX9_L ho1) (by decide) ?_
  refine jEv.pfI (show jfI 79 5 (.putfield 15) 3 [5, 0, 0, 0, 2138] = true by decide +kernel) (isX5_L ho0) (by decide) ?_
  refine jEv.blk [(.aload_n 0, 1, []), (.aload_n 1, 1, [])] (by decide +kernel) (pc' := 10) (ls' := [(2, Int.ofNat o0), (2, Int.ofNat o1)]) (st' := [(2, Int.ofNat o1), (2, Int.ofNat o0)]) rfl ?_
  refine jEv.gfI (show jfI 79 10 (.getfield 20) 3 [9, 11, 0, 0, 2089] = true by decide +kernel) (isX9_L ho1) (by decide) ?_
  refine jEv.pfI (show jfI 79 13 (.putfield 23) 3 [5, 1, 0, 0, 2139] = true by decide +kernel) (isX5_L ho0) (by decide) ?_
  refine jEv.blk [(.aload_n 0, 1, []), (.aload_n 1, 1, [])] (by decide +kernel) (pc' := 18) (ls' := [(2, Int.ofNat o0), (2, Int.ofNat o1)]) (st' := [(2, Int.ofNat o1), (2, Int.ofNat o0)]) rfl ?_
  refine jEv.gfI (show jfI 79 18 (.getfield 26) 3 [9, 12, 0, 0, 2092] = true by decide +kernel) (isX9_L ho1) (by decide) ?_
  refine jEv.pfI (show jfI 79 21 (.putfield 29) 3 [5, 2, 0, 0, 2140] = true by decide +kernel) (isX5_L ho0) (by decide) ?_
  refine jEv.blk [(.aload_n 0, 1, []), (.aload_n 1, 1, [])] (by decide +kernel) (pc' := 26) (ls' := [(2, Int.ofNat o0), (2, Int.ofNat o1)]) (st' := [(2, Int.ofNat o1), (2, Int.ofNat o0)]) rfl ?_
  refine jEv.gfI (show jfI 79 26 (.getfield 32) 3 [9, 13, 0, 0, 2095] = true by decide +kernel) (isX9_L ho1) (by decide) ?_
  refine jEv.pfI (show jfI 79 29 (.putfield 35) 3 [5, 3, 0, 0, 2141] = true by decide +kernel) (isX5_L ho0) (by decide) ?_
  refine jEv.blk [(.aload_n 0, 1, []), (.iconst 1, 1, []), (.aload_n 0, 1, [])] (by decide +kernel) (pc' := 35) (ls' := [(2, Int.ofNat o0), (2, Int.ofNat o1)]) (st' := [(2, Int.ofNat o0), (0, 1), (2, Int.ofNat o0)]) rfl ?_
  refine jEv.gfI (show jfI 79 35 (.getfield 15) 3 [5, 0, 0, 0, 2138] = true by decide +kernel) (isX5_L ho0) (by decide) ?_
  refine jEv.blk [(.ishl, 1, [])] (by decide +kernel) (pc' := 39) (ls' := [(2, Int.ofNat o0), (2, Int.ofNat o1)]) (st' := [(0, (jshl 1 ((jup (jup (jup (jup h o0 0 (h o1 10)) o0 1 ((jup h o0 0 (h o1 10)) o1 11)) o0 2 ((jup (jup h o0 0 (h o1 10)) o0 1 ((jup h o0 0 (h o1 10)) o1 11)) o1 12)) o0 3 ((jup (jup (jup h o0 0 (h o1 10)) o0 1 ((jup h o0 0 (h o1 10)) o1 11)) o0 2 ((jup (jup h o0 0 (h o1 10)) o0 1 ((jup h o0 0 (h o1 10)) o1 11)) o1 12)) o1 13)) o0 0))), (2, Int.ofNat o0)]) rfl ?_
  refine jEv.pfI (show jfI 79 39 (.putfield 36) 3 [5, 4, 0, 0, 2142] = true by decide +kernel) (isX5_L ho0) (by decide) ?_
  exact jEv.retV (show jfI 79 42 (.return_) 1 [] = true by decide +kernel) (by decide +kernel) (by cases H; exact HY)
set_option maxRecDepth 20000 in
noncomputable def St_isFree_p30  (h : jH)  : Option Int := some 0
set_option maxRecDepth 20000 in
theorem t_St_isFree_p30 {T : jT} {xs : List Int} {d : Nat} {y : jV × jS} (hd : 0 ≤ d) {h : jH}   {out : Int}  (H : St_isFree_p30 h = some out) (HY : ykIp T h y out) : jEv xs d (113, 30, [(3, 0), (3, 0)], []) (T, h) y := by
  unfold St_isFree_p30 at H
  refine jEv.blk [(.iconst 0, 1, [])] (by decide +kernel) (pc' := 31) (ls' := [(3, 0), (3, 0)]) (st' := [(0, 0)]) rfl ?_
  exact jEv.retZ (show jfI 113 31 (.ireturn) 1 [] = true by decide +kernel) (by decide +kernel) (by decide) (by cases H; exact HY)
set_option maxRecDepth 20000 in
noncomputable def St_isFree  (h : jH) (o0 : Nat) (v1 : Int) : Option Int := (if v1 < 0 then St_isFree_p30 h else (if v1 < ((4 : Nat) : Int) then (if (0 : Int) ≤ v1 ∧ (v1 : Int).toNat < 4 then (if (h (o0 + 20) (v1 : Int).toNat) < (h o0 7) then some 1 else St_isFree_p30 h) else none) else St_isFree_p30 h))
set_option maxRecDepth 20000 in
theorem t_St_isFree {T : jT} {xs : List Int} {h : jH}  {o0 : Nat} {v1 : Int} {out : Int} (ho0 : isX9 T o0) (H : St_isFree h o0 v1 = some out) : jEm xs 1 113 [(2, Int.ofNat o0), (0, v1)] (T, h) ((0, out), (T, h)) := by
  have hd : 0 ≤ 0 := Nat.le_refl _
  obtain ⟨y, ey⟩ : ∃ y : jV × jS, y = ((0, out), (T, h)) := ⟨_, rfl⟩
  rw [← ey]
  have HY : ykIp T h y out := ey
  refine jEm.ent (n := 2) (by decide +kernel) (Nat.le_of_ble_eq_true rfl) ?_
  show jEv xs 0 (113, 0, [(2, Int.ofNat o0), (0, v1)], []) (T, h) y
  unfold St_isFree at H
  refine jEv.blk [(.iload_n 1, 1, [])] (by decide +kernel) (pc' := 1) (ls' := [(2, Int.ofNat o0), (0, v1)]) (st' := [(0, v1)]) rfl ?_
  refine jEv.if_lt (t := 30) (show jfI 113 1 (.ifCond .lt 29) 3 [] = true by decide +kernel) rfl H (fun c1 H => ?_) (fun c1 H => ?_)
  · exact jEv.weak (a := [(3, 0), (3, 0)]) (jles.c0 (jles.c0 jles.nl)) (t_St_isFree_p30 (T := T) (xs := xs) (y := y) hd H HY)
  · refine jEv.blk [(.iload_n 1, 1, []), (.aload_n 0, 1, [])] (by decide +kernel) (pc' := 6) (ls' := [(2, Int.ofNat o0), (0, v1)]) (st' := [(2, Int.ofNat o0), (0, v1)]) rfl ?_
    refine jEv.gfR (o' := (o0 + 20)) (show jfI 113 6 (.getfield 46) 3 [9, 8, 5, 0, 2082] = true by decide +kernel) (isX9_L ho0) (by decide) (isX9_r8 ho0) ?_
    refine jEv.alen (show jfI 113 9 (.arraylength) 1 [] = true by decide +kernel) (isX9_a8 ho0) (by decide) ?_
    refine jEv.ic_ge (t := 30) (show jfI 113 10 (.if_icmp .ge 20) 3 [] = true by decide +kernel) rfl H (fun c2 H => ?_) (fun c2 H => ?_)
    · refine jEv.blk [(.aload_n 0, 1, [])] (by decide +kernel) (pc' := 14) (ls' := [(2, Int.ofNat o0), (0, v1)]) (st' := [(2, Int.ofNat o0)]) rfl ?_
      refine jEv.gfR (o' := (o0 + 20)) (show jfI 113 14 (.getfield 46) 3 [9, 8, 5, 0, 2082] = true by decide +kernel) (isX9_L ho0) (by decide) (isX9_r8 ho0) ?_
      refine jEv.blk [(.iload_n 1, 1, [])] (by decide +kernel) (pc' := 18) (ls' := [(2, Int.ofNat o0), (0, v1)]) (st' := [(0, v1), (2, Int.ofNat (o0 + 20))]) rfl ?_
      refine jEv.ald (Or.inl ⟨rfl, rfl, rfl⟩) (show jfI 113 18 (.iaload) 1 [] = true by decide +kernel) (isX9_a8 ho0) H (fun c3 H => ?_)
      refine jEv.blk [(.aload_n 0, 1, [])] (by decide +kernel) (pc' := 20) (ls' := [(2, Int.ofNat o0), (0, v1)]) (st' := [(2, Int.ofNat o0), (0, (h (o0 + 20) (v1 : Int).toNat))]) rfl ?_
      refine jEv.gfI (show jfI 113 20 (.getfield 73) 3 [9, 7, 0, 0, 2080] = true by decide +kernel) (isX9_L ho0) (by decide) ?_
      refine jEv.ic_ge (t := 30) (show jfI 113 23 (.if_icmp .ge 7) 3 [] = true by decide +kernel) rfl H (fun c4 H => ?_) (fun c4 H => ?_)
      · refine jEv.blk [(.iconst 1, 1, [])] (by decide +kernel) (pc' := 27) (ls' := [(2, Int.ofNat o0), (0, v1)]) (st' := [(0, 1)]) rfl ?_
        refine jEv.goto (t := 31) (show jfI 113 27 (.goto 4) 3 [] = true by decide +kernel) rfl ?_
        exact jEv.retZ (show jfI 113 31 (.ireturn) 1 [] = true by decide +kernel) (by decide +kernel) (by decide) (by cases H; exact HY)
      · exact jEv.weak (a := [(3, 0), (3, 0)]) (jles.c0 (jles.c0 jles.nl)) (t_St_isFree_p30 (T := T) (xs := xs) (y := y) hd H HY)
    · exact jEv.weak (a := [(3, 0), (3, 0)]) (jles.c0 (jles.c0 jles.nl)) (t_St_isFree_p30 (T := T) (xs := xs) (y := y) hd H HY)
def yk_Pe_freeSegment_L2 (T : jT) (xs : List Int) (d : Nat) (y : jV × jS) (h : jH)  (o0 : Nat) (o1 : Nat) : (Int ⊕ Int) → Prop
  | .inl v2 => jEv xs d (81, 2, [(2, Int.ofNat o0), (2, Int.ofNat o1), (0, v2)], []) (T, h) y
  | .inr o => ykIp T h y o
set_option maxRecDepth 20000 in
noncomputable def Pe_freeSegment_B2  (h : jH) (o0 : Nat) (o1 : Nat) (v2 : Int) : Option (Int ⊕ Int) := (if v2 < (h (o1 + 1) 2) then (if (jand (h o0 4) (jshl 1 v2)) = 0 then Option.bind (St_isFree h o1 v2) (fun b3 => (if b3 = 0 then some (.inl ((wr (v2 + 1)))) else Option.map Sum.inr (some v2))) else some (.inl ((wr (v2 + 1))))) else Option.map Sum.inr (some (-1)))
noncomputable def Pe_freeSegment_L2  (h : jH) (o0 : Nat) (o1 : Nat) (v2 : Int) : Option Int := jloop (fun s : Int => Pe_freeSegment_B2 h o0 o1 s) (v2)
set_option maxRecDepth 20000 in
theorem t_Pe_freeSegment_B2 {T : jT} {xs : List Int} {d : Nat} {y : jV × jS} (hd : 1 ≤ d) {h : jH}  {o0 : Nat} {o1 : Nat} {v2 : Int} {out : (Int ⊕ Int)} (ho0 : isX5 T o0) (ho1 : isX9 T o1) (H : Pe_freeSegment_B2 h o0 o1 v2 = some out) (HY : yk_Pe_freeSegment_L2 T xs d y h o0 o1 out) : jEv xs d (81, 2, [(2, Int.ofNat o0), (2, Int.ofNat o1), (0, v2)], []) (T, h) y := by
  unfold Pe_freeSegment_B2 at H
  refine jEv.blk [(.iload_n 2, 1, []), (.aload_n 1, 1, [])] (by decide +kernel) (pc' := 4) (ls' := [(2, Int.ofNat o0), (2, Int.ofNat o1), (0, v2)]) (st' := [(2, Int.ofNat o1), (0, v2)]) rfl ?_
  refine jEv.gfR (o' := (o1 + 1)) (show jfI 81 4 (.getfield 47) 3 [9, 1, 5, 0, 2066] = true by decide +kernel) (isX9_L ho1) (by decide) (isX9_r1 ho1) ?_
  refine jEv.gfI (show jfI 81 7 (.getfield 96) 3 [0, 2, 0, 0, 1186] = true by decide +kernel) (isX0_L (isX9_s1 ho1)) (by decide) ?_
  refine jEv.ic_ge (t := 40) (show jfI 81 10 (.if_icmp .ge 30) 3 [] = true by decide +kernel) rfl H (fun c1 H => ?_) (fun c1 H => ?_)
  · refine jEv.blk [(.aload_n 0, 1, [])] (by decide +kernel) (pc' := 14) (ls' := [(2, Int.ofNat o0), (2, Int.ofNat o1), (0, v2)]) (st' := [(2, Int.ofNat o0)]) rfl ?_
    refine jEv.gfI (show jfI 81 14 (.getfield 36) 3 [5, 4, 0, 0, 2142] = true by decide +kernel) (isX5_L ho0) (by decide) ?_
    refine jEv.blk [(.iconst 1, 1, []), (.iload_n 2, 1, []), (.ishl, 1, []), (.iand, 1, [])] (by decide +kernel) (pc' := 21) (ls' := [(2, Int.ofNat o0), (2, Int.ofNat o1), (0, v2)]) (st' := [(0, (jand (h o0 4) (jshl 1 v2)))]) rfl ?_
    refine jEv.if_ne (t := 34) (show jfI 81 21 (.ifCond .ne 13) 3 [] = true by decide +kernel) rfl H (fun c2 H => ?_) (fun c2 H => ?_)
    · refine jEv.blk [(.aload_n 1, 1, []), (.iload_n 2, 1, [])] (by decide +kernel) (pc' := 26) (ls' := [(2, Int.ofNat o0), (2, Int.ofNat o1), (0, v2)]) (st' := [(0, v2), (2, Int.ofNat o1)]) rfl ?_
      refine jbind H (fun b3 Hb3 H => ?_)
      refine jEv.calV (st' := [(0, b3)]) (show jfI 81 26 (.invokevirtual 99) 3 [1, 113, 1, 5194] = true by decide +kernel) rfl (Or.inl rfl) rfl (Nat.le_of_ble_eq_true rfl) (by decide +kernel) (by decide) (isX9_L ho1) ((t_St_isFree (T := T) (xs := xs) ho1 Hb3).mono (jKle 1 hd)) rfl ?_
      refine jEv.if_eq (t := 34) (show jfI 81 29 (.ifCond .eq 5) 3 [] = true by decide +kernel) rfl H (fun c4 H => ?_) (fun c4 H => ?_)
      · refine jEv.blk [(.iinc 2 1, 3, [])] (by decide +kernel) (pc' := 37) (ls' := [(2, Int.ofNat o0), (2, Int.ofNat o1), (0, (wr (v2 + 1)))]) (st' := []) rfl ?_
        refine jEv.goto (t := 2) (show jfI 81 37 (.goto (-35)) 3 [] = true by decide +kernel) rfl ?_
        exact (by cases H; exact HY)
      · refine jmapr H HY (fun out H (HY : ykIp T h y out) => ?_)
        refine jEv.blk [(.iload_n 2, 1, [])] (by decide +kernel) (pc' := 33) (ls' := [(2, Int.ofNat o0), (2, Int.ofNat o1), (0, v2)]) (st' := [(0, v2)]) rfl ?_
        exact jEv.retI (show jfI 81 33 (.ireturn) 1 [] = true by decide +kernel) (by decide +kernel) (by cases H; exact HY)
    · refine jEv.blk [(.iinc 2 1, 3, [])] (by decide +kernel) (pc' := 37) (ls' := [(2, Int.ofNat o0), (2, Int.ofNat o1), (0, (wr (v2 + 1)))]) (st' := []) rfl ?_
      refine jEv.goto (t := 2) (show jfI 81 37 (.goto (-35)) 3 [] = true by decide +kernel) rfl ?_
      exact (by cases H; exact HY)
  · refine jmapr H HY (fun out H (HY : ykIp T h y out) => ?_)
    refine jEv.blk [(.iconst (-1), 1, [])] (by decide +kernel) (pc' := 41) (ls' := [(2, Int.ofNat o0), (2, Int.ofNat o1), (0, v2)]) (st' := [(0, (-1))]) rfl ?_
    exact jEv.retI (show jfI 81 41 (.ireturn) 1 [] = true by decide +kernel) (by decide +kernel) (by cases H; exact HY)
theorem t_Pe_freeSegment_L2 {T : jT} {xs : List Int} {d : Nat} {y : jV × jS} (hd : 1 ≤ d) {h : jH}  {o0 : Nat} {o1 : Nat} {v2 : Int} {out : Int} (ho0 : isX5 T o0) (ho1 : isX9 T o1) (H : Pe_freeSegment_L2 h o0 o1 v2 = some out) (HY : ykIp T h y out) : jEv xs d (81, 2, [(2, Int.ofNat o0), (2, Int.ofNat o1), (0, v2)], []) (T, h) y :=
  jloop_sound (G := fun s : Int => jEv xs d (81, 2, [(2, Int.ofNat o0), (2, Int.ofNat o1), (0, s)], []) (T, h) y) (K := yk_Pe_freeSegment_L2 T xs d y h o0 o1) (fun s out H HY => t_Pe_freeSegment_B2 hd ho0 ho1 H HY) (fun s' hg => hg) (s := (v2)) H HY
set_option maxRecDepth 20000 in
noncomputable def Pe_freeSegment  (h : jH) (o0 : Nat) (o1 : Nat) : Option Int := Pe_freeSegment_L2 h o0 o1 0
set_option maxRecDepth 20000 in
theorem t_Pe_freeSegment {T : jT} {xs : List Int} {h : jH}  {o0 : Nat} {o1 : Nat} {out : Int} (ho0 : isX5 T o0) (ho1 : isX9 T o1) (H : Pe_freeSegment h o0 o1 = some out) : jEm xs 2 81 [(2, Int.ofNat o0), (2, Int.ofNat o1)] (T, h) ((0, out), (T, h)) := by
  have hd : 1 ≤ 1 := Nat.le_refl _
  obtain ⟨y, ey⟩ : ∃ y : jV × jS, y = ((0, out), (T, h)) := ⟨_, rfl⟩
  rw [← ey]
  have HY : ykIp T h y out := ey
  refine jEm.ent (n := 3) (by decide +kernel) (Nat.le_of_ble_eq_true rfl) ?_
  show jEv xs 1 (81, 0, [(2, Int.ofNat o0), (2, Int.ofNat o1), (3, 0)], []) (T, h) y
  unfold Pe_freeSegment at H
  refine jEv.blk [(.iconst 0, 1, []), (.istore_n 2, 1, [])] (by decide +kernel) (pc' := 2) (ls' := [(2, Int.ofNat o0), (2, Int.ofNat o1), (0, 0)]) (st' := []) rfl ?_
  exact t_Pe_freeSegment_L2 (T := T) (xs := xs) (y := y) hd ho0 ho1 H HY
set_option maxRecDepth 20000 in
noncomputable def Pe_goesTo  (h : jH) (o0 : Nat) (o1 : Nat) (v2 : Int) : Option (Int × jH) := Option.bind (Di_behindRecord h (o1 + 1) (h o0 1) v2) (fun b1 => (if b1 = (-1) then Option.bind (Pe_freeSegment h o0 o1) (fun b3 => (if b3 = (-1) then some (0, h) else Option.bind (Di_behindRecord h (o1 + 1) 5 v2) (fun b5 => (if b5 = (-1) then some (0, h) else some (1, (jup (jup (jup (jup (jup h o0 0 b3) o0 4 (jor ((jup h o0 0 b3) o0 4) (jshl 1 b3))) o0 1 5) o0 3 (wr (((jup (jup (jup h o0 0 b3) o0 4 (jor ((jup h o0 0 b3) o0 4) (jshl 1 b3))) o0 1 5) o0 3) + 1))) o0 2 ((jup (jup (jup (jup h o0 0 b3) o0 4 (jor ((jup h o0 0 b3) o0 4) (jshl 1 b3))) o0 1 5) o0 3 (wr (((jup (jup (jup h o0 0 b3) o0 4 (jor ((jup h o0 0 b3) o0 4) (jshl 1 b3))) o0 1 5) o0 3) + 1))) o0 3))))))) else some (1, h)))
set_option maxRecDepth 20000 in
theorem t_Pe_goesTo {T : jT} {xs : List Int} {h : jH}  {o0 : Nat} {o1 : Nat} {v2 : Int} {out : (Int × jH)} (ho0 : isX5 T o0) (ho1 : isX9 T o1) (H : Pe_goesTo h o0 o1 v2 = some out) : jEm xs 3 80 [(2, Int.ofNat o0), (2, Int.ofNat o1), (0, v2)] (T, h) ((0, out.1), (T, out.2)) := by
  have hd : 2 ≤ 2 := Nat.le_refl _
  obtain ⟨y, ey⟩ : ∃ y : jV × jS, y = ((0, out.1), (T, out.2)) := ⟨_, rfl⟩
  rw [← ey]
  have HY : ykI T y out := ey
  refine jEm.ent (n := 5) (by decide +kernel) (Nat.le_of_ble_eq_true rfl) ?_
  show jEv xs 2 (80, 0, [(2, Int.ofNat o0), (2, Int.ofNat o1), (0, v2), (3, 0), (3, 0)], []) (T, h) y
  unfold Pe_goesTo at H
  refine jEv.blk [(.aload_n 1, 1, [])] (by decide +kernel) (pc' := 1) (ls' := [(2, Int.ofNat o0), (2, Int.ofNat o1), (0, v2), (3, 0), (3, 0)]) (st' := [(2, Int.ofNat o1)]) rfl ?_
  refine jEv.gfR (o' := (o1 + 1)) (show jfI 80 1 (.getfield 47) 3 [9, 1, 5, 0, 2066] = true by decide +kernel) (isX9_L ho1) (by decide) (isX9_r1 ho1) ?_
  refine jEv.blk [(.astore_n 3, 1, []), (.aload_n 3, 1, []), (.aload_n 0, 1, [])] (by decide +kernel) (pc' := 7) (ls' := [(2, Int.ofNat o0), (2, Int.ofNat o1), (0, v2), (2, Int.ofNat (o1 + 1)), (3, 0)]) (st' := [(2, Int.ofNat o0), (2, Int.ofNat (o1 + 1))]) rfl ?_
  refine jEv.gfI (show jfI 80 7 (.getfield 23) 3 [5, 1, 0, 0, 2139] = true by decide +kernel) (isX5_L ho0) (by decide) ?_
  refine jEv.blk [(.iload_n 2, 1, [])] (by decide +kernel) (pc' := 11) (ls' := [(2, Int.ofNat o0), (2, Int.ofNat o1), (0, v2), (2, Int.ofNat (o1 + 1)), (3, 0)]) (st' := [(0, v2), (0, (h o0 1)), (2, Int.ofNat (o1 + 1))]) rfl ?_
  refine jbind H (fun b1 Hb1 H => ?_)
  refine jEv.calV (st' := [(0, b1)]) (show jfI 80 11 (.invokevirtual 51) 3 [1, 5, 2, 5189] = true by decide +kernel) rfl (Or.inl rfl) rfl (Nat.le_of_ble_eq_true rfl) (by decide +kernel) (by decide) (isX0_L (isX9_s1 ho1)) ((t_Di_behindRecord (T := T) (xs := xs) (isX9_s1 ho1) Hb1).mono (jKle 2 hd)) rfl ?_
  refine jEv.blk [(.iconst (-1), 1, [])] (by decide +kernel) (pc' := 15) (ls' := [(2, Int.ofNat o0), (2, Int.ofNat o1), (0, v2), (2, Int.ofNat (o1 + 1)), (3, 0)]) (st' := [(0, (-1)), (0, b1)]) rfl ?_
  refine jEv.ic_eq (t := 20) (show jfI 80 15 (.if_icmp .eq 5) 3 [] = true by decide +kernel) rfl H (fun c2 H => ?_) (fun c2 H => ?_)
  · refine jEv.blk [(.aload_n 0, 1, []), (.aload_n 1, 1, [])] (by decide +kernel) (pc' := 22) (ls' := [(2, Int.ofNat o0), (2, Int.ofNat o1), (0, v2), (2, Int.ofNat (o1 + 1)), (3, 0)]) (st' := [(2, Int.ofNat o1), (2, Int.ofNat o0)]) rfl ?_
    refine jbind H (fun b3 Hb3 H => ?_)
    refine jEv.calV (st' := [(0, b3)]) (show jfI 80 22 (.invokevirtual 92) 3 [1, 81, 1, 5190] = true by decide +kernel) rfl (Or.inl rfl) rfl (Nat.le_of_ble_eq_true rfl) (by decide +kernel) (by decide) (isX5_L ho0) ((t_Pe_freeSegment (T := T) (xs := xs) ho0 ho1 Hb3).mono (jKle 2 hd)) rfl ?_
    refine jEv.blk [(.istore 4, 2, []), (.iload 4, 2, []), (.iconst (-1), 1, [])] (by decide +kernel) (pc' := 30) (ls' := [(2, Int.ofNat o0), (2, Int.ofNat o1), (0, v2), (2, Int.ofNat (o1 + 1)), (0, b3)]) (st' := [(0, (-1)), (0, b3)]) rfl ?_
    refine jEv.ic_eq (t := 43) (show jfI 80 30 (.if_icmp .eq 13) 3 [] = true by decide +kernel) rfl H (fun c4 H => ?_) (fun c4 H => ?_)
    · refine jEv.blk [(.iconst 0, 1, [])] (by decide +kernel) (pc' := 44) (ls' := [(2, Int.ofNat o0), (2, Int.ofNat o1), (0, v2), (2, Int.ofNat (o1 + 1)), (0, b3)]) (st' := [(0, 0)]) rfl ?_
      exact jEv.retZ (show jfI 80 44 (.ireturn) 1 [] = true by decide +kernel) (by decide +kernel) (by decide) (by cases H; exact HY)
    · refine jEv.blk [(.aload_n 3, 1, []), (.iconst 5, 1, []), (.iload_n 2, 1, [])] (by decide +kernel) (pc' := 36) (ls' := [(2, Int.ofNat o0), (2, Int.ofNat o1), (0, v2), (2, Int.ofNat (o1 + 1)), (0, b3)]) (st' := [(0, v2), (0, 5), (2, Int.ofNat (o1 + 1))]) rfl ?_
      refine jbind H (fun b5 Hb5 H => ?_)
      refine jEv.calV (st' := [(0, b5)]) (show jfI 80 36 (.invokevirtual 51) 3 [1, 5, 2, 5189] = true by decide +kernel) rfl (Or.inl rfl) rfl (Nat.le_of_ble_eq_true rfl) (by decide +kernel) (by decide) (isX0_L (isX9_s1 ho1)) ((t_Di_behindRecord (T := T) (xs := xs) (isX9_s1 ho1) Hb5).mono (jKle 2 hd)) rfl ?_
      refine jEv.blk [(.iconst (-1), 1, [])] (by decide +kernel) (pc' := 40) (ls' := [(2, Int.ofNat o0), (2, Int.ofNat o1), (0, v2), (2, Int.ofNat (o1 + 1)), (0, b3)]) (st' := [(0, (-1)), (0, b5)]) rfl ?_
      refine jEv.ic_ne (t := 45) (show jfI 80 40 (.if_icmp .ne 5) 3 [] = true by decide +kernel) rfl H (fun c6 H => ?_) (fun c6 H => ?_)
      · refine jEv.blk [(.iconst 0, 1, [])] (by decide +kernel) (pc' := 44) (ls' := [(2, Int.ofNat o0), (2, Int.ofNat o1), (0, v2), (2, Int.ofNat (o1 + 1)), (0, b3)]) (st' := [(0, 0)]) rfl ?_
        exact jEv.retZ (show jfI 80 44 (.ireturn) 1 [] = true by decide +kernel) (by decide +kernel) (by decide) (by cases H; exact HY)
      · refine jEv.blk [(.aload_n 0, 1, []), (.iload 4, 2, [])] (by decide +kernel) (pc' := 48) (ls' := [(2, Int.ofNat o0), (2, Int.ofNat o1), (0, v2), (2, Int.ofNat (o1 + 1)), (0, b3)]) (st' := [(0, b3), (2, Int.ofNat o0)]) rfl ?_
        refine jEv.pfI (show jfI 80 48 (.putfield 15) 3 [5, 0, 0, 0, 2138] = true by decide +kernel) (isX5_L ho0) (by decide) ?_
        refine jEv.blk [(.aload_n 0, 1, []), (.dup, 1, [])] (by decide +kernel) (pc' := 53) (ls' := [(2, Int.ofNat o0), (2, Int.ofNat o1), (0, v2), (2, Int.ofNat (o1 + 1)), (0, b3)]) (st' := [(2, Int.ofNat o0), (2, Int.ofNat o0)]) rfl ?_
        refine jEv.gfI (show jfI 80 53 (.getfield 36) 3 [5, 4, 0, 0, 2142] = true by decide +kernel) (isX5_L ho0) (by decide) ?_
        refine jEv.blk [(.iconst 1, 1, []), (.iload 4, 2, []), (.ishl, 1, []), (.ior, 1, [])] (by decide +kernel) (pc' := 61) (ls' := [(2, Int.ofNat o0), (2, Int.ofNat o1), (0, v2), (2, Int.ofNat (o1 + 1)), (0, b3)]) (st' := [(0, (jor ((jup h o0 0 b3) o0 4) (jshl 1 b3))), (2, Int.ofNat o0)]) rfl ?_
        refine jEv.pfI (show jfI 80 61 (.putfield 36) 3 [5, 4, 0, 0, 2142] = true by decide +kernel) (isX5_L ho0) (by decide) ?_
        refine jEv.blk [(.aload_n 0, 1, []), (.iconst 5, 1, [])] (by decide +kernel) (pc' := 66) (ls' := [(2, Int.ofNat o0), (2, Int.ofNat o1), (0, v2), (2, Int.ofNat (o1 + 1)), (0, b3)]) (st' := [(0, 5), (2, Int.ofNat o0)]) rfl ?_
        refine jEv.pfI (show jfI 80 66 (.putfield 23) 3 [5, 1, 0, 0, 2139] = true by decide +kernel) (isX5_L ho0) (by decide) ?_
        refine jEv.blk [(.aload_n 0, 1, []), (.dup, 1, [])] (by decide +kernel) (pc' := 71) (ls' := [(2, Int.ofNat o0), (2, Int.ofNat o1), (0, v2), (2, Int.ofNat (o1 + 1)), (0, b3)]) (st' := [(2, Int.ofNat o0), (2, Int.ofNat o0)]) rfl ?_
        refine jEv.gfI (show jfI 80 71 (.getfield 35) 3 [5, 3, 0, 0, 2141] = true by decide +kernel) (isX5_L ho0) (by decide) ?_
        refine jEv.blk [(.iconst 1, 1, []), (.iadd, 1, [])] (by decide +kernel) (pc' := 76) (ls' := [(2, Int.ofNat o0), (2, Int.ofNat o1), (0, v2), (2, Int.ofNat (o1 + 1)), (0, b3)]) (st' := [(0, (wr (((jup (jup (jup h o0 0 b3) o0 4 (jor ((jup h o0 0 b3) o0 4) (jshl 1 b3))) o0 1 5) o0 3) + 1))), (2, Int.ofNat o0)]) rfl ?_
        refine jEv.pfI (show jfI 80 76 (.putfield 35) 3 [5, 3, 0, 0, 2141] = true by decide +kernel) (isX5_L ho0) (by decide) ?_
        refine jEv.blk [(.aload_n 0, 1, []), (.aload_n 0, 1, [])] (by decide +kernel) (pc' := 81) (ls' := [(2, Int.ofNat o0), (2, Int.ofNat o1), (0, v2), (2, Int.ofNat (o1 + 1)), (0, b3)]) (st' := [(2, Int.ofNat o0), (2, Int.ofNat o0)]) rfl ?_
        refine jEv.gfI (show jfI 80 81 (.getfield 35) 3 [5, 3, 0, 0, 2141] = true by decide +kernel) (isX5_L ho0) (by decide) ?_
        refine jEv.pfI (show jfI 80 84 (.putfield 29) 3 [5, 2, 0, 0, 2140] = true by decide +kernel) (isX5_L ho0) (by decide) ?_
        refine jEv.blk [(.iconst 1, 1, [])] (by decide +kernel) (pc' := 88) (ls' := [(2, Int.ofNat o0), (2, Int.ofNat o1), (0, v2), (2, Int.ofNat (o1 + 1)), (0, b3)]) (st' := [(0, 1)]) rfl ?_
        exact jEv.retZ (show jfI 80 88 (.ireturn) 1 [] = true by decide +kernel) (by decide +kernel) (by decide) (by cases H; exact HY)
  · refine jEv.blk [(.iconst 1, 1, [])] (by decide +kernel) (pc' := 19) (ls' := [(2, Int.ofNat o0), (2, Int.ofNat o1), (0, v2), (2, Int.ofNat (o1 + 1)), (3, 0)]) (st' := [(0, 1)]) rfl ?_
    exact jEv.retZ (show jfI 80 19 (.ireturn) 1 [] = true by decide +kernel) (by decide +kernel) (by decide) (by cases H; exact HY)
set_option maxRecDepth 20000 in
noncomputable def Qu_payloadAt  (h : jH) (o0 : Nat) (v1 : Int) : Option Int := Option.bind (G_cell h (o0 + 3) 32 v1) (fun b1 => some (wr (3 + b1)))
set_option maxRecDepth 20000 in
theorem t_Qu_payloadAt {T : jT} {xs : List Int} {h : jH}  {o0 : Nat} {v1 : Int} {out : Int} (ho0 : isX7 T o0) (H : Qu_payloadAt h o0 v1 = some out) : jEm xs 2 99 [(2, Int.ofNat o0), (0, v1)] (T, h) ((0, out), (T, h)) := by
  have hd : 1 ≤ 1 := Nat.le_refl _
  obtain ⟨y, ey⟩ : ∃ y : jV × jS, y = ((0, out), (T, h)) := ⟨_, rfl⟩
  rw [← ey]
  have HY : ykIp T h y out := ey
  refine jEm.ent (n := 2) (by decide +kernel) (Nat.le_of_ble_eq_true rfl) ?_
  show jEv xs 1 (99, 0, [(2, Int.ofNat o0), (0, v1)], []) (T, h) y
  unfold Qu_payloadAt at H
  refine jEv.blk [(.iconst 3, 1, []), (.aload_n 0, 1, [])] (by decide +kernel) (pc' := 2) (ls' := [(2, Int.ofNat o0), (0, v1)]) (st' := [(2, Int.ofNat o0), (0, 3)]) rfl ?_
  refine jEv.gfR (o' := (o0 + 3)) (show jfI 99 2 (.getfield 18) 3 [7, 2, 5, 0, 2003] = true by decide +kernel) (isX7_L ho0) (by decide) (isX7_r2 ho0) ?_
  refine jEv.blk [(.iload_n 1, 1, [])] (by decide +kernel) (pc' := 6) (ls' := [(2, Int.ofNat o0), (0, v1)]) (st' := [(0, v1), (2, Int.ofNat (o0 + 3)), (0, 3)]) rfl ?_
  refine jbind H (fun b1 Hb1 H => ?_)
  refine jEv.calS (st' := [(0, b1), (0, 3)]) (show jfI 99 6 (.invokestatic 42) 3 [4, 137, 2, 5020] = true by decide +kernel) rfl (Or.inr rfl) rfl (Nat.le_of_ble_eq_true rfl) ((t_G_cell (T := T) (xs := xs) (isX7_a2 ho0) Hb1).mono (jKle 1 hd)) rfl ?_
  refine jEv.blk [(.iadd, 1, [])] (by decide +kernel) (pc' := 10) (ls' := [(2, Int.ofNat o0), (0, v1)]) (st' := [(0, (wr (3 + b1)))]) rfl ?_
  exact jEv.retI (show jfI 99 10 (.ireturn) 1 [] = true by decide +kernel) (by decide +kernel) (by cases H; exact HY)
def yk_Pe_hasRoom_L7 (T : jT) (xs : List Int) (d : Nat) (y : jV × jS)  (o0 : Nat) (o1 : Nat) (v2 : Int) : ((Int × jH) ⊕ (Int × jH)) → Prop
  | .inl (v3, h) => jEv xs d (78, 7, [(2, Int.ofNat o0), (2, Int.ofNat o1), (0, v2), (0, v3), (3, 0)], []) (T, h) y
  | .inr o => ykI T y o
set_option maxRecDepth 20000 in
noncomputable def Pe_hasRoom_B7  (h : jH) (o0 : Nat) (o1 : Nat) (v2 : Int) (v3 : Int) : Option ((Int × jH) ⊕ (Int × jH)) := (if v3 < v2 then Option.bind (Qu_payloadAt h (o1 + 7) (wr ((h (o1 + 7) 5) + v3))) (fun b3 => Option.bind (Pe_goesTo h o0 o1 b3) (fun b4 => (if b4.1 = 0 then Option.map Sum.inr (some (0, b4.2)) else Option.bind (Di_behindRecord b4.2 (o1 + 1) (b4.2 o0 1) b3) (fun b6 => some (.inl ((wr (v3 + 1)), (jup b4.2 o0 1 b6))))))) else Option.map Sum.inr (some (1, h)))
noncomputable def Pe_hasRoom_L7  (h : jH) (o0 : Nat) (o1 : Nat) (v2 : Int) (v3 : Int) : Option (Int × jH) := jloop (fun s : (Int × jH) => Pe_hasRoom_B7 s.2 o0 o1 v2 s.1) (v3, h)
set_option maxRecDepth 20000 in
theorem t_Pe_hasRoom_B7 {T : jT} {xs : List Int} {d : Nat} {y : jV × jS} (hd : 3 ≤ d) {h : jH}  {o0 : Nat} {o1 : Nat} {v2 : Int} {v3 : Int} {out : ((Int × jH) ⊕ (Int × jH))} (ho0 : isX5 T o0) (ho1 : isX9 T o1) (H : Pe_hasRoom_B7 h o0 o1 v2 v3 = some out) (HY : yk_Pe_hasRoom_L7 T xs d y o0 o1 v2 out) : jEv xs d (78, 7, [(2, Int.ofNat o0), (2, Int.ofNat o1), (0, v2), (0, v3), (3, 0)], []) (T, h) y := by
  unfold Pe_hasRoom_B7 at H
  refine jEv.blk [(.iload_n 3, 1, []), (.iload_n 2, 1, [])] (by decide +kernel) (pc' := 9) (ls' := [(2, Int.ofNat o0), (2, Int.ofNat o1), (0, v2), (0, v3), (3, 0)]) (st' := [(0, v2), (0, v3)]) rfl ?_
  refine jEv.ic_ge (t := 65) (show jfI 78 9 (.if_icmp .ge 56) 3 [] = true by decide +kernel) rfl H (fun c2 H => ?_) (fun c2 H => ?_)
  · refine jEv.blk [(.aload_n 1, 1, [])] (by decide +kernel) (pc' := 13) (ls' := [(2, Int.ofNat o0), (2, Int.ofNat o1), (0, v2), (0, v3), (3, 0)]) (st' := [(2, Int.ofNat o1)]) rfl ?_
    refine jEv.gfR (o' := (o1 + 7)) (show jfI 78 13 (.getfield 57) 3 [9, 3, 5, 0, 2072] = true by decide +kernel) (isX9_L ho1) (by decide) (isX9_r3 ho1) ?_
    refine jEv.blk [(.aload_n 1, 1, [])] (by decide +kernel) (pc' := 17) (ls' := [(2, Int.ofNat o0), (2, Int.ofNat o1), (0, v2), (0, v3), (3, 0)]) (st' := [(2, Int.ofNat o1), (2, Int.ofNat (o1 + 7))]) rfl ?_
    refine jEv.gfR (o' := (o1 + 7)) (show jfI 78 17 (.getfield 57) 3 [9, 3, 5, 0, 2072] = true by decide +kernel) (isX9_L ho1) (by decide) (isX9_r3 ho1) ?_
    refine jEv.gfI (show jfI 78 20 (.getfield 61) 3 [7, 5, 0, 0, 2011] = true by decide +kernel) (isX7_L (isX9_s3 ho1)) (by decide) ?_
    refine jEv.blk [(.iload_n 3, 1, []), (.iadd, 1, [])] (by decide +kernel) (pc' := 25) (ls' := [(2, Int.ofNat o0), (2, Int.ofNat o1), (0, v2), (0, v3), (3, 0)]) (st' := [(0, (wr ((h (o1 + 7) 5) + v3))), (2, Int.ofNat (o1 + 7))]) rfl ?_
    refine jbind H (fun b3 Hb3 H => ?_)
    refine jEv.calV (st' := [(0, b3)]) (show jfI 78 25 (.invokevirtual 66) 3 [1, 99, 1, 5184] = true by decide +kernel) rfl (Or.inl rfl) rfl (Nat.le_of_ble_eq_true rfl) (by decide +kernel) (by decide) (isX7_L (isX9_s3 ho1)) ((t_Qu_payloadAt (T := T) (xs := xs) (isX9_s3 ho1) Hb3).mono (jKle 2 hd)) rfl ?_
    refine jEv.blk [(.istore 4, 2, []), (.aload_n 0, 1, []), (.aload_n 1, 1, []), (.iload 4, 2, [])] (by decide +kernel) (pc' := 34) (ls' := [(2, Int.ofNat o0), (2, Int.ofNat o1), (0, v2), (0, v3), (0, b3)]) (st' := [(0, b3), (2, Int.ofNat o1), (2, Int.ofNat o0)]) rfl ?_
    refine jbind H (fun b4 Hb4 H => ?_)
    refine jEv.calV (st' := [(0, b4.1)]) (show jfI 78 34 (.invokevirtual 43) 3 [1, 80, 2, 5185] = true by decide +kernel) rfl (Or.inl rfl) rfl (Nat.le_of_ble_eq_true rfl) (by decide +kernel) (by decide) (isX5_L ho0) ((t_Pe_goesTo (T := T) (xs := xs) ho0 ho1 Hb4).mono (jKle 3 hd)) rfl ?_
    refine jEv.if_ne (t := 42) (show jfI 78 37 (.ifCond .ne 5) 3 [] = true by decide +kernel) rfl H (fun c5 H => ?_) (fun c5 H => ?_)
    · refine jmapr H HY (fun out H (HY : ykI T y out) => ?_)
      refine jEv.blk [(.iconst 0, 1, [])] (by decide +kernel) (pc' := 41) (ls' := [(2, Int.ofNat o0), (2, Int.ofNat o1), (0, v2), (0, v3), (0, b3)]) (st' := [(0, 0)]) rfl ?_
      exact jEv.retZ (show jfI 78 41 (.ireturn) 1 [] = true by decide +kernel) (by decide +kernel) (by decide) (by cases H; exact HY)
    · refine jEv.blk [(.aload_n 0, 1, []), (.aload_n 1, 1, [])] (by decide +kernel) (pc' := 44) (ls' := [(2, Int.ofNat o0), (2, Int.ofNat o1), (0, v2), (0, v3), (0, b3)]) (st' := [(2, Int.ofNat o1), (2, Int.ofNat o0)]) rfl ?_
      refine jEv.gfR (o' := (o1 + 1)) (show jfI 78 44 (.getfield 47) 3 [9, 1, 5, 0, 2066] = true by decide +kernel) (isX9_L ho1) (by decide) (isX9_r1 ho1) ?_
      refine jEv.blk [(.aload_n 0, 1, [])] (by decide +kernel) (pc' := 48) (ls' := [(2, Int.ofNat o0), (2, Int.ofNat o1), (0, v2), (0, v3), (0, b3)]) (st' := [(2, Int.ofNat o0), (2, Int.ofNat (o1 + 1)), (2, Int.ofNat o0)]) rfl ?_
      refine jEv.gfI (show jfI 78 48 (.getfield 23) 3 [5, 1, 0, 0, 2139] = true by decide +kernel) (isX5_L ho0) (by decide) ?_
      refine jEv.blk [(.iload 4, 2, [])] (by decide +kernel) (pc' := 53) (ls' := [(2, Int.ofNat o0), (2, Int.ofNat o1), (0, v2), (0, v3), (0, b3)]) (st' := [(0, b3), (0, (b4.2 o0 1)), (2, Int.ofNat (o1 + 1)), (2, Int.ofNat o0)]) rfl ?_
      refine jbind H (fun b6 Hb6 H => ?_)
      refine jEv.calV (st' := [(0, b6), (2, Int.ofNat o0)]) (show jfI 78 53 (.invokevirtual 51) 3 [1, 5, 2, 5189] = true by decide +kernel) rfl (Or.inl rfl) rfl (Nat.le_of_ble_eq_true rfl) (by decide +kernel) (by decide) (isX0_L (isX9_s1 ho1)) ((t_Di_behindRecord (T := T) (xs := xs) (isX9_s1 ho1) Hb6).mono (jKle 2 hd)) rfl ?_
      refine jEv.pfI (show jfI 78 56 (.putfield 23) 3 [5, 1, 0, 0, 2139] = true by decide +kernel) (isX5_L ho0) (by decide) ?_
      refine jEv.blk [(.iinc 3 1, 3, [])] (by decide +kernel) (pc' := 62) (ls' := [(2, Int.ofNat o0), (2, Int.ofNat o1), (0, v2), (0, (wr (v3 + 1))), (0, b3)]) (st' := []) rfl ?_
      refine jEv.goto (t := 7) (show jfI 78 62 (.goto (-55)) 3 [] = true by decide +kernel) rfl ?_
      exact jEv.weak (a := [(2, Int.ofNat o0), (2, Int.ofNat o1), (0, v2), (0, (wr (v3 + 1))), (3, 0)]) (jles.c1 (jles.c1 (jles.c1 (jles.c1 (jles.c0 jles.nl))))) ((by cases H; exact HY))
  · refine jmapr H HY (fun out H (HY : ykI T y out) => ?_)
    refine jEv.blk [(.iconst 1, 1, [])] (by decide +kernel) (pc' := 66) (ls' := [(2, Int.ofNat o0), (2, Int.ofNat o1), (0, v2), (0, v3), (3, 0)]) (st' := [(0, 1)]) rfl ?_
    exact jEv.retZ (show jfI 78 66 (.ireturn) 1 [] = true by decide +kernel) (by decide +kernel) (by decide) (by cases H; exact HY)
theorem t_Pe_hasRoom_L7 {T : jT} {xs : List Int} {d : Nat} {y : jV × jS} (hd : 3 ≤ d) {h : jH}  {o0 : Nat} {o1 : Nat} {v2 : Int} {v3 : Int} {out : (Int × jH)} (ho0 : isX5 T o0) (ho1 : isX9 T o1) (H : Pe_hasRoom_L7 h o0 o1 v2 v3 = some out) (HY : ykI T y out) : jEv xs d (78, 7, [(2, Int.ofNat o0), (2, Int.ofNat o1), (0, v2), (0, v3), (3, 0)], []) (T, h) y :=
  jloop_sound (G := fun s : (Int × jH) => jEv xs d (78, 7, [(2, Int.ofNat o0), (2, Int.ofNat o1), (0, v2), (0, s.1), (3, 0)], []) (T, s.2) y) (K := yk_Pe_hasRoom_L7 T xs d y o0 o1 v2) (fun s out H HY => t_Pe_hasRoom_B7 hd ho0 ho1 H HY) (fun s' hg => hg) (s := (v3, h)) H HY
set_option maxRecDepth 20000 in
noncomputable def Pe_hasRoom  (h : jH) (o0 : Nat) (o1 : Nat) (v2 : Int) : Option (Int × jH) := Option.bind (Pe_start h o0 o1) (fun b1 => Pe_hasRoom_L7 b1 o0 o1 v2 0)
set_option maxRecDepth 20000 in
theorem t_Pe_hasRoom {T : jT} {xs : List Int} {h : jH}  {o0 : Nat} {o1 : Nat} {v2 : Int} {out : (Int × jH)} (ho0 : isX5 T o0) (ho1 : isX9 T o1) (H : Pe_hasRoom h o0 o1 v2 = some out) : jEm xs 4 78 [(2, Int.ofNat o0), (2, Int.ofNat o1), (0, v2)] (T, h) ((0, out.1), (T, out.2)) := by
  have hd : 3 ≤ 3 := Nat.le_refl _
  obtain ⟨y, ey⟩ : ∃ y : jV × jS, y = ((0, out.1), (T, out.2)) := ⟨_, rfl⟩
  rw [← ey]
  have HY : ykI T y out := ey
  refine jEm.ent (n := 5) (by decide +kernel) (Nat.le_of_ble_eq_true rfl) ?_
  show jEv xs 3 (78, 0, [(2, Int.ofNat o0), (2, Int.ofNat o1), (0, v2), (3, 0), (3, 0)], []) (T, h) y
  unfold Pe_hasRoom at H
  refine jEv.blk [(.aload_n 0, 1, []), (.aload_n 1, 1, [])] (by decide +kernel) (pc' := 2) (ls' := [(2, Int.ofNat o0), (2, Int.ofNat o1), (0, v2), (3, 0), (3, 0)]) (st' := [(2, Int.ofNat o1), (2, Int.ofNat o0)]) rfl ?_
  refine jbind H (fun b1 Hb1 H => ?_)
  refine jEv.calV (st' := []) (show jfI 78 2 (.invokevirtual 39) 3 [1, 79, 1, 5180] = true by decide +kernel) rfl (Or.inl rfl) rfl (Nat.le_of_ble_eq_true rfl) (by decide +kernel) (by decide) (isX5_L ho0) ((t_Pe_start (T := T) (xs := xs) ho0 ho1 Hb1).mono (jKle 1 hd)) rfl ?_
  refine jEv.blk [(.iconst 0, 1, []), (.istore_n 3, 1, [])] (by decide +kernel) (pc' := 7) (ls' := [(2, Int.ofNat o0), (2, Int.ofNat o1), (0, v2), (0, 0), (3, 0)]) (st' := []) rfl ?_
  exact t_Pe_hasRoom_L7 (T := T) (xs := xs) (y := y) hd ho0 ho1 H HY
set_option maxRecDepth 20000 in
noncomputable def Pe_writeHead  (h : jH) (o0 : Nat) (o1 : Nat) (v2 : Int) : Option jH := Option.bind (Fl_add h (o1 + 4) (wr ((h o0 0) * (h (o1 + 1) 3))) (jand (jshr (h o0 2) 8) 255)) (fun b1 => Option.bind (Fl_add b1 (o1 + 4) (wr ((wr ((h o0 0) * (h (o1 + 1) 3))) + 1)) (jand (b1 o0 2) 255)) (fun b2 => Option.bind (Fl_add b2 (o1 + 4) (wr ((wr ((h o0 0) * (h (o1 + 1) 3))) + 2)) (jand (jshr v2 8) 255)) (fun b3 => Option.bind (Fl_add b3 (o1 + 4) (wr ((wr ((h o0 0) * (h (o1 + 1) 3))) + 3)) (jand v2 255)) (fun b4 => Option.bind (G_checkOf b4 7 (o1 + 6) 512 (h (o1 + 4) 2) (b4 (o1 + 4) 2)) (fun b5 => Option.bind (Fl_add b4 (o1 + 4) (wr ((wr ((h o0 0) * (h (o1 + 1) 3))) + 4)) b5) (fun b6 => some b6))))))
set_option maxRecDepth 20000 in
theorem t_Pe_writeHead {T : jT} {xs : List Int} {h : jH}  {o0 : Nat} {o1 : Nat} {v2 : Int} {out : jH} (ho0 : isX5 T o0) (ho1 : isX9 T o1) (H : Pe_writeHead h o0 o1 v2 = some out) : jEm xs 2 83 [(2, Int.ofNat o0), (2, Int.ofNat o1), (0, v2)] (T, h) ((3, 0), (T, out)) := by
  have hd : 1 ≤ 1 := Nat.le_refl _
  obtain ⟨y, ey⟩ : ∃ y : jV × jS, y = ((3, 0), (T, out)) := ⟨_, rfl⟩
  rw [← ey]
  have HY : ykV T y out := ey
  refine jEm.ent (n := 6) (by decide +kernel) (Nat.le_of_ble_eq_true rfl) ?_
  show jEv xs 1 (83, 0, [(2, Int.ofNat o0), (2, Int.ofNat o1), (0, v2), (3, 0), (3, 0), (3, 0)], []) (T, h) y
  unfold Pe_writeHead at H
  refine jEv.blk [(.aload_n 1, 1, [])] (by decide +kernel) (pc' := 1) (ls' := [(2, Int.ofNat o0), (2, Int.ofNat o1), (0, v2), (3, 0), (3, 0), (3, 0)]) (st' := [(2, Int.ofNat o1)]) rfl ?_
  refine jEv.gfR (o' := (o1 + 4)) (show jfI 83 1 (.getfield 103) 3 [9, 2, 5, 0, 2070] = true by decide +kernel) (isX9_L ho1) (by decide) (isX9_r2 ho1) ?_
  refine jEv.blk [(.astore_n 3, 1, []), (.aload_n 0, 1, [])] (by decide +kernel) (pc' := 6) (ls' := [(2, Int.ofNat o0), (2, Int.ofNat o1), (0, v2), (2, Int.ofNat (o1 + 4)), (3, 0), (3, 0)]) (st' := [(2, Int.ofNat o0)]) rfl ?_
  refine jEv.gfI (show jfI 83 6 (.getfield 15) 3 [5, 0, 0, 0, 2138] = true by decide +kernel) (isX5_L ho0) (by decide) ?_
  refine jEv.blk [(.aload_n 1, 1, [])] (by decide +kernel) (pc' := 10) (ls' := [(2, Int.ofNat o0), (2, Int.ofNat o1), (0, v2), (2, Int.ofNat (o1 + 4)), (3, 0), (3, 0)]) (st' := [(2, Int.ofNat o1), (0, (h o0 0))]) rfl ?_
  refine jEv.gfR (o' := (o1 + 1)) (show jfI 83 10 (.getfield 47) 3 [9, 1, 5, 0, 2066] = true by decide +kernel) (isX9_L ho1) (by decide) (isX9_r1 ho1) ?_
  refine jEv.gfI (show jfI 83 13 (.getfield 107) 3 [0, 3, 0, 0, 1191] = true by decide +kernel) (isX0_L (isX9_s1 ho1)) (by decide) ?_
  refine jEv.blk [(.imul, 1, []), (.istore 4, 2, []), (.aload_n 3, 1, [])] (by decide +kernel) (pc' := 20) (ls' := [(2, Int.ofNat o0), (2, Int.ofNat o1), (0, v2), (2, Int.ofNat (o1 + 4)), (0, (wr ((h o0 0) * (h (o1 + 1) 3)))), (3, 0)]) (st' := [(2, Int.ofNat (o1 + 4))]) rfl ?_
  refine jEv.gfI (show jfI 83 20 (.getfield 110) 3 [1, 2, 0, 0, 1216] = true by decide +kernel) (isX1_L (isX9_s2 ho1)) (by decide) ?_
  refine jEv.blk [(.istore 5, 2, []), (.aload_n 3, 1, []), (.iload 4, 2, []), (.aload_n 0, 1, [])] (by decide +kernel) (pc' := 29) (ls' := [(2, Int.ofNat o0), (2, Int.ofNat o1), (0, v2), (2, Int.ofNat (o1 + 4)), (0, (wr ((h o0 0) * (h (o1 + 1) 3)))), (0, (h (o1 + 4) 2))]) (st' := [(2, Int.ofNat o0), (0, (wr ((h o0 0) * (h (o1 + 1) 3)))), (2, Int.ofNat (o1 + 4))]) rfl ?_
  refine jEv.gfI (show jfI 83 29 (.getfield 29) 3 [5, 2, 0, 0, 2140] = true by decide +kernel) (isX5_L ho0) (by decide) ?_
  refine jEv.blk [(.bipush 8, 2, []), (.ishr, 1, []), (.sipush 255, 3, []), (.iand, 1, [])] (by decide +kernel) (pc' := 39) (ls' := [(2, Int.ofNat o0), (2, Int.ofNat o1), (0, v2), (2, Int.ofNat (o1 + 4)), (0, (wr ((h o0 0) * (h (o1 + 1) 3)))), (0, (h (o1 + 4) 2))]) (st' := [(0, (jand (jshr (h o0 2) 8) 255)), (0, (wr ((h o0 0) * (h (o1 + 1) 3)))), (2, Int.ofNat (o1 + 4))]) rfl ?_
  refine jbind H (fun b1 Hb1 H => ?_)
  refine jEv.calV (st' := []) (show jfI 83 39 (.invokevirtual 115) 3 [1, 25, 2, 5203] = true by decide +kernel) rfl (Or.inl rfl) rfl (Nat.le_of_ble_eq_true rfl) (by decide +kernel) (by decide) (isX1_L (isX9_s2 ho1)) ((t_Fl_add (T := T) (xs := xs) (isX9_s2 ho1) Hb1).mono (jKle 1 hd)) rfl ?_
  refine jEv.blk [(.aload_n 3, 1, []), (.iload 4, 2, []), (.iconst 1, 1, []), (.iadd, 1, []), (.aload_n 0, 1, [])] (by decide +kernel) (pc' := 48) (ls' := [(2, Int.ofNat o0), (2, Int.ofNat o1), (0, v2), (2, Int.ofNat (o1 + 4)), (0, (wr ((h o0 0) * (h (o1 + 1) 3)))), (0, (h (o1 + 4) 2))]) (st' := [(2, Int.ofNat o0), (0, (wr ((wr ((h o0 0) * (h (o1 + 1) 3))) + 1))), (2, Int.ofNat (o1 + 4))]) rfl ?_
  refine jEv.gfI (show jfI 83 48 (.getfield 29) 3 [5, 2, 0, 0, 2140] = true by decide +kernel) (isX5_L ho0) (by decide) ?_
  refine jEv.blk [(.sipush 255, 3, []), (.iand, 1, [])] (by decide +kernel) (pc' := 55) (ls' := [(2, Int.ofNat o0), (2, Int.ofNat o1), (0, v2), (2, Int.ofNat (o1 + 4)), (0, (wr ((h o0 0) * (h (o1 + 1) 3)))), (0, (h (o1 + 4) 2))]) (st' := [(0, (jand (b1 o0 2) 255)), (0, (wr ((wr ((h o0 0) * (h (o1 + 1) 3))) + 1))), (2, Int.ofNat (o1 + 4))]) rfl ?_
  refine jbind H (fun b2 Hb2 H => ?_)
  refine jEv.calV (st' := []) (show jfI 83 55 (.invokevirtual 115) 3 [1, 25, 2, 5203] = true by decide +kernel) rfl (Or.inl rfl) rfl (Nat.le_of_ble_eq_true rfl) (by decide +kernel) (by decide) (isX1_L (isX9_s2 ho1)) ((t_Fl_add (T := T) (xs := xs) (isX9_s2 ho1) Hb2).mono (jKle 1 hd)) rfl ?_
  refine jEv.blk [(.aload_n 3, 1, []), (.iload 4, 2, []), (.iconst 2, 1, []), (.iadd, 1, []), (.iload_n 2, 1, []), (.bipush 8, 2, []), (.ishr, 1, []), (.sipush 255, 3, []), (.iand, 1, [])] (by decide +kernel) (pc' := 71) (ls' := [(2, Int.ofNat o0), (2, Int.ofNat o1), (0, v2), (2, Int.ofNat (o1 + 4)), (0, (wr ((h o0 0) * (h (o1 + 1) 3)))), (0, (h (o1 + 4) 2))]) (st' := [(0, (jand (jshr v2 8) 255)), (0, (wr ((wr ((h o0 0) * (h (o1 + 1) 3))) + 2))), (2, Int.ofNat (o1 + 4))]) rfl ?_
  refine jbind H (fun b3 Hb3 H => ?_)
  refine jEv.calV (st' := []) (show jfI 83 71 (.invokevirtual 115) 3 [1, 25, 2, 5203] = true by decide +kernel) rfl (Or.inl rfl) rfl (Nat.le_of_ble_eq_true rfl) (by decide +kernel) (by decide) (isX1_L (isX9_s2 ho1)) ((t_Fl_add (T := T) (xs := xs) (isX9_s2 ho1) Hb3).mono (jKle 1 hd)) rfl ?_
  refine jEv.blk [(.aload_n 3, 1, []), (.iload 4, 2, []), (.iconst 3, 1, []), (.iadd, 1, []), (.iload_n 2, 1, []), (.sipush 255, 3, []), (.iand, 1, [])] (by decide +kernel) (pc' := 84) (ls' := [(2, Int.ofNat o0), (2, Int.ofNat o1), (0, v2), (2, Int.ofNat (o1 + 4)), (0, (wr ((h o0 0) * (h (o1 + 1) 3)))), (0, (h (o1 + 4) 2))]) (st' := [(0, (jand v2 255)), (0, (wr ((wr ((h o0 0) * (h (o1 + 1) 3))) + 3))), (2, Int.ofNat (o1 + 4))]) rfl ?_
  refine jbind H (fun b4 Hb4 H => ?_)
  refine jEv.calV (st' := []) (show jfI 83 84 (.invokevirtual 115) 3 [1, 25, 2, 5203] = true by decide +kernel) rfl (Or.inl rfl) rfl (Nat.le_of_ble_eq_true rfl) (by decide +kernel) (by decide) (isX1_L (isX9_s2 ho1)) ((t_Fl_add (T := T) (xs := xs) (isX9_s2 ho1) Hb4).mono (jKle 1 hd)) rfl ?_
  refine jEv.blk [(.aload_n 3, 1, []), (.iload 4, 2, []), (.iconst 4, 1, []), (.iadd, 1, []), (.bipush 7, 2, []), (.aload_n 3, 1, [])] (by decide +kernel) (pc' := 95) (ls' := [(2, Int.ofNat o0), (2, Int.ofNat o1), (0, v2), (2, Int.ofNat (o1 + 4)), (0, (wr ((h o0 0) * (h (o1 + 1) 3)))), (0, (h (o1 + 4) 2))]) (st' := [(2, Int.ofNat (o1 + 4)), (0, 7), (0, (wr ((wr ((h o0 0) * (h (o1 + 1) 3))) + 4))), (2, Int.ofNat (o1 + 4))]) rfl ?_
  refine jEv.gfR (o' := (o1 + 6)) (show jfI 83 95 (.getfield 119) 3 [1, 1, 5, 0, 1212] = true by decide +kernel) (isX1_L (isX9_s2 ho1)) (by decide) (isX1_r1 (isX9_s2 ho1)) ?_
  refine jEv.blk [(.iload 5, 2, []), (.aload_n 3, 1, [])] (by decide +kernel) (pc' := 101) (ls' := [(2, Int.ofNat o0), (2, Int.ofNat o1), (0, v2), (2, Int.ofNat (o1 + 4)), (0, (wr ((h o0 0) * (h (o1 + 1) 3)))), (0, (h (o1 + 4) 2))]) (st' := [(2, Int.ofNat (o1 + 4)), (0, (h (o1 + 4) 2)), (2, Int.ofNat (o1 + 6)), (0, 7), (0, (wr ((wr ((h o0 0) * (h (o1 + 1) 3))) + 4))), (2, Int.ofNat (o1 + 4))]) rfl ?_
  refine jEv.gfI (show jfI 83 101 (.getfield 110) 3 [1, 2, 0, 0, 1216] = true by decide +kernel) (isX1_L (isX9_s2 ho1)) (by decide) ?_
  refine jbind H (fun b5 Hb5 H => ?_)
  refine jEv.calS (st' := [(0, b5), (0, (wr ((wr ((h o0 0) * (h (o1 + 1) 3))) + 4))), (2, Int.ofNat (o1 + 4))]) (show jfI 83 104 (.invokestatic 122) 3 [4, 145, 4, 5207] = true by decide +kernel) rfl (Or.inr rfl) rfl (Nat.le_of_ble_eq_true rfl) ((t_G_checkOf (T := T) (xs := xs) (isX1_a1 (isX9_s2 ho1)) Hb5).mono (jKle 1 hd)) rfl ?_
  refine jbind H (fun b6 Hb6 H => ?_)
  refine jEv.calV (st' := []) (show jfI 83 107 (.invokevirtual 115) 3 [1, 25, 2, 5203] = true by decide +kernel) rfl (Or.inl rfl) rfl (Nat.le_of_ble_eq_true rfl) (by decide +kernel) (by decide) (isX1_L (isX9_s2 ho1)) ((t_Fl_add (T := T) (xs := xs) (isX9_s2 ho1) Hb6).mono (jKle 1 hd)) rfl ?_
  exact jEv.retV (show jfI 83 110 (.return_) 1 [] = true by decide +kernel) (by decide +kernel) (by cases H; exact HY)
set_option maxRecDepth 20000 in
noncomputable def G_payloadOctet  (v0 : Int) (v1 : Int) (v2 : Int) : Option Int := (if v2 = 0 then some v0 else (if v2 = 1 then some (jshr v1 8) else (if v2 = 2 then some (jand v1 255) else some (jand (wr (v1 + (wr (7 * (wr (v2 - 3)))))) 255))))
set_option maxRecDepth 20000 in
theorem t_G_payloadOctet {T : jT} {xs : List Int} {h : jH}  {v0 : Int} {v1 : Int} {v2 : Int} {out : Int}  (H : G_payloadOctet v0 v1 v2 = some out) : jEm xs 1 160 [(0, v0), (0, v1), (0, v2)] (T, h) ((0, out), (T, h)) := by
  have hd : 0 ≤ 0 := Nat.le_refl _
  obtain ⟨y, ey⟩ : ∃ y : jV × jS, y = ((0, out), (T, h)) := ⟨_, rfl⟩
  rw [← ey]
  have HY : ykIp T h y out := ey
  refine jEm.ent (n := 3) (by decide +kernel) (Nat.le_of_ble_eq_true rfl) ?_
  show jEv xs 0 (160, 0, [(0, v0), (0, v1), (0, v2)], []) (T, h) y
  unfold G_payloadOctet at H
  refine jEv.blk [(.iload_n 2, 1, [])] (by decide +kernel) (pc' := 1) (ls' := [(0, v0), (0, v1), (0, v2)]) (st' := [(0, v2)]) rfl ?_
  refine jite H (fun c1 H => ?_) (fun c1 H => ?_)
  · refine jEv.tsI (v := 0) (off := 27) (t := 28) (show jfI 160 1 (.tableswitch 40 0 2 #[27, 29, 34]) 27 [] = true by decide +kernel) c1 (by decide) (by decide) rfl (by decide) ?_
    refine jEv.blk [(.iload_n 0, 1, [])] (by decide +kernel) (pc' := 29) (ls' := [(0, v0), (0, v1), (0, v2)]) (st' := [(0, v0)]) rfl ?_
    exact jEv.retI (show jfI 160 29 (.ireturn) 1 [] = true by decide +kernel) (by decide +kernel) (by cases H; exact HY)
  · refine jite H (fun c2 H => ?_) (fun c2 H => ?_)
    · refine jEv.tsI (v := 1) (off := 29) (t := 30) (show jfI 160 1 (.tableswitch 40 0 2 #[27, 29, 34]) 27 [] = true by decide +kernel) c2 (by decide) (by decide) rfl (by decide) ?_
      refine jEv.blk [(.iload_n 1, 1, []), (.bipush 8, 2, []), (.ishr, 1, [])] (by decide +kernel) (pc' := 34) (ls' := [(0, v0), (0, v1), (0, v2)]) (st' := [(0, (jshr v1 8))]) rfl ?_
      exact jEv.retI (show jfI 160 34 (.ireturn) 1 [] = true by decide +kernel) (by decide +kernel) (by cases H; exact HY)
    · refine jite H (fun c3 H => ?_) (fun c3 H => ?_)
      · refine jEv.tsI (v := 2) (off := 34) (t := 35) (show jfI 160 1 (.tableswitch 40 0 2 #[27, 29, 34]) 27 [] = true by decide +kernel) c3 (by decide) (by decide) rfl (by decide) ?_
        refine jEv.blk [(.iload_n 1, 1, []), (.sipush 255, 3, []), (.iand, 1, [])] (by decide +kernel) (pc' := 40) (ls' := [(0, v0), (0, v1), (0, v2)]) (st' := [(0, (jand v1 255))]) rfl ?_
        exact jEv.retI (show jfI 160 40 (.ireturn) 1 [] = true by decide +kernel) (by decide +kernel) (by cases H; exact HY)
      · refine jEv.tsO (t := 41) (show jfI 160 1 (.tableswitch 40 0 2 #[27, 29, 34]) 27 [] = true by decide +kernel) (by omega) rfl (by decide) ?_
        refine jEv.blk [(.iload_n 1, 1, []), (.bipush 7, 2, []), (.iload_n 2, 1, []), (.iconst 3, 1, []), (.isub, 1, []), (.imul, 1, []), (.iadd, 1, []), (.sipush 255, 3, []), (.iand, 1, [])] (by decide +kernel) (pc' := 53) (ls' := [(0, v0), (0, v1), (0, v2)]) (st' := [(0, (jand (wr (v1 + (wr (7 * (wr (v2 - 3)))))) 255))]) rfl ?_
        exact jEv.retI (show jfI 160 53 (.ireturn) 1 [] = true by decide +kernel) (by decide +kernel) (by cases H; exact HY)
def yk_Pe_writeFrame_L88 (T : jT) (xs : List Int) (d : Nat) (y : jV × jS)  (v2 : Int) (v3 : Int) (v4 : Int) (o6 : Nat) (o7 : Nat) (v8 : Int) (v9 : Int) : ((Int × jH) ⊕ jH) → Prop
  | .inl (v10, h) => jEv xs d (85, 88, [(3, 0), (3, 0), (0, v2), (0, v3), (0, v4), (3, 0), (2, Int.ofNat o6), (2, Int.ofNat o7), (0, v8), (0, v9), (0, v10), (3, 0)], []) (T, h) y
  | .inr o => ykV T y o
set_option maxRecDepth 20000 in
noncomputable def Pe_writeFrame_B88  (h : jH) (v2 : Int) (v3 : Int) (v4 : Int) (o6 : Nat) (o7 : Nat) (v8 : Int) (v9 : Int) (v10 : Int) : Option ((Int × jH) ⊕ jH) := (if v10 < v4 then Option.bind (G_cell h (o7 + 1) 32 v2) (fun b6 => Option.bind (G_cell h (o7 + 2) 32 v2) (fun b7 => Option.bind (G_payloadOctet b6 b7 (wr (v3 + v10))) (fun b8 => Option.bind (Fl_add h o6 (wr ((wr (v8 + 4)) + v10)) b8) (fun b9 => some (.inl ((wr (v10 + 1)), b9)))))) else Option.map Sum.inr (Option.bind (G_checkOf h 7 (o6 + 2) 512 (wr (v9 + 1)) (h o6 2)) (fun b10 => Option.bind (G_put h (o6 + 2) 512 v9 b10) (fun b11 => some b11))))
noncomputable def Pe_writeFrame_L88  (h : jH) (v2 : Int) (v3 : Int) (v4 : Int) (o6 : Nat) (o7 : Nat) (v8 : Int) (v9 : Int) (v10 : Int) : Option jH := jloop (fun s : (Int × jH) => Pe_writeFrame_B88 s.2 v2 v3 v4 o6 o7 v8 v9 s.1) (v10, h)
set_option maxRecDepth 20000 in
theorem t_Pe_writeFrame_B88 {T : jT} {xs : List Int} {d : Nat} {y : jV × jS} (hd : 1 ≤ d) {h : jH}  {v2 : Int} {v3 : Int} {v4 : Int} {o6 : Nat} {o7 : Nat} {v8 : Int} {v9 : Int} {v10 : Int} {out : ((Int × jH) ⊕ jH)} (ho6 : isX1 T o6) (ho7 : isX7 T o7) (H : Pe_writeFrame_B88 h v2 v3 v4 o6 o7 v8 v9 v10 = some out) (HY : yk_Pe_writeFrame_L88 T xs d y v2 v3 v4 o6 o7 v8 v9 out) : jEv xs d (85, 88, [(3, 0), (3, 0), (0, v2), (0, v3), (0, v4), (3, 0), (2, Int.ofNat o6), (2, Int.ofNat o7), (0, v8), (0, v9), (0, v10), (3, 0)], []) (T, h) y := by
  unfold Pe_writeFrame_B88 at H
  refine jEv.blk [(.iload 10, 2, []), (.iload 4, 2, [])] (by decide +kernel) (pc' := 92) (ls' := [(3, 0), (3, 0), (0, v2), (0, v3), (0, v4), (3, 0), (2, Int.ofNat o6), (2, Int.ofNat o7), (0, v8), (0, v9), (0, v10), (3, 0)]) (st' := [(0, v4), (0, v10)]) rfl ?_
  refine jEv.ic_ge (t := 142) (show jfI 85 92 (.if_icmp .ge 50) 3 [] = true by decide +kernel) rfl H (fun c5 H => ?_) (fun c5 H => ?_)
  · refine jEv.blk [(.aload 7, 2, [])] (by decide +kernel) (pc' := 97) (ls' := [(3, 0), (3, 0), (0, v2), (0, v3), (0, v4), (3, 0), (2, Int.ofNat o6), (2, Int.ofNat o7), (0, v8), (0, v9), (0, v10), (3, 0)]) (st' := [(2, Int.ofNat o7)]) rfl ?_
    refine jEv.gfR (o' := (o7 + 1)) (show jfI 85 97 (.getfield 136) 3 [7, 0, 5, 0, 1237] = true by decide +kernel) (isX7_L ho7) (by decide) (isX7_r0 ho7) ?_
    refine jEv.blk [(.iload_n 2, 1, [])] (by decide +kernel) (pc' := 101) (ls' := [(3, 0), (3, 0), (0, v2), (0, v3), (0, v4), (3, 0), (2, Int.ofNat o6), (2, Int.ofNat o7), (0, v8), (0, v9), (0, v10), (3, 0)]) (st' := [(0, v2), (2, Int.ofNat (o7 + 1))]) rfl ?_
    refine jbind H (fun b6 Hb6 H => ?_)
    refine jEv.calS (st' := [(0, b6)]) (show jfI 85 101 (.invokestatic 139) 3 [4, 137, 2, 5221] = true by decide +kernel) rfl (Or.inr rfl) rfl (Nat.le_of_ble_eq_true rfl) ((t_G_cell (T := T) (xs := xs) (isX7_a0 ho7) Hb6).mono (jKle 1 hd)) rfl ?_
    refine jEv.blk [(.aload 7, 2, [])] (by decide +kernel) (pc' := 106) (ls' := [(3, 0), (3, 0), (0, v2), (0, v3), (0, v4), (3, 0), (2, Int.ofNat o6), (2, Int.ofNat o7), (0, v8), (0, v9), (0, v10), (3, 0)]) (st' := [(2, Int.ofNat o7), (0, b6)]) rfl ?_
    refine jEv.gfR (o' := (o7 + 2)) (show jfI 85 106 (.getfield 143) 3 [7, 1, 5, 0, 2001] = true by decide +kernel) (isX7_L ho7) (by decide) (isX7_r1 ho7) ?_
    refine jEv.blk [(.iload_n 2, 1, [])] (by decide +kernel) (pc' := 110) (ls' := [(3, 0), (3, 0), (0, v2), (0, v3), (0, v4), (3, 0), (2, Int.ofNat o6), (2, Int.ofNat o7), (0, v8), (0, v9), (0, v10), (3, 0)]) (st' := [(0, v2), (2, Int.ofNat (o7 + 2)), (0, b6)]) rfl ?_
    refine jbind H (fun b7 Hb7 H => ?_)
    refine jEv.calS (st' := [(0, b7), (0, b6)]) (show jfI 85 110 (.invokestatic 139) 3 [4, 137, 2, 5221] = true by decide +kernel) rfl (Or.inr rfl) rfl (Nat.le_of_ble_eq_true rfl) ((t_G_cell (T := T) (xs := xs) (isX7_a1 ho7) Hb7).mono (jKle 1 hd)) rfl ?_
    refine jEv.blk [(.iload_n 3, 1, []), (.iload 10, 2, []), (.iadd, 1, [])] (by decide +kernel) (pc' := 117) (ls' := [(3, 0), (3, 0), (0, v2), (0, v3), (0, v4), (3, 0), (2, Int.ofNat o6), (2, Int.ofNat o7), (0, v8), (0, v9), (0, v10), (3, 0)]) (st' := [(0, (wr (v3 + v10))), (0, b7), (0, b6)]) rfl ?_
    refine jbind H (fun b8 Hb8 H => ?_)
    refine jEv.calS (st' := [(0, b8)]) (show jfI 85 117 (.invokestatic 146) 3 [4, 160, 3, 5222] = true by decide +kernel) rfl (Or.inr rfl) rfl (Nat.le_of_ble_eq_true rfl) ((t_G_payloadOctet (T := T) (xs := xs)  Hb8).mono (jKle 1 hd)) rfl ?_
    refine jEv.blk [(.istore 11, 2, []), (.aload 6, 2, []), (.iload 8, 2, []), (.iconst 4, 1, []), (.iadd, 1, []), (.iload 10, 2, []), (.iadd, 1, []), (.iload 11, 2, [])] (by decide +kernel) (pc' := 133) (ls' := [(3, 0), (3, 0), (0, v2), (0, v3), (0, v4), (3, 0), (2, Int.ofNat o6), (2, Int.ofNat o7), (0, v8), (0, v9), (0, v10), (0, b8)]) (st' := [(0, b8), (0, (wr ((wr (v8 + 4)) + v10))), (2, Int.ofNat o6)]) rfl ?_
    refine jbind H (fun b9 Hb9 H => ?_)
    refine jEv.calV (st' := []) (show jfI 85 133 (.invokevirtual 115) 3 [1, 25, 2, 5203] = true by decide +kernel) rfl (Or.inl rfl) rfl (Nat.le_of_ble_eq_true rfl) (by decide +kernel) (by decide) (isX1_L ho6) ((t_Fl_add (T := T) (xs := xs) ho6 Hb9).mono (jKle 1 hd)) rfl ?_
    refine jEv.blk [(.iinc 10 1, 3, [])] (by decide +kernel) (pc' := 139) (ls' := [(3, 0), (3, 0), (0, v2), (0, v3), (0, v4), (3, 0), (2, Int.ofNat o6), (2, Int.ofNat o7), (0, v8), (0, v9), (0, (wr (v10 + 1))), (0, b8)]) (st' := []) rfl ?_
    refine jEv.goto (t := 88) (show jfI 85 139 (.goto (-51)) 3 [] = true by decide +kernel) rfl ?_
    exact jEv.weak (a := [(3, 0), (3, 0), (0, v2), (0, v3), (0, v4), (3, 0), (2, Int.ofNat o6), (2, Int.ofNat o7), (0, v8), (0, v9), (0, (wr (v10 + 1))), (3, 0)]) (jles.c0 (jles.c0 (jles.c1 (jles.c1 (jles.c1 (jles.c0 (jles.c1 (jles.c1 (jles.c1 (jles.c1 (jles.c1 (jles.c0 jles.nl)))))))))))) ((by cases H; exact HY))
  · refine jmapr H HY (fun out H (HY : ykV T y out) => ?_)
    refine jEv.blk [(.aload 6, 2, [])] (by decide +kernel) (pc' := 144) (ls' := [(3, 0), (3, 0), (0, v2), (0, v3), (0, v4), (3, 0), (2, Int.ofNat o6), (2, Int.ofNat o7), (0, v8), (0, v9), (0, v10), (3, 0)]) (st' := [(2, Int.ofNat o6)]) rfl ?_
    refine jEv.gfR (o' := (o6 + 2)) (show jfI 85 144 (.getfield 119) 3 [1, 1, 5, 0, 1212] = true by decide +kernel) (isX1_L ho6) (by decide) (isX1_r1 ho6) ?_
    refine jEv.blk [(.iload 9, 2, []), (.bipush 7, 2, []), (.aload 6, 2, [])] (by decide +kernel) (pc' := 153) (ls' := [(3, 0), (3, 0), (0, v2), (0, v3), (0, v4), (3, 0), (2, Int.ofNat o6), (2, Int.ofNat o7), (0, v8), (0, v9), (0, v10), (3, 0)]) (st' := [(2, Int.ofNat o6), (0, 7), (0, v9), (2, Int.ofNat (o6 + 2))]) rfl ?_
    refine jEv.gfR (o' := (o6 + 2)) (show jfI 85 153 (.getfield 119) 3 [1, 1, 5, 0, 1212] = true by decide +kernel) (isX1_L ho6) (by decide) (isX1_r1 ho6) ?_
    refine jEv.blk [(.iload 9, 2, []), (.iconst 1, 1, []), (.iadd, 1, []), (.aload 6, 2, [])] (by decide +kernel) (pc' := 162) (ls' := [(3, 0), (3, 0), (0, v2), (0, v3), (0, v4), (3, 0), (2, Int.ofNat o6), (2, Int.ofNat o7), (0, v8), (0, v9), (0, v10), (3, 0)]) (st' := [(2, Int.ofNat o6), (0, (wr (v9 + 1))), (2, Int.ofNat (o6 + 2)), (0, 7), (0, v9), (2, Int.ofNat (o6 + 2))]) rfl ?_
    refine jEv.gfI (show jfI 85 162 (.getfield 110) 3 [1, 2, 0, 0, 1216] = true by decide +kernel) (isX1_L ho6) (by decide) ?_
    refine jbind H (fun b10 Hb10 H => ?_)
    refine jEv.calS (st' := [(0, b10), (0, v9), (2, Int.ofNat (o6 + 2))]) (show jfI 85 165 (.invokestatic 122) 3 [4, 145, 4, 5207] = true by decide +kernel) rfl (Or.inr rfl) rfl (Nat.le_of_ble_eq_true rfl) ((t_G_checkOf (T := T) (xs := xs) (isX1_a1 ho6) Hb10).mono (jKle 1 hd)) rfl ?_
    refine jbind H (fun b11 Hb11 H => ?_)
    refine jEv.calS (st' := []) (show jfI 85 168 (.invokestatic 84) 3 [4, 138, 3, 5225] = true by decide +kernel) rfl (Or.inr rfl) rfl (Nat.le_of_ble_eq_true rfl) ((t_G_put (T := T) (xs := xs) (isX1_a1 ho6) Hb11).mono (jKle 1 hd)) rfl ?_
    exact jEv.retV (show jfI 85 171 (.return_) 1 [] = true by decide +kernel) (by decide +kernel) (by cases H; exact HY)
theorem t_Pe_writeFrame_L88 {T : jT} {xs : List Int} {d : Nat} {y : jV × jS} (hd : 1 ≤ d) {h : jH}  {v2 : Int} {v3 : Int} {v4 : Int} {o6 : Nat} {o7 : Nat} {v8 : Int} {v9 : Int} {v10 : Int} {out : jH} (ho6 : isX1 T o6) (ho7 : isX7 T o7) (H : Pe_writeFrame_L88 h v2 v3 v4 o6 o7 v8 v9 v10 = some out) (HY : ykV T y out) : jEv xs d (85, 88, [(3, 0), (3, 0), (0, v2), (0, v3), (0, v4), (3, 0), (2, Int.ofNat o6), (2, Int.ofNat o7), (0, v8), (0, v9), (0, v10), (3, 0)], []) (T, h) y :=
  jloop_sound (G := fun s : (Int × jH) => jEv xs d (85, 88, [(3, 0), (3, 0), (0, v2), (0, v3), (0, v4), (3, 0), (2, Int.ofNat o6), (2, Int.ofNat o7), (0, v8), (0, v9), (0, s.1), (3, 0)], []) (T, s.2) y) (K := yk_Pe_writeFrame_L88 T xs d y v2 v3 v4 o6 o7 v8 v9) (fun s out H HY => t_Pe_writeFrame_B88 hd ho6 ho7 H HY) (fun s' hg => hg) (s := (v10, h)) H HY
set_option maxRecDepth 20000 in
noncomputable def Pe_writeFrame  (h : jH) (o0 : Nat) (o1 : Nat) (v2 : Int) (v3 : Int) (v4 : Int) (v5 : Int) : Option jH := Option.bind (Fl_add h (o1 + 4) (wr ((wr ((h o0 0) * (h (o1 + 1) 3))) + (h o0 1))) 0) (fun b1 => Option.bind (Fl_add b1 (o1 + 4) (wr ((wr ((wr ((h o0 0) * (h (o1 + 1) 3))) + (h o0 1))) + 1)) v5) (fun b2 => Option.bind (Fl_add b2 (o1 + 4) (wr ((wr ((wr ((h o0 0) * (h (o1 + 1) 3))) + (h o0 1))) + 2)) v4) (fun b3 => Option.bind (Fl_add b3 (o1 + 4) (wr ((wr ((wr ((h o0 0) * (h (o1 + 1) 3))) + (h o0 1))) + 3)) (jand (b3 o0 2) 255)) (fun b4 => Pe_writeFrame_L88 b4 v2 v3 v4 (o1 + 4) (o1 + 7) (wr ((wr ((h o0 0) * (h (o1 + 1) 3))) + (h o0 1))) (h (o1 + 4) 2) 0))))
set_option maxRecDepth 20000 in
theorem t_Pe_writeFrame {T : jT} {xs : List Int} {h : jH}  {o0 : Nat} {o1 : Nat} {v2 : Int} {v3 : Int} {v4 : Int} {v5 : Int} {out : jH} (ho0 : isX5 T o0) (ho1 : isX9 T o1) (H : Pe_writeFrame h o0 o1 v2 v3 v4 v5 = some out) : jEm xs 2 85 [(2, Int.ofNat o0), (2, Int.ofNat o1), (0, v2), (0, v3), (0, v4), (0, v5)] (T, h) ((3, 0), (T, out)) := by
  have hd : 1 ≤ 1 := Nat.le_refl _
  obtain ⟨y, ey⟩ : ∃ y : jV × jS, y = ((3, 0), (T, out)) := ⟨_, rfl⟩
  rw [← ey]
  have HY : ykV T y out := ey
  refine jEm.ent (n := 12) (by decide +kernel) (Nat.le_of_ble_eq_true rfl) ?_
  show jEv xs 1 (85, 0, [(2, Int.ofNat o0), (2, Int.ofNat o1), (0, v2), (0, v3), (0, v4), (0, v5), (3, 0), (3, 0), (3, 0), (3, 0), (3, 0), (3, 0)], []) (T, h) y
  unfold Pe_writeFrame at H
  refine jEv.blk [(.aload_n 1, 1, [])] (by decide +kernel) (pc' := 1) (ls' := [(2, Int.ofNat o0), (2, Int.ofNat o1), (0, v2), (0, v3), (0, v4), (0, v5), (3, 0), (3, 0), (3, 0), (3, 0), (3, 0), (3, 0)]) (st' := [(2, Int.ofNat o1)]) rfl ?_
  refine jEv.gfR (o' := (o1 + 4)) (show jfI 85 1 (.getfield 103) 3 [9, 2, 5, 0, 2070] = true by decide +kernel) (isX9_L ho1) (by decide) (isX9_r2 ho1) ?_
  refine jEv.blk [(.astore 6, 2, []), (.aload_n 1, 1, [])] (by decide +kernel) (pc' := 7) (ls' := [(2, Int.ofNat o0), (2, Int.ofNat o1), (0, v2), (0, v3), (0, v4), (0, v5), (2, Int.ofNat (o1 + 4)), (3, 0), (3, 0), (3, 0), (3, 0), (3, 0)]) (st' := [(2, Int.ofNat o1)]) rfl ?_
  refine jEv.gfR (o' := (o1 + 7)) (show jfI 85 7 (.getfield 57) 3 [9, 3, 5, 0, 2072] = true by decide +kernel) (isX9_L ho1) (by decide) (isX9_r3 ho1) ?_
  refine jEv.blk [(.astore 7, 2, []), (.aload_n 0, 1, [])] (by decide +kernel) (pc' := 13) (ls' := [(2, Int.ofNat o0), (2, Int.ofNat o1), (0, v2), (0, v3), (0, v4), (0, v5), (2, Int.ofNat (o1 + 4)), (2, Int.ofNat (o1 + 7)), (3, 0), (3, 0), (3, 0), (3, 0)]) (st' := [(2, Int.ofNat o0)]) rfl ?_
  refine jEv.gfI (show jfI 85 13 (.getfield 15) 3 [5, 0, 0, 0, 2138] = true by decide +kernel) (isX5_L ho0) (by decide) ?_
  refine jEv.blk [(.aload_n 1, 1, [])] (by decide +kernel) (pc' := 17) (ls' := [(2, Int.ofNat o0), (2, Int.ofNat o1), (0, v2), (0, v3), (0, v4), (0, v5), (2, Int.ofNat (o1 + 4)), (2, Int.ofNat (o1 + 7)), (3, 0), (3, 0), (3, 0), (3, 0)]) (st' := [(2, Int.ofNat o1), (0, (h o0 0))]) rfl ?_
  refine jEv.gfR (o' := (o1 + 1)) (show jfI 85 17 (.getfield 47) 3 [9, 1, 5, 0, 2066] = true by decide +kernel) (isX9_L ho1) (by decide) (isX9_r1 ho1) ?_
  refine jEv.gfI (show jfI 85 20 (.getfield 107) 3 [0, 3, 0, 0, 1191] = true by decide +kernel) (isX0_L (isX9_s1 ho1)) (by decide) ?_
  refine jEv.blk [(.imul, 1, []), (.aload_n 0, 1, [])] (by decide +kernel) (pc' := 25) (ls' := [(2, Int.ofNat o0), (2, Int.ofNat o1), (0, v2), (0, v3), (0, v4), (0, v5), (2, Int.ofNat (o1 + 4)), (2, Int.ofNat (o1 + 7)), (3, 0), (3, 0), (3, 0), (3, 0)]) (st' := [(2, Int.ofNat o0), (0, (wr ((h o0 0) * (h (o1 + 1) 3))))]) rfl ?_
  refine jEv.gfI (show jfI 85 25 (.getfield 23) 3 [5, 1, 0, 0, 2139] = true by decide +kernel) (isX5_L ho0) (by decide) ?_
  refine jEv.blk [(.iadd, 1, []), (.istore 8, 2, []), (.aload 6, 2, [])] (by decide +kernel) (pc' := 33) (ls' := [(2, Int.ofNat o0), (2, Int.ofNat o1), (0, v2), (0, v3), (0, v4), (0, v5), (2, Int.ofNat (o1 + 4)), (2, Int.ofNat (o1 + 7)), (0, (wr ((wr ((h o0 0) * (h (o1 + 1) 3))) + (h o0 1)))), (3, 0), (3, 0), (3, 0)]) (st' := [(2, Int.ofNat (o1 + 4))]) rfl ?_
  refine jEv.gfI (show jfI 85 33 (.getfield 110) 3 [1, 2, 0, 0, 1216] = true by decide +kernel) (isX1_L (isX9_s2 ho1)) (by decide) ?_
  refine jEv.blk [(.istore 9, 2, []), (.aload 6, 2, []), (.iload 8, 2, []), (.iconst 0, 1, [])] (by decide +kernel) (pc' := 43) (ls' := [(2, Int.ofNat o0), (2, Int.ofNat o1), (0, v2), (0, v3), (0, v4), (0, v5), (2, Int.ofNat (o1 + 4)), (2, Int.ofNat (o1 + 7)), (0, (wr ((wr ((h o0 0) * (h (o1 + 1) 3))) + (h o0 1)))), (0, (h (o1 + 4) 2)), (3, 0), (3, 0)]) (st' := [(0, 0), (0, (wr ((wr ((h o0 0) * (h (o1 + 1) 3))) + (h o0 1)))), (2, Int.ofNat (o1 + 4))]) rfl ?_
  refine jbind H (fun b1 Hb1 H => ?_)
  refine jEv.calV (st' := []) (show jfI 85 43 (.invokevirtual 115) 3 [1, 25, 2, 5203] = true by decide +kernel) rfl (Or.inl rfl) rfl (Nat.le_of_ble_eq_true rfl) (by decide +kernel) (by decide) (isX1_L (isX9_s2 ho1)) ((t_Fl_add (T := T) (xs := xs) (isX9_s2 ho1) Hb1).mono (jKle 1 hd)) rfl ?_
  refine jEv.blk [(.aload 6, 2, []), (.iload 8, 2, []), (.iconst 1, 1, []), (.iadd, 1, []), (.iload 5, 2, [])] (by decide +kernel) (pc' := 54) (ls' := [(2, Int.ofNat o0), (2, Int.ofNat o1), (0, v2), (0, v3), (0, v4), (0, v5), (2, Int.ofNat (o1 + 4)), (2, Int.ofNat (o1 + 7)), (0, (wr ((wr ((h o0 0) * (h (o1 + 1) 3))) + (h o0 1)))), (0, (h (o1 + 4) 2)), (3, 0), (3, 0)]) (st' := [(0, v5), (0, (wr ((wr ((wr ((h o0 0) * (h (o1 + 1) 3))) + (h o0 1))) + 1))), (2, Int.ofNat (o1 + 4))]) rfl ?_
  refine jbind H (fun b2 Hb2 H => ?_)
  refine jEv.calV (st' := []) (show jfI 85 54 (.invokevirtual 115) 3 [1, 25, 2, 5203] = true by decide +kernel) rfl (Or.inl rfl) rfl (Nat.le_of_ble_eq_true rfl) (by decide +kernel) (by decide) (isX1_L (isX9_s2 ho1)) ((t_Fl_add (T := T) (xs := xs) (isX9_s2 ho1) Hb2).mono (jKle 1 hd)) rfl ?_
  refine jEv.blk [(.aload 6, 2, []), (.iload 8, 2, []), (.iconst 2, 1, []), (.iadd, 1, []), (.iload 4, 2, [])] (by decide +kernel) (pc' := 65) (ls' := [(2, Int.ofNat o0), (2, Int.ofNat o1), (0, v2), (0, v3), (0, v4), (0, v5), (2, Int.ofNat (o1 + 4)), (2, Int.ofNat (o1 + 7)), (0, (wr ((wr ((h o0 0) * (h (o1 + 1) 3))) + (h o0 1)))), (0, (h (o1 + 4) 2)), (3, 0), (3, 0)]) (st' := [(0, v4), (0, (wr ((wr ((wr ((h o0 0) * (h (o1 + 1) 3))) + (h o0 1))) + 2))), (2, Int.ofNat (o1 + 4))]) rfl ?_
  refine jbind H (fun b3 Hb3 H => ?_)
  refine jEv.calV (st' := []) (show jfI 85 65 (.invokevirtual 115) 3 [1, 25, 2, 5203] = true by decide +kernel) rfl (Or.inl rfl) rfl (Nat.le_of_ble_eq_true rfl) (by decide +kernel) (by decide) (isX1_L (isX9_s2 ho1)) ((t_Fl_add (T := T) (xs := xs) (isX9_s2 ho1) Hb3).mono (jKle 1 hd)) rfl ?_
  refine jEv.blk [(.aload 6, 2, []), (.iload 8, 2, []), (.iconst 3, 1, []), (.iadd, 1, []), (.aload_n 0, 1, [])] (by decide +kernel) (pc' := 75) (ls' := [(2, Int.ofNat o0), (2, Int.ofNat o1), (0, v2), (0, v3), (0, v4), (0, v5), (2, Int.ofNat (o1 + 4)), (2, Int.ofNat (o1 + 7)), (0, (wr ((wr ((h o0 0) * (h (o1 + 1) 3))) + (h o0 1)))), (0, (h (o1 + 4) 2)), (3, 0), (3, 0)]) (st' := [(2, Int.ofNat o0), (0, (wr ((wr ((wr ((h o0 0) * (h (o1 + 1) 3))) + (h o0 1))) + 3))), (2, Int.ofNat (o1 + 4))]) rfl ?_
  refine jEv.gfI (show jfI 85 75 (.getfield 29) 3 [5, 2, 0, 0, 2140] = true by decide +kernel) (isX5_L ho0) (by decide) ?_
  refine jEv.blk [(.sipush 255, 3, []), (.iand, 1, [])] (by decide +kernel) (pc' := 82) (ls' := [(2, Int.ofNat o0), (2, Int.ofNat o1), (0, v2), (0, v3), (0, v4), (0, v5), (2, Int.ofNat (o1 + 4)), (2, Int.ofNat (o1 + 7)), (0, (wr ((wr ((h o0 0) * (h (o1 + 1) 3))) + (h o0 1)))), (0, (h (o1 + 4) 2)), (3, 0), (3, 0)]) (st' := [(0, (jand (b3 o0 2) 255)), (0, (wr ((wr ((wr ((h o0 0) * (h (o1 + 1) 3))) + (h o0 1))) + 3))), (2, Int.ofNat (o1 + 4))]) rfl ?_
  refine jbind H (fun b4 Hb4 H => ?_)
  refine jEv.calV (st' := []) (show jfI 85 82 (.invokevirtual 115) 3 [1, 25, 2, 5203] = true by decide +kernel) rfl (Or.inl rfl) rfl (Nat.le_of_ble_eq_true rfl) (by decide +kernel) (by decide) (isX1_L (isX9_s2 ho1)) ((t_Fl_add (T := T) (xs := xs) (isX9_s2 ho1) Hb4).mono (jKle 1 hd)) rfl ?_
  refine jEv.blk [(.iconst 0, 1, []), (.istore 10, 2, [])] (by decide +kernel) (pc' := 88) (ls' := [(2, Int.ofNat o0), (2, Int.ofNat o1), (0, v2), (0, v3), (0, v4), (0, v5), (2, Int.ofNat (o1 + 4)), (2, Int.ofNat (o1 + 7)), (0, (wr ((wr ((h o0 0) * (h (o1 + 1) 3))) + (h o0 1)))), (0, (h (o1 + 4) 2)), (0, 0), (3, 0)]) (st' := []) rfl ?_
  exact jEv.weak (a := [(3, 0), (3, 0), (0, v2), (0, v3), (0, v4), (3, 0), (2, Int.ofNat (o1 + 4)), (2, Int.ofNat (o1 + 7)), (0, (wr ((wr ((h o0 0) * (h (o1 + 1) 3))) + (h o0 1)))), (0, (h (o1 + 4) 2)), (0, 0), (3, 0)]) (jles.c0 (jles.c0 (jles.c1 (jles.c1 (jles.c1 (jles.c0 (jles.c1 (jles.c1 (jles.c1 (jles.c1 (jles.c1 (jles.c0 jles.nl)))))))))))) (t_Pe_writeFrame_L88 (T := T) (xs := xs) (y := y) hd (isX9_s2 ho1) (isX9_s3 ho1) H HY)
def yk_Pe_writeRecord_L15 (T : jT) (xs : List Int) (d : Nat) (y : jV × jS)  (o0 : Nat) (o1 : Nat) (v2 : Int) (v3 : Int) : ((Int × Int × jH) ⊕ jH) → Prop
  | .inl (v4, v5, h) => jEv xs d (84, 15, [(2, Int.ofNat o0), (2, Int.ofNat o1), (0, v2), (0, v3), (0, v4), (0, v5), (3, 0), (3, 0), (3, 0), (3, 0)], []) (T, h) y
  | .inr o => ykV T y o
def yk_Pe_writeRecord_L46 (T : jT) (xs : List Int) (d : Nat) (y : jV × jS)  (o0 : Nat) (o1 : Nat) (v2 : Int) (v3 : Int) (v4 : Int) (v5 : Int) (v6 : Int) : ((Int × jH) ⊕ ((Int × Int × jH) ⊕ jH)) → Prop
  | .inl (v7, h) => jEv xs d (84, 46, [(2, Int.ofNat o0), (2, Int.ofNat o1), (0, v2), (0, v3), (0, v4), (0, v5), (0, v6), (0, v7), (3, 0), (3, 0)], []) (T, h) y
  | .inr o => yk_Pe_writeRecord_L15 T xs d y o0 o1 v2 v3 o
set_option maxRecDepth 20000 in
noncomputable def Pe_writeRecord_p149  (h : jH) (o0 : Nat) (o1 : Nat) (v2 : Int) (v3 : Int) (v4 : Int) (v5 : Int) (v7 : Int) (vs0 : Int) : Option ((Int × Int × jH) ⊕ jH) := Option.bind (Pe_writeFrame h o0 o1 v2 v4 v7 vs0) (fun b12 => some (.inl ((wr (v4 + v7)), (wr (v5 + 1)), (jup b12 o0 1 (wr ((b12 o0 1) + (wr (4 + v7))))))))
set_option maxRecDepth 20000 in
theorem t_Pe_writeRecord_p149 {T : jT} {xs : List Int} {d : Nat} {y : jV × jS} (hd : 2 ≤ d) {h : jH}  {o0 : Nat} {o1 : Nat} {v2 : Int} {v3 : Int} {v4 : Int} {v5 : Int} {v7 : Int} {vs0 : Int} {out : ((Int × Int × jH) ⊕ jH)} (ho0 : isX5 T o0) (ho1 : isX9 T o1) (H : Pe_writeRecord_p149 h o0 o1 v2 v3 v4 v5 v7 vs0 = some out) (HY : yk_Pe_writeRecord_L15 T xs d y o0 o1 v2 v3 out) : jEv xs d (84, 149, [(2, Int.ofNat o0), (2, Int.ofNat o1), (0, v2), (0, v3), (0, v4), (0, v5), (3, 0), (0, v7), (3, 0), (3, 0)], [(0, vs0)]) (T, h) y := by
  unfold Pe_writeRecord_p149 at H
  refine jEv.blk [(.istore 9, 2, []), (.aload_n 0, 1, []), (.aload_n 1, 1, []), (.iload_n 2, 1, []), (.iload 4, 2, []), (.iload 7, 2, []), (.iload 9, 2, [])] (by decide +kernel) (pc' := 160) (ls' := [(2, Int.ofNat o0), (2, Int.ofNat o1), (0, v2), (0, v3), (0, v4), (0, v5), (3, 0), (0, v7), (3, 0), (0, vs0)]) (st' := [(0, vs0), (0, v7), (0, v4), (0, v2), (2, Int.ofNat o1), (2, Int.ofNat o0)]) rfl ?_
  refine jbind H (fun b12 Hb12 H => ?_)
  refine jEv.calV (st' := []) (show jfI 84 160 (.invokevirtual 132) 3 [1, 85, 5, 5217] = true by decide +kernel) rfl (Or.inl rfl) rfl (Nat.le_of_ble_eq_true rfl) (by decide +kernel) (by decide) (isX5_L ho0) ((t_Pe_writeFrame (T := T) (xs := xs) ho0 ho1 Hb12).mono (jKle 2 hd)) rfl ?_
  refine jEv.blk [(.aload_n 0, 1, []), (.dup, 1, [])] (by decide +kernel) (pc' := 165) (ls' := [(2, Int.ofNat o0), (2, Int.ofNat o1), (0, v2), (0, v3), (0, v4), (0, v5), (3, 0), (0, v7), (3, 0), (0, vs0)]) (st' := [(2, Int.ofNat o0), (2, Int.ofNat o0)]) rfl ?_
  refine jEv.gfI (show jfI 84 165 (.getfield 23) 3 [5, 1, 0, 0, 2139] = true by decide +kernel) (isX5_L ho0) (by decide) ?_
  refine jEv.blk [(.iconst 4, 1, []), (.iload 7, 2, []), (.iadd, 1, []), (.iadd, 1, [])] (by decide +kernel) (pc' := 173) (ls' := [(2, Int.ofNat o0), (2, Int.ofNat o1), (0, v2), (0, v3), (0, v4), (0, v5), (3, 0), (0, v7), (3, 0), (0, vs0)]) (st' := [(0, (wr ((b12 o0 1) + (wr (4 + v7))))), (2, Int.ofNat o0)]) rfl ?_
  refine jEv.pfI (show jfI 84 173 (.putfield 23) 3 [5, 1, 0, 0, 2139] = true by decide +kernel) (isX5_L ho0) (by decide) ?_
  refine jEv.blk [(.iload 4, 2, []), (.iload 7, 2, []), (.iadd, 1, []), (.istore 4, 2, []), (.iinc 5 1, 3, [])] (by decide +kernel) (pc' := 186) (ls' := [(2, Int.ofNat o0), (2, Int.ofNat o1), (0, v2), (0, v3), (0, (wr (v4 + v7))), (0, (wr (v5 + 1))), (3, 0), (0, v7), (3, 0), (0, vs0)]) (st' := []) rfl ?_
  refine jEv.goto (t := 15) (show jfI 84 186 (.goto (-171)) 3 [] = true by decide +kernel) rfl ?_
  exact jEv.weak (a := [(2, Int.ofNat o0), (2, Int.ofNat o1), (0, v2), (0, v3), (0, (wr (v4 + v7))), (0, (wr (v5 + 1))), (3, 0), (3, 0), (3, 0), (3, 0)]) (jles.c1 (jles.c1 (jles.c1 (jles.c1 (jles.c1 (jles.c1 (jles.c0 (jles.c0 (jles.c0 (jles.c0 jles.nl)))))))))) ((by cases H; exact HY))
set_option maxRecDepth 20000 in
noncomputable def Pe_writeRecord_p119  (h : jH) (o0 : Nat) (o1 : Nat) (v2 : Int) (v3 : Int) (v4 : Int) (v5 : Int) (v7 : Int) (vs0 : Int) : Option ((Int × Int × jH) ⊕ jH) := (if v4 = 0 then (if vs0 = 0 then Pe_writeRecord_p149 h o0 o1 v2 v3 v4 v5 v7 2 else Pe_writeRecord_p149 h o0 o1 v2 v3 v4 v5 v7 1) else (if vs0 = 0 then Pe_writeRecord_p149 h o0 o1 v2 v3 v4 v5 v7 3 else Pe_writeRecord_p149 h o0 o1 v2 v3 v4 v5 v7 4))
set_option maxRecDepth 20000 in
theorem t_Pe_writeRecord_p119 {T : jT} {xs : List Int} {d : Nat} {y : jV × jS} (hd : 2 ≤ d) {h : jH}  {o0 : Nat} {o1 : Nat} {v2 : Int} {v3 : Int} {v4 : Int} {v5 : Int} {v7 : Int} {vs0 : Int} {out : ((Int × Int × jH) ⊕ jH)} (ho0 : isX5 T o0) (ho1 : isX9 T o1) (H : Pe_writeRecord_p119 h o0 o1 v2 v3 v4 v5 v7 vs0 = some out) (HY : yk_Pe_writeRecord_L15 T xs d y o0 o1 v2 v3 out) : jEv xs d (84, 119, [(2, Int.ofNat o0), (2, Int.ofNat o1), (0, v2), (0, v3), (0, v4), (0, v5), (3, 0), (0, v7), (3, 0), (3, 0)], [(0, vs0)]) (T, h) y := by
  unfold Pe_writeRecord_p119 at H
  refine jEv.blk [(.istore 8, 2, []), (.iload 4, 2, [])] (by decide +kernel) (pc' := 123) (ls' := [(2, Int.ofNat o0), (2, Int.ofNat o1), (0, v2), (0, v3), (0, v4), (0, v5), (3, 0), (0, v7), (0, vs0), (3, 0)]) (st' := [(0, v4)]) rfl ?_
  refine jEv.if_ne (t := 139) (show jfI 84 123 (.ifCond .ne 16) 3 [] = true by decide +kernel) rfl H (fun c9 H => ?_) (fun c9 H => ?_)
  · refine jEv.blk [(.iload 8, 2, [])] (by decide +kernel) (pc' := 128) (ls' := [(2, Int.ofNat o0), (2, Int.ofNat o1), (0, v2), (0, v3), (0, v4), (0, v5), (3, 0), (0, v7), (0, vs0), (3, 0)]) (st' := [(0, vs0)]) rfl ?_
    refine jEv.if_eq (t := 135) (show jfI 84 128 (.ifCond .eq 7) 3 [] = true by decide +kernel) rfl H (fun c10 H => ?_) (fun c10 H => ?_)
    · refine jEv.blk [(.iconst 2, 1, [])] (by decide +kernel) (pc' := 136) (ls' := [(2, Int.ofNat o0), (2, Int.ofNat o1), (0, v2), (0, v3), (0, v4), (0, v5), (3, 0), (0, v7), (0, vs0), (3, 0)]) (st' := [(0, 2)]) rfl ?_
      refine jEv.goto (t := 149) (show jfI 84 136 (.goto 13) 3 [] = true by decide +kernel) rfl ?_
      exact jEv.weak (a := [(2, Int.ofNat o0), (2, Int.ofNat o1), (0, v2), (0, v3), (0, v4), (0, v5), (3, 0), (0, v7), (3, 0), (3, 0)]) (jles.c1 (jles.c1 (jles.c1 (jles.c1 (jles.c1 (jles.c1 (jles.c0 (jles.c1 (jles.c0 (jles.c0 jles.nl)))))))))) (t_Pe_writeRecord_p149 (T := T) (xs := xs) (y := y) hd ho0 ho1 H HY)
    · refine jEv.blk [(.iconst 1, 1, [])] (by decide +kernel) (pc' := 132) (ls' := [(2, Int.ofNat o0), (2, Int.ofNat o1), (0, v2), (0, v3), (0, v4), (0, v5), (3, 0), (0, v7), (0, vs0), (3, 0)]) (st' := [(0, 1)]) rfl ?_
      refine jEv.goto (t := 149) (show jfI 84 132 (.goto 17) 3 [] = true by decide +kernel) rfl ?_
      exact jEv.weak (a := [(2, Int.ofNat o0), (2, Int.ofNat o1), (0, v2), (0, v3), (0, v4), (0, v5), (3, 0), (0, v7), (3, 0), (3, 0)]) (jles.c1 (jles.c1 (jles.c1 (jles.c1 (jles.c1 (jles.c1 (jles.c0 (jles.c1 (jles.c0 (jles.c0 jles.nl)))))))))) (t_Pe_writeRecord_p149 (T := T) (xs := xs) (y := y) hd ho0 ho1 H HY)
  · refine jEv.blk [(.iload 8, 2, [])] (by decide +kernel) (pc' := 141) (ls' := [(2, Int.ofNat o0), (2, Int.ofNat o1), (0, v2), (0, v3), (0, v4), (0, v5), (3, 0), (0, v7), (0, vs0), (3, 0)]) (st' := [(0, vs0)]) rfl ?_
    refine jEv.if_eq (t := 148) (show jfI 84 141 (.ifCond .eq 7) 3 [] = true by decide +kernel) rfl H (fun c11 H => ?_) (fun c11 H => ?_)
    · refine jEv.blk [(.iconst 3, 1, [])] (by decide +kernel) (pc' := 149) (ls' := [(2, Int.ofNat o0), (2, Int.ofNat o1), (0, v2), (0, v3), (0, v4), (0, v5), (3, 0), (0, v7), (0, vs0), (3, 0)]) (st' := [(0, 3)]) rfl ?_
      exact jEv.weak (a := [(2, Int.ofNat o0), (2, Int.ofNat o1), (0, v2), (0, v3), (0, v4), (0, v5), (3, 0), (0, v7), (3, 0), (3, 0)]) (jles.c1 (jles.c1 (jles.c1 (jles.c1 (jles.c1 (jles.c1 (jles.c0 (jles.c1 (jles.c0 (jles.c0 jles.nl)))))))))) (t_Pe_writeRecord_p149 (T := T) (xs := xs) (y := y) hd ho0 ho1 H HY)
    · refine jEv.blk [(.iconst 4, 1, [])] (by decide +kernel) (pc' := 145) (ls' := [(2, Int.ofNat o0), (2, Int.ofNat o1), (0, v2), (0, v3), (0, v4), (0, v5), (3, 0), (0, v7), (0, vs0), (3, 0)]) (st' := [(0, 4)]) rfl ?_
      refine jEv.goto (t := 149) (show jfI 84 145 (.goto 4) 3 [] = true by decide +kernel) rfl ?_
      exact jEv.weak (a := [(2, Int.ofNat o0), (2, Int.ofNat o1), (0, v2), (0, v3), (0, v4), (0, v5), (3, 0), (0, v7), (3, 0), (3, 0)]) (jles.c1 (jles.c1 (jles.c1 (jles.c1 (jles.c1 (jles.c1 (jles.c0 (jles.c1 (jles.c0 (jles.c0 jles.nl)))))))))) (t_Pe_writeRecord_p149 (T := T) (xs := xs) (y := y) hd ho0 ho1 H HY)
set_option maxRecDepth 20000 in
noncomputable def Pe_writeRecord_B46  (h : jH) (o0 : Nat) (o1 : Nat) (v2 : Int) (v3 : Int) (v4 : Int) (v5 : Int) (v6 : Int) (v7 : Int) : Option ((Int × jH) ⊕ ((Int × Int × jH) ⊕ jH)) := (if v7 < v6 then Option.bind (Fl_add h (o1 + 4) (wr ((wr ((h o0 0) * (h (o1 + 1) 3))) + v7)) 0) (fun b6 => some (.inl ((wr (v7 + 1)), b6))) else Option.map Sum.inr (Option.bind (Di_frameLength (jup h o0 1 v6) (o1 + 1) ((jup h o0 1 v6) o0 1) (wr (v3 - v4))) (fun b7 => (if (wr (v4 + b7)) = v3 then Pe_writeRecord_p119 (jup h o0 1 v6) o0 o1 v2 v3 v4 v5 b7 1 else Pe_writeRecord_p119 (jup h o0 1 v6) o0 o1 v2 v3 v4 v5 b7 0))))
noncomputable def Pe_writeRecord_L46  (h : jH) (o0 : Nat) (o1 : Nat) (v2 : Int) (v3 : Int) (v4 : Int) (v5 : Int) (v6 : Int) (v7 : Int) : Option ((Int × Int × jH) ⊕ jH) := jloop (fun s : (Int × jH) => Pe_writeRecord_B46 s.2 o0 o1 v2 v3 v4 v5 v6 s.1) (v7, h)
set_option maxRecDepth 20000 in
theorem t_Pe_writeRecord_B46 {T : jT} {xs : List Int} {d : Nat} {y : jV × jS} (hd : 2 ≤ d) {h : jH}  {o0 : Nat} {o1 : Nat} {v2 : Int} {v3 : Int} {v4 : Int} {v5 : Int} {v6 : Int} {v7 : Int} {out : ((Int × jH) ⊕ ((Int × Int × jH) ⊕ jH))} (ho0 : isX5 T o0) (ho1 : isX9 T o1) (H : Pe_writeRecord_B46 h o0 o1 v2 v3 v4 v5 v6 v7 = some out) (HY : yk_Pe_writeRecord_L46 T xs d y o0 o1 v2 v3 v4 v5 v6 out) : jEv xs d (84, 46, [(2, Int.ofNat o0), (2, Int.ofNat o1), (0, v2), (0, v3), (0, v4), (0, v5), (0, v6), (0, v7), (3, 0), (3, 0)], []) (T, h) y := by
  unfold Pe_writeRecord_B46 at H
  refine jEv.blk [(.iload 7, 2, []), (.iload 6, 2, [])] (by decide +kernel) (pc' := 50) (ls' := [(2, Int.ofNat o0), (2, Int.ofNat o1), (0, v2), (0, v3), (0, v4), (0, v5), (0, v6), (0, v7), (3, 0), (3, 0)]) (st' := [(0, v6), (0, v7)]) rfl ?_
  refine jEv.ic_ge (t := 82) (show jfI 84 50 (.if_icmp .ge 32) 3 [] = true by decide +kernel) rfl H (fun c5 H => ?_) (fun c5 H => ?_)
  · refine jEv.blk [(.aload_n 1, 1, [])] (by decide +kernel) (pc' := 54) (ls' := [(2, Int.ofNat o0), (2, Int.ofNat o1), (0, v2), (0, v3), (0, v4), (0, v5), (0, v6), (0, v7), (3, 0), (3, 0)]) (st' := [(2, Int.ofNat o1)]) rfl ?_
    refine jEv.gfR (o' := (o1 + 4)) (show jfI 84 54 (.getfield 103) 3 [9, 2, 5, 0, 2070] = true by decide +kernel) (isX9_L ho1) (by decide) (isX9_r2 ho1) ?_
    refine jEv.blk [(.aload_n 0, 1, [])] (by decide +kernel) (pc' := 58) (ls' := [(2, Int.ofNat o0), (2, Int.ofNat o1), (0, v2), (0, v3), (0, v4), (0, v5), (0, v6), (0, v7), (3, 0), (3, 0)]) (st' := [(2, Int.ofNat o0), (2, Int.ofNat (o1 + 4))]) rfl ?_
    refine jEv.gfI (show jfI 84 58 (.getfield 15) 3 [5, 0, 0, 0, 2138] = true by decide +kernel) (isX5_L ho0) (by decide) ?_
    refine jEv.blk [(.aload_n 1, 1, [])] (by decide +kernel) (pc' := 62) (ls' := [(2, Int.ofNat o0), (2, Int.ofNat o1), (0, v2), (0, v3), (0, v4), (0, v5), (0, v6), (0, v7), (3, 0), (3, 0)]) (st' := [(2, Int.ofNat o1), (0, (h o0 0)), (2, Int.ofNat (o1 + 4))]) rfl ?_
    refine jEv.gfR (o' := (o1 + 1)) (show jfI 84 62 (.getfield 47) 3 [9, 1, 5, 0, 2066] = true by decide +kernel) (isX9_L ho1) (by decide) (isX9_r1 ho1) ?_
    refine jEv.gfI (show jfI 84 65 (.getfield 107) 3 [0, 3, 0, 0, 1191] = true by decide +kernel) (isX0_L (isX9_s1 ho1)) (by decide) ?_
    refine jEv.blk [(.imul, 1, []), (.iload 7, 2, []), (.iadd, 1, []), (.iconst 0, 1, [])] (by decide +kernel) (pc' := 73) (ls' := [(2, Int.ofNat o0), (2, Int.ofNat o1), (0, v2), (0, v3), (0, v4), (0, v5), (0, v6), (0, v7), (3, 0), (3, 0)]) (st' := [(0, 0), (0, (wr ((wr ((h o0 0) * (h (o1 + 1) 3))) + v7))), (2, Int.ofNat (o1 + 4))]) rfl ?_
    refine jbind H (fun b6 Hb6 H => ?_)
    refine jEv.calV (st' := []) (show jfI 84 73 (.invokevirtual 115) 3 [1, 25, 2, 5203] = true by decide +kernel) rfl (Or.inl rfl) rfl (Nat.le_of_ble_eq_true rfl) (by decide +kernel) (by decide) (isX1_L (isX9_s2 ho1)) ((t_Fl_add (T := T) (xs := xs) (isX9_s2 ho1) Hb6).mono (jKle 1 hd)) rfl ?_
    refine jEv.blk [(.iinc 7 1, 3, [])] (by decide +kernel) (pc' := 79) (ls' := [(2, Int.ofNat o0), (2, Int.ofNat o1), (0, v2), (0, v3), (0, v4), (0, v5), (0, v6), (0, (wr (v7 + 1))), (3, 0), (3, 0)]) (st' := []) rfl ?_
    refine jEv.goto (t := 46) (show jfI 84 79 (.goto (-33)) 3 [] = true by decide +kernel) rfl ?_
    exact (by cases H; exact HY)
  · refine jmapr H HY (fun out H (HY : yk_Pe_writeRecord_L15 T xs d y o0 o1 v2 v3 out) => ?_)
    refine jEv.blk [(.aload_n 0, 1, []), (.iload 6, 2, [])] (by decide +kernel) (pc' := 85) (ls' := [(2, Int.ofNat o0), (2, Int.ofNat o1), (0, v2), (0, v3), (0, v4), (0, v5), (0, v6), (0, v7), (3, 0), (3, 0)]) (st' := [(0, v6), (2, Int.ofNat o0)]) rfl ?_
    refine jEv.pfI (show jfI 84 85 (.putfield 23) 3 [5, 1, 0, 0, 2139] = true by decide +kernel) (isX5_L ho0) (by decide) ?_
    refine jEv.blk [(.aload_n 1, 1, [])] (by decide +kernel) (pc' := 89) (ls' := [(2, Int.ofNat o0), (2, Int.ofNat o1), (0, v2), (0, v3), (0, v4), (0, v5), (0, v6), (0, v7), (3, 0), (3, 0)]) (st' := [(2, Int.ofNat o1)]) rfl ?_
    refine jEv.gfR (o' := (o1 + 1)) (show jfI 84 89 (.getfield 47) 3 [9, 1, 5, 0, 2066] = true by decide +kernel) (isX9_L ho1) (by decide) (isX9_r1 ho1) ?_
    refine jEv.blk [(.aload_n 0, 1, [])] (by decide +kernel) (pc' := 93) (ls' := [(2, Int.ofNat o0), (2, Int.ofNat o1), (0, v2), (0, v3), (0, v4), (0, v5), (0, v6), (0, v7), (3, 0), (3, 0)]) (st' := [(2, Int.ofNat o0), (2, Int.ofNat (o1 + 1))]) rfl ?_
    refine jEv.gfI (show jfI 84 93 (.getfield 23) 3 [5, 1, 0, 0, 2139] = true by decide +kernel) (isX5_L ho0) (by decide) ?_
    refine jEv.blk [(.iload_n 3, 1, []), (.iload 4, 2, []), (.isub, 1, [])] (by decide +kernel) (pc' := 100) (ls' := [(2, Int.ofNat o0), (2, Int.ofNat o1), (0, v2), (0, v3), (0, v4), (0, v5), (0, v6), (0, v7), (3, 0), (3, 0)]) (st' := [(0, (wr (v3 - v4))), (0, ((jup h o0 1 v6) o0 1)), (2, Int.ofNat (o1 + 1))]) rfl ?_
    refine jbind H (fun b7 Hb7 H => ?_)
    refine jEv.calV (st' := [(0, b7)]) (show jfI 84 100 (.invokevirtual 129) 3 [1, 16, 2, 5213] = true by decide +kernel) rfl (Or.inl rfl) rfl (Nat.le_of_ble_eq_true rfl) (by decide +kernel) (by decide) (isX0_L (isX9_s1 ho1)) ((t_Di_frameLength (T := T) (xs := xs) (isX9_s1 ho1) Hb7).mono (jKle 2 hd)) rfl ?_
    refine jEv.blk [(.istore 7, 2, []), (.iload 4, 2, []), (.iload 7, 2, []), (.iadd, 1, []), (.iload_n 3, 1, [])] (by decide +kernel) (pc' := 111) (ls' := [(2, Int.ofNat o0), (2, Int.ofNat o1), (0, v2), (0, v3), (0, v4), (0, v5), (0, v6), (0, b7), (3, 0), (3, 0)]) (st' := [(0, v3), (0, (wr (v4 + b7)))]) rfl ?_
    refine jEv.ic_ne (t := 118) (show jfI 84 111 (.if_icmp .ne 7) 3 [] = true by decide +kernel) rfl H (fun c8 H => ?_) (fun c8 H => ?_)
    · refine jEv.blk [(.iconst 1, 1, [])] (by decide +kernel) (pc' := 115) (ls' := [(2, Int.ofNat o0), (2, Int.ofNat o1), (0, v2), (0, v3), (0, v4), (0, v5), (0, v6), (0, b7), (3, 0), (3, 0)]) (st' := [(0, 1)]) rfl ?_
      refine jEv.goto (t := 119) (show jfI 84 115 (.goto 4) 3 [] = true by decide +kernel) rfl ?_
      exact jEv.weak (a := [(2, Int.ofNat o0), (2, Int.ofNat o1), (0, v2), (0, v3), (0, v4), (0, v5), (3, 0), (0, b7), (3, 0), (3, 0)]) (jles.c1 (jles.c1 (jles.c1 (jles.c1 (jles.c1 (jles.c1 (jles.c0 (jles.c1 (jles.c0 (jles.c0 jles.nl)))))))))) (t_Pe_writeRecord_p119 (T := T) (xs := xs) (y := y) hd ho0 ho1 H HY)
    · refine jEv.blk [(.iconst 0, 1, [])] (by decide +kernel) (pc' := 119) (ls' := [(2, Int.ofNat o0), (2, Int.ofNat o1), (0, v2), (0, v3), (0, v4), (0, v5), (0, v6), (0, b7), (3, 0), (3, 0)]) (st' := [(0, 0)]) rfl ?_
      exact jEv.weak (a := [(2, Int.ofNat o0), (2, Int.ofNat o1), (0, v2), (0, v3), (0, v4), (0, v5), (3, 0), (0, b7), (3, 0), (3, 0)]) (jles.c1 (jles.c1 (jles.c1 (jles.c1 (jles.c1 (jles.c1 (jles.c0 (jles.c1 (jles.c0 (jles.c0 jles.nl)))))))))) (t_Pe_writeRecord_p119 (T := T) (xs := xs) (y := y) hd ho0 ho1 H HY)
theorem t_Pe_writeRecord_L46 {T : jT} {xs : List Int} {d : Nat} {y : jV × jS} (hd : 2 ≤ d) {h : jH}  {o0 : Nat} {o1 : Nat} {v2 : Int} {v3 : Int} {v4 : Int} {v5 : Int} {v6 : Int} {v7 : Int} {out : ((Int × Int × jH) ⊕ jH)} (ho0 : isX5 T o0) (ho1 : isX9 T o1) (H : Pe_writeRecord_L46 h o0 o1 v2 v3 v4 v5 v6 v7 = some out) (HY : yk_Pe_writeRecord_L15 T xs d y o0 o1 v2 v3 out) : jEv xs d (84, 46, [(2, Int.ofNat o0), (2, Int.ofNat o1), (0, v2), (0, v3), (0, v4), (0, v5), (0, v6), (0, v7), (3, 0), (3, 0)], []) (T, h) y :=
  jloop_sound (G := fun s : (Int × jH) => jEv xs d (84, 46, [(2, Int.ofNat o0), (2, Int.ofNat o1), (0, v2), (0, v3), (0, v4), (0, v5), (0, v6), (0, s.1), (3, 0), (3, 0)], []) (T, s.2) y) (K := yk_Pe_writeRecord_L46 T xs d y o0 o1 v2 v3 v4 v5 v6) (fun s out H HY => t_Pe_writeRecord_B46 hd ho0 ho1 H HY) (fun s' hg => hg) (s := (v7, h)) H HY
set_option maxRecDepth 20000 in
noncomputable def Pe_writeRecord_B15  (h : jH) (o0 : Nat) (o1 : Nat) (v2 : Int) (v3 : Int) (v4 : Int) (v5 : Int) : Option ((Int × Int × jH) ⊕ jH) := (if v4 < v3 then (if 4 < v5 then Option.map Sum.inr (some h) else Option.bind (Di_frameStart h (o1 + 1) (h o0 1)) (fun b4 => Pe_writeRecord_L46 h o0 o1 v2 v3 v4 v5 b4 (h o0 1))) else Option.map Sum.inr (some h))
noncomputable def Pe_writeRecord_L15  (h : jH) (o0 : Nat) (o1 : Nat) (v2 : Int) (v3 : Int) (v4 : Int) (v5 : Int) : Option jH := jloop (fun s : (Int × Int × jH) => Pe_writeRecord_B15 s.2.2 o0 o1 v2 v3 s.1 s.2.1) (v4, v5, h)
set_option maxRecDepth 20000 in
theorem t_Pe_writeRecord_B15 {T : jT} {xs : List Int} {d : Nat} {y : jV × jS} (hd : 2 ≤ d) {h : jH}  {o0 : Nat} {o1 : Nat} {v2 : Int} {v3 : Int} {v4 : Int} {v5 : Int} {out : ((Int × Int × jH) ⊕ jH)} (ho0 : isX5 T o0) (ho1 : isX9 T o1) (H : Pe_writeRecord_B15 h o0 o1 v2 v3 v4 v5 = some out) (HY : yk_Pe_writeRecord_L15 T xs d y o0 o1 v2 v3 out) : jEv xs d (84, 15, [(2, Int.ofNat o0), (2, Int.ofNat o1), (0, v2), (0, v3), (0, v4), (0, v5), (3, 0), (3, 0), (3, 0), (3, 0)], []) (T, h) y := by
  unfold Pe_writeRecord_B15 at H
  refine jEv.blk [(.iload 4, 2, []), (.iload_n 3, 1, [])] (by decide +kernel) (pc' := 18) (ls' := [(2, Int.ofNat o0), (2, Int.ofNat o1), (0, v2), (0, v3), (0, v4), (0, v5), (3, 0), (3, 0), (3, 0), (3, 0)]) (st' := [(0, v3), (0, v4)]) rfl ?_
  refine jEv.ic_ge (t := 189) (show jfI 84 18 (.if_icmp .ge 171) 3 [] = true by decide +kernel) rfl H (fun c2 H => ?_) (fun c2 H => ?_)
  · refine jEv.blk [(.iload 5, 2, []), (.iconst 4, 1, [])] (by decide +kernel) (pc' := 24) (ls' := [(2, Int.ofNat o0), (2, Int.ofNat o1), (0, v2), (0, v3), (0, v4), (0, v5), (3, 0), (3, 0), (3, 0), (3, 0)]) (st' := [(0, 4), (0, v5)]) rfl ?_
    refine jEv.ic_gt (t := 189) (show jfI 84 24 (.if_icmp .gt 165) 3 [] = true by decide +kernel) rfl H (fun c3 H => ?_) (fun c3 H => ?_)
    · refine jmapr H HY (fun out H (HY : ykV T y out) => ?_)
      exact jEv.retV (show jfI 84 189 (.return_) 1 [] = true by decide +kernel) (by decide +kernel) (by cases H; exact HY)
    · refine jEv.blk [(.aload_n 1, 1, [])] (by decide +kernel) (pc' := 28) (ls' := [(2, Int.ofNat o0), (2, Int.ofNat o1), (0, v2), (0, v3), (0, v4), (0, v5), (3, 0), (3, 0), (3, 0), (3, 0)]) (st' := [(2, Int.ofNat o1)]) rfl ?_
      refine jEv.gfR (o' := (o1 + 1)) (show jfI 84 28 (.getfield 47) 3 [9, 1, 5, 0, 2066] = true by decide +kernel) (isX9_L ho1) (by decide) (isX9_r1 ho1) ?_
      refine jEv.blk [(.aload_n 0, 1, [])] (by decide +kernel) (pc' := 32) (ls' := [(2, Int.ofNat o0), (2, Int.ofNat o1), (0, v2), (0, v3), (0, v4), (0, v5), (3, 0), (3, 0), (3, 0), (3, 0)]) (st' := [(2, Int.ofNat o0), (2, Int.ofNat (o1 + 1))]) rfl ?_
      refine jEv.gfI (show jfI 84 32 (.getfield 23) 3 [5, 1, 0, 0, 2139] = true by decide +kernel) (isX5_L ho0) (by decide) ?_
      refine jbind H (fun b4 Hb4 H => ?_)
      refine jEv.calV (st' := [(0, b4)]) (show jfI 84 35 (.invokevirtual 126) 3 [1, 12, 1, 5212] = true by decide +kernel) rfl (Or.inl rfl) rfl (Nat.le_of_ble_eq_true rfl) (by decide +kernel) (by decide) (isX0_L (isX9_s1 ho1)) ((t_Di_frameStart (T := T) (xs := xs) (isX9_s1 ho1) Hb4).mono (jKle 2 hd)) rfl ?_
      refine jEv.blk [(.istore 6, 2, []), (.aload_n 0, 1, [])] (by decide +kernel) (pc' := 41) (ls' := [(2, Int.ofNat o0), (2, Int.ofNat o1), (0, v2), (0, v3), (0, v4), (0, v5), (0, b4), (3, 0), (3, 0), (3, 0)]) (st' := [(2, Int.ofNat o0)]) rfl ?_
      refine jEv.gfI (show jfI 84 41 (.getfield 23) 3 [5, 1, 0, 0, 2139] = true by decide +kernel) (isX5_L ho0) (by decide) ?_
      refine jEv.blk [(.istore 7, 2, [])] (by decide +kernel) (pc' := 46) (ls' := [(2, Int.ofNat o0), (2, Int.ofNat o1), (0, v2), (0, v3), (0, v4), (0, v5), (0, b4), (0, (h o0 1)), (3, 0), (3, 0)]) (st' := []) rfl ?_
      exact t_Pe_writeRecord_L46 (T := T) (xs := xs) (y := y) hd ho0 ho1 H HY
  · refine jmapr H HY (fun out H (HY : ykV T y out) => ?_)
    exact jEv.retV (show jfI 84 189 (.return_) 1 [] = true by decide +kernel) (by decide +kernel) (by cases H; exact HY)
theorem t_Pe_writeRecord_L15 {T : jT} {xs : List Int} {d : Nat} {y : jV × jS} (hd : 2 ≤ d) {h : jH}  {o0 : Nat} {o1 : Nat} {v2 : Int} {v3 : Int} {v4 : Int} {v5 : Int} {out : jH} (ho0 : isX5 T o0) (ho1 : isX9 T o1) (H : Pe_writeRecord_L15 h o0 o1 v2 v3 v4 v5 = some out) (HY : ykV T y out) : jEv xs d (84, 15, [(2, Int.ofNat o0), (2, Int.ofNat o1), (0, v2), (0, v3), (0, v4), (0, v5), (3, 0), (3, 0), (3, 0), (3, 0)], []) (T, h) y :=
  jloop_sound (G := fun s : (Int × Int × jH) => jEv xs d (84, 15, [(2, Int.ofNat o0), (2, Int.ofNat o1), (0, v2), (0, v3), (0, s.1), (0, s.2.1), (3, 0), (3, 0), (3, 0), (3, 0)], []) (T, s.2.2) y) (K := yk_Pe_writeRecord_L15 T xs d y o0 o1 v2 v3) (fun s out H HY => t_Pe_writeRecord_B15 hd ho0 ho1 H HY) (fun s' hg => hg) (s := (v4, v5, h)) H HY
set_option maxRecDepth 20000 in
noncomputable def Pe_writeRecord  (h : jH) (o0 : Nat) (o1 : Nat) (v2 : Int) : Option jH := Option.bind (Qu_payloadAt h (o1 + 7) v2) (fun b1 => Pe_writeRecord_L15 h o0 o1 v2 b1 0 0)
set_option maxRecDepth 20000 in
theorem t_Pe_writeRecord {T : jT} {xs : List Int} {h : jH}  {o0 : Nat} {o1 : Nat} {v2 : Int} {out : jH} (ho0 : isX5 T o0) (ho1 : isX9 T o1) (H : Pe_writeRecord h o0 o1 v2 = some out) : jEm xs 3 84 [(2, Int.ofNat o0), (2, Int.ofNat o1), (0, v2)] (T, h) ((3, 0), (T, out)) := by
  have hd : 2 ≤ 2 := Nat.le_refl _
  obtain ⟨y, ey⟩ : ∃ y : jV × jS, y = ((3, 0), (T, out)) := ⟨_, rfl⟩
  rw [← ey]
  have HY : ykV T y out := ey
  refine jEm.ent (n := 10) (by decide +kernel) (Nat.le_of_ble_eq_true rfl) ?_
  show jEv xs 2 (84, 0, [(2, Int.ofNat o0), (2, Int.ofNat o1), (0, v2), (3, 0), (3, 0), (3, 0), (3, 0), (3, 0), (3, 0), (3, 0)], []) (T, h) y
  unfold Pe_writeRecord at H
  refine jEv.blk [(.aload_n 1, 1, [])] (by decide +kernel) (pc' := 1) (ls' := [(2, Int.ofNat o0), (2, Int.ofNat o1), (0, v2), (3, 0), (3, 0), (3, 0), (3, 0), (3, 0), (3, 0), (3, 0)]) (st' := [(2, Int.ofNat o1)]) rfl ?_
  refine jEv.gfR (o' := (o1 + 7)) (show jfI 84 1 (.getfield 57) 3 [9, 3, 5, 0, 2072] = true by decide +kernel) (isX9_L ho1) (by decide) (isX9_r3 ho1) ?_
  refine jEv.blk [(.iload_n 2, 1, [])] (by decide +kernel) (pc' := 5) (ls' := [(2, Int.ofNat o0), (2, Int.ofNat o1), (0, v2), (3, 0), (3, 0), (3, 0), (3, 0), (3, 0), (3, 0), (3, 0)]) (st' := [(0, v2), (2, Int.ofNat (o1 + 7))]) rfl ?_
  refine jbind H (fun b1 Hb1 H => ?_)
  refine jEv.calV (st' := [(0, b1)]) (show jfI 84 5 (.invokevirtual 66) 3 [1, 99, 1, 5184] = true by decide +kernel) rfl (Or.inl rfl) rfl (Nat.le_of_ble_eq_true rfl) (by decide +kernel) (by decide) (isX7_L (isX9_s3 ho1)) ((t_Qu_payloadAt (T := T) (xs := xs) (isX9_s3 ho1) Hb1).mono (jKle 2 hd)) rfl ?_
  refine jEv.blk [(.istore_n 3, 1, []), (.iconst 0, 1, []), (.istore 4, 2, []), (.iconst 0, 1, []), (.istore 5, 2, [])] (by decide +kernel) (pc' := 15) (ls' := [(2, Int.ofNat o0), (2, Int.ofNat o1), (0, v2), (0, b1), (0, 0), (0, 0), (3, 0), (3, 0), (3, 0), (3, 0)]) (st' := []) rfl ?_
  exact t_Pe_writeRecord_L15 (T := T) (xs := xs) (y := y) hd ho0 ho1 H HY
