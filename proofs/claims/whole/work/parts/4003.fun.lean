/-! methods as functions -/
abbrev jRec : Type := (jH → Nat → Option (Int × jH)) × (jH → Nat → Option (Int × jH)) × (jH → Nat → Option (Int × jH)) × (jH → Nat → Int → Option (Int × jH)) × (jH → Nat → Option (Int × jH)) × (jH → Nat → Option (Int × jH)) × (jH → Nat → Option (Int × jH)) × (jH → Nat → Int → Option (Int × jH)) × (jH → Nat → Int → Int → Option (Int × jH))
def jRecOK (T : jT) (xs : List Int) (d : Nat) (rec : jRec) : Prop := (∀ {h : jH} {o0 : Nat} {out : Int × jH}, isX4 T o0 →  rec.1 h o0 = some out → jEm xs d 63 [(2, Int.ofNat o0)] (T, h) ((0, out.1), (T, out.2))) ∧ (∀ {h : jH} {o0 : Nat} {out : Int × jH}, isX4 T o0 →  rec.2.1 h o0 = some out → jEm xs d 64 [(2, Int.ofNat o0)] (T, h) ((0, out.1), (T, out.2))) ∧ (∀ {h : jH} {o0 : Nat} {out : Int × jH}, isX4 T o0 →  rec.2.2.1 h o0 = some out → jEm xs d 65 [(2, Int.ofNat o0)] (T, h) ((0, out.1), (T, out.2))) ∧ (∀ {h : jH} {o0 : Nat} {v1 : Int} {out : Int × jH}, isX4 T o0 →  rec.2.2.2.1 h o0 v1 = some out → jEm xs d 66 [(2, Int.ofNat o0), (0, v1)] (T, h) ((0, out.1), (T, out.2))) ∧ (∀ {h : jH} {o0 : Nat} {out : Int × jH}, isX4 T o0 →  rec.2.2.2.2.1 h o0 = some out → jEm xs d 69 [(2, Int.ofNat o0)] (T, h) ((0, out.1), (T, out.2))) ∧ (∀ {h : jH} {o0 : Nat} {out : Int × jH}, isX4 T o0 →  rec.2.2.2.2.2.1 h o0 = some out → jEm xs d 70 [(2, Int.ofNat o0)] (T, h) ((0, out.1), (T, out.2))) ∧ (∀ {h : jH} {o0 : Nat} {out : Int × jH}, isX4 T o0 →  rec.2.2.2.2.2.2.1 h o0 = some out → jEm xs d 71 [(2, Int.ofNat o0)] (T, h) ((0, out.1), (T, out.2))) ∧ (∀ {h : jH} {o0 : Nat} {v1 : Int} {out : Int × jH}, isX4 T o0 →  rec.2.2.2.2.2.2.2.1 h o0 v1 = some out → jEm xs d 72 [(2, Int.ofNat o0), (0, v1)] (T, h) ((0, out.1), (T, out.2))) ∧ (∀ {h : jH} {o0 : Nat} {v1 : Int} {v2 : Int} {out : Int × jH}, isX4 T o0 →  rec.2.2.2.2.2.2.2.2 h o0 v1 v2 = some out → jEm xs d 73 [(2, Int.ofNat o0), (0, v1), (0, v2)] (T, h) ((0, out.1), (T, out.2)))
def yk_Pa_test_L7 (T : jT) (xs : List Int) (d : Nat) (y : jV × jS)  (o0 : Nat) : ((Int × Int × jH) ⊕ (Int × jH)) → Prop
  | .inl (v1, v2, h) => jEv xs d (63, 7, [(2, Int.ofNat o0), (0, v1), (0, v2)], []) (T, h) y
  | .inr o => ykI T y o
set_option maxRecDepth 20000 in
noncomputable def Pa_test_B7 (T : jT) (rec : jRec) (h : jH) (o0 : Nat) (v1 : Int) (v2 : Int) : Option ((Int × Int × jH) ⊕ (Int × jH)) := (if v2 < 1600 then (if v1 = 0 then Option.map Sum.inr ((if v1 = 0 ∨ v1 = 1 then some (v1, h) else none)) else Option.bind (Pa_word T h o0 [111, 114]) (fun b5 => (if b5.1 = 0 then Option.map Sum.inr ((if v1 = 0 ∨ v1 = 1 then some (v1, b5.2) else none)) else Option.bind (rec.2.1 b5.2 o0) (fun b8 => Option.bind (jdyn (isX2 T) (b8.2 o0 9)) (fun q9 => Option.bind (Fo_emit b8.2 q9 30000) (fun b10 => some (.inl (b8.1, (wr (v2 + 1)), b10)))))))) else Option.map Sum.inr ((if v1 = 0 ∨ v1 = 1 then some (v1, h) else none)))
noncomputable def Pa_test_L7 (T : jT) (rec : jRec) (h : jH) (o0 : Nat) (v1 : Int) (v2 : Int) : Option (Int × jH) := jloop (fun s : (Int × Int × jH) => Pa_test_B7 T rec s.2.2 o0 s.1 s.2.1) (v1, v2, h)
set_option maxRecDepth 20000 in
theorem t_Pa_test_B7 {T : jT} {xs : List Int} {d : Nat} {y : jV × jS} {rec : jRec} (hd : 6 ≤ d) (hrec : jRecOK T xs d rec) {h : jH}  {o0 : Nat} {v1 : Int} {v2 : Int} {out : ((Int × Int × jH) ⊕ (Int × jH))} (ho0 : isX4 T o0) (H : Pa_test_B7 T rec h o0 v1 v2 = some out) (HY : yk_Pa_test_L7 T xs d y o0 out) : jEv xs d (63, 7, [(2, Int.ofNat o0), (0, v1), (0, v2)], []) (T, h) y := by
  unfold Pa_test_B7 at H
  refine jEv.blk [(.iload_n 2, 1, []), (.sipush 1600, 3, [])] (by decide +kernel) (pc' := 11) (ls' := [(2, Int.ofNat o0), (0, v1), (0, v2)]) (st' := [(0, 1600), (0, v2)]) rfl ?_
  refine jEv.ic_ge (t := 48) (show jfI 63 11 (.if_icmp .ge 37) 3 [] = true by decide +kernel) rfl H (fun c2 H => ?_) (fun c2 H => ?_)
  · refine jEv.blk [(.iload_n 1, 1, [])] (by decide +kernel) (pc' := 15) (ls' := [(2, Int.ofNat o0), (0, v1), (0, v2)]) (st' := [(0, v1)]) rfl ?_
    refine jEv.if_eq (t := 48) (show jfI 63 15 (.ifCond .eq 33) 3 [] = true by decide +kernel) rfl H (fun c3 H => ?_) (fun c3 H => ?_)
    · refine jmapr H HY (fun out H (HY : ykI T y out) => ?_)
      refine jEv.blk [(.iload_n 1, 1, [])] (by decide +kernel) (pc' := 49) (ls' := [(2, Int.ofNat o0), (0, v1), (0, v2)]) (st' := [(0, v1)]) rfl ?_
      refine jchk H (fun c4 H => ?_)
      exact jEv.retZ (show jfI 63 49 (.ireturn) 1 [] = true by decide +kernel) (by decide +kernel) c4 (by cases H; exact HY)
    · refine jEv.blk [(.aload_n 0, 1, []), (.ldc 193, 2, [4, 29, 0, 4064])] (by decide +kernel) (pc' := 21) (ls' := [(2, Int.ofNat o0), (0, v1), (0, v2)]) (st' := [(4, 29), (2, Int.ofNat o0)]) rfl ?_
      refine jbind H (fun b5 Hb5 H => ?_)
      refine jEv.calV (st' := [(0, b5.1)]) (show jfI 63 21 (.invokevirtual 114) 3 [1, 52, 1, 3133] = true by decide +kernel) rfl (Or.inl rfl) rfl (Nat.le_of_ble_eq_true rfl) (by decide +kernel) (by decide) (isX4_L ho0) ((t_Pa_word (T := T) (xs := xs) ho0 (jIsS_29) Hb5).mono (jKle 5 hd)) rfl ?_
      refine jEv.if_eq (t := 48) (show jfI 63 24 (.ifCond .eq 24) 3 [] = true by decide +kernel) rfl H (fun c6 H => ?_) (fun c6 H => ?_)
      · refine jmapr H HY (fun out H (HY : ykI T y out) => ?_)
        refine jEv.blk [(.iload_n 1, 1, [])] (by decide +kernel) (pc' := 49) (ls' := [(2, Int.ofNat o0), (0, v1), (0, v2)]) (st' := [(0, v1)]) rfl ?_
        refine jchk H (fun c7 H => ?_)
        exact jEv.retZ (show jfI 63 49 (.ireturn) 1 [] = true by decide +kernel) (by decide +kernel) c7 (by cases H; exact HY)
      · refine jEv.blk [(.aload_n 0, 1, [])] (by decide +kernel) (pc' := 28) (ls' := [(2, Int.ofNat o0), (0, v1), (0, v2)]) (st' := [(2, Int.ofNat o0)]) rfl ?_
        refine jbind H (fun b8 Hb8 H => ?_)
        refine jEv.calV (st' := [(0, b8.1)]) (show jfI 63 28 (.invokevirtual 190) 3 [1, 64, 0, 4003] = true by decide +kernel) rfl (Or.inl rfl) rfl (Nat.le_of_ble_eq_true rfl) (by decide +kernel) (by decide) (isX4_L ho0) (hrec.2.1 ho0 Hb8) rfl ?_
        refine jEv.blk [(.istore_n 1, 1, []), (.aload_n 0, 1, [])] (by decide +kernel) (pc' := 33) (ls' := [(2, Int.ofNat o0), (0, b8.1), (0, v2)]) (st' := [(2, Int.ofNat o0)]) rfl ?_
        refine jEv.gfD (show jfI 63 33 (.getfield 33) 3 [4, 9, 2, 0, 1140] = true by decide +kernel) (isX4_L ho0) (by decide) H (fun q9 hq9 H => ?_)
        refine jEv.blk [(.sipush 30000, 3, [])] (by decide +kernel) (pc' := 39) (ls' := [(2, Int.ofNat o0), (0, b8.1), (0, v2)]) (st' := [(0, 30000), (2, Int.ofNat q9)]) rfl ?_
        refine jbind H (fun b10 Hb10 H => ?_)
        refine jEv.calV (st' := []) (show jfI 63 39 (.invokevirtual 195) 3 [1, 28, 1, 4024] = true by decide +kernel) rfl (Or.inl rfl) rfl (Nat.le_of_ble_eq_true rfl) (by decide +kernel) (by decide) (isX2_L hq9) ((t_Fo_emit (T := T) (xs := xs) hq9 Hb10).mono (jKle 2 hd)) rfl ?_
        refine jEv.blk [(.iinc 2 1, 3, [])] (by decide +kernel) (pc' := 45) (ls' := [(2, Int.ofNat o0), (0, b8.1), (0, (wr (v2 + 1)))]) (st' := []) rfl ?_
        refine jEv.goto (t := 7) (show jfI 63 45 (.goto (-38)) 3 [] = true by decide +kernel) rfl ?_
        exact (by cases H; exact HY)
  · refine jmapr H HY (fun out H (HY : ykI T y out) => ?_)
    refine jEv.blk [(.iload_n 1, 1, [])] (by decide +kernel) (pc' := 49) (ls' := [(2, Int.ofNat o0), (0, v1), (0, v2)]) (st' := [(0, v1)]) rfl ?_
    refine jchk H (fun c11 H => ?_)
    exact jEv.retZ (show jfI 63 49 (.ireturn) 1 [] = true by decide +kernel) (by decide +kernel) c11 (by cases H; exact HY)
theorem t_Pa_test_L7 {T : jT} {xs : List Int} {d : Nat} {y : jV × jS} {rec : jRec} (hd : 6 ≤ d) (hrec : jRecOK T xs d rec) {h : jH}  {o0 : Nat} {v1 : Int} {v2 : Int} {out : (Int × jH)} (ho0 : isX4 T o0) (H : Pa_test_L7 T rec h o0 v1 v2 = some out) (HY : ykI T y out) : jEv xs d (63, 7, [(2, Int.ofNat o0), (0, v1), (0, v2)], []) (T, h) y :=
  jloop_sound (G := fun s : (Int × Int × jH) => jEv xs d (63, 7, [(2, Int.ofNat o0), (0, s.1), (0, s.2.1)], []) (T, s.2.2) y) (K := yk_Pa_test_L7 T xs d y o0) (fun s out H HY => t_Pa_test_B7 hd hrec ho0 H HY) (fun s' hg => hg) (s := (v1, v2, h)) H HY
set_option maxRecDepth 20000 in
noncomputable def Pa_test_b (T : jT) (rec : jRec) (h : jH) (o0 : Nat) : Option (Int × jH) := Option.bind (rec.2.1 h o0) (fun b1 => Pa_test_L7 T rec b1.2 o0 b1.1 0)
set_option maxRecDepth 20000 in
theorem t_Pa_test_b {T : jT} {xs : List Int} {d : Nat} {rec : jRec} (hd : 6 ≤ d) (hrec : jRecOK T xs d rec) {h : jH}  {o0 : Nat} {out : (Int × jH)} (ho0 : isX4 T o0) (H : Pa_test_b T rec h o0 = some out) : jEm xs (d + 1) 63 [(2, Int.ofNat o0)] (T, h) ((0, out.1), (T, out.2)) := by
  obtain ⟨y, ey⟩ : ∃ y : jV × jS, y = ((0, out.1), (T, out.2)) := ⟨_, rfl⟩
  rw [← ey]
  have HY : ykI T y out := ey
  refine jEm.ent (n := 3) (by decide +kernel) (Nat.le_of_ble_eq_true rfl) ?_
  show jEv xs d (63, 0, [(2, Int.ofNat o0), (3, 0), (3, 0)], []) (T, h) y
  unfold Pa_test_b at H
  refine jEv.blk [(.aload_n 0, 1, [])] (by decide +kernel) (pc' := 1) (ls' := [(2, Int.ofNat o0), (3, 0), (3, 0)]) (st' := [(2, Int.ofNat o0)]) rfl ?_
  refine jbind H (fun b1 Hb1 H => ?_)
  refine jEv.calV (st' := [(0, b1.1)]) (show jfI 63 1 (.invokevirtual 190) 3 [1, 64, 0, 4003] = true by decide +kernel) rfl (Or.inl rfl) rfl (Nat.le_of_ble_eq_true rfl) (by decide +kernel) (by decide) (isX4_L ho0) (hrec.2.1 ho0 Hb1) rfl ?_
  refine jEv.blk [(.istore_n 1, 1, []), (.iconst 0, 1, []), (.istore_n 2, 1, [])] (by decide +kernel) (pc' := 7) (ls' := [(2, Int.ofNat o0), (0, b1.1), (0, 0)]) (st' := []) rfl ?_
  exact t_Pa_test_L7 (T := T) (xs := xs) (y := y) hd hrec ho0 H HY
def yk_Pa_both_L7 (T : jT) (xs : List Int) (d : Nat) (y : jV × jS)  (o0 : Nat) : ((Int × Int × jH) ⊕ (Int × jH)) → Prop
  | .inl (v1, v2, h) => jEv xs d (64, 7, [(2, Int.ofNat o0), (0, v1), (0, v2)], []) (T, h) y
  | .inr o => ykI T y o
set_option maxRecDepth 20000 in
noncomputable def Pa_both_B7 (T : jT) (rec : jRec) (h : jH) (o0 : Nat) (v1 : Int) (v2 : Int) : Option ((Int × Int × jH) ⊕ (Int × jH)) := (if v2 < 1600 then (if v1 = 0 then Option.map Sum.inr ((if v1 = 0 ∨ v1 = 1 then some (v1, h) else none)) else Option.bind (Pa_word T h o0 [97, 110, 100]) (fun b5 => (if b5.1 = 0 then Option.map Sum.inr ((if v1 = 0 ∨ v1 = 1 then some (v1, b5.2) else none)) else Option.bind (rec.2.2.1 b5.2 o0) (fun b8 => Option.bind (jdyn (isX2 T) (b8.2 o0 9)) (fun q9 => Option.bind (Fo_emit b8.2 q9 30001) (fun b10 => some (.inl (b8.1, (wr (v2 + 1)), b10)))))))) else Option.map Sum.inr ((if v1 = 0 ∨ v1 = 1 then some (v1, h) else none)))
noncomputable def Pa_both_L7 (T : jT) (rec : jRec) (h : jH) (o0 : Nat) (v1 : Int) (v2 : Int) : Option (Int × jH) := jloop (fun s : (Int × Int × jH) => Pa_both_B7 T rec s.2.2 o0 s.1 s.2.1) (v1, v2, h)
set_option maxRecDepth 20000 in
theorem t_Pa_both_B7 {T : jT} {xs : List Int} {d : Nat} {y : jV × jS} {rec : jRec} (hd : 6 ≤ d) (hrec : jRecOK T xs d rec) {h : jH}  {o0 : Nat} {v1 : Int} {v2 : Int} {out : ((Int × Int × jH) ⊕ (Int × jH))} (ho0 : isX4 T o0) (H : Pa_both_B7 T rec h o0 v1 v2 = some out) (HY : yk_Pa_both_L7 T xs d y o0 out) : jEv xs d (64, 7, [(2, Int.ofNat o0), (0, v1), (0, v2)], []) (T, h) y := by
  unfold Pa_both_B7 at H
  refine jEv.blk [(.iload_n 2, 1, []), (.sipush 1600, 3, [])] (by decide +kernel) (pc' := 11) (ls' := [(2, Int.ofNat o0), (0, v1), (0, v2)]) (st' := [(0, 1600), (0, v2)]) rfl ?_
  refine jEv.ic_ge (t := 48) (show jfI 64 11 (.if_icmp .ge 37) 3 [] = true by decide +kernel) rfl H (fun c2 H => ?_) (fun c2 H => ?_)
  · refine jEv.blk [(.iload_n 1, 1, [])] (by decide +kernel) (pc' := 15) (ls' := [(2, Int.ofNat o0), (0, v1), (0, v2)]) (st' := [(0, v1)]) rfl ?_
    refine jEv.if_eq (t := 48) (show jfI 64 15 (.ifCond .eq 33) 3 [] = true by decide +kernel) rfl H (fun c3 H => ?_) (fun c3 H => ?_)
    · refine jmapr H HY (fun out H (HY : ykI T y out) => ?_)
      refine jEv.blk [(.iload_n 1, 1, [])] (by decide +kernel) (pc' := 49) (ls' := [(2, Int.ofNat o0), (0, v1), (0, v2)]) (st' := [(0, v1)]) rfl ?_
      refine jchk H (fun c4 H => ?_)
      exact jEv.retZ (show jfI 64 49 (.ireturn) 1 [] = true by decide +kernel) (by decide +kernel) c4 (by cases H; exact HY)
    · refine jEv.blk [(.aload_n 0, 1, []), (.ldc 202, 2, [4, 12, 0, 4063])] (by decide +kernel) (pc' := 21) (ls' := [(2, Int.ofNat o0), (0, v1), (0, v2)]) (st' := [(4, 12), (2, Int.ofNat o0)]) rfl ?_
      refine jbind H (fun b5 Hb5 H => ?_)
      refine jEv.calV (st' := [(0, b5.1)]) (show jfI 64 21 (.invokevirtual 114) 3 [1, 52, 1, 3133] = true by decide +kernel) rfl (Or.inl rfl) rfl (Nat.le_of_ble_eq_true rfl) (by decide +kernel) (by decide) (isX4_L ho0) ((t_Pa_word (T := T) (xs := xs) ho0 (jIsS_12) Hb5).mono (jKle 5 hd)) rfl ?_
      refine jEv.if_eq (t := 48) (show jfI 64 24 (.ifCond .eq 24) 3 [] = true by decide +kernel) rfl H (fun c6 H => ?_) (fun c6 H => ?_)
      · refine jmapr H HY (fun out H (HY : ykI T y out) => ?_)
        refine jEv.blk [(.iload_n 1, 1, [])] (by decide +kernel) (pc' := 49) (ls' := [(2, Int.ofNat o0), (0, v1), (0, v2)]) (st' := [(0, v1)]) rfl ?_
        refine jchk H (fun c7 H => ?_)
        exact jEv.retZ (show jfI 64 49 (.ireturn) 1 [] = true by decide +kernel) (by decide +kernel) c7 (by cases H; exact HY)
      · refine jEv.blk [(.aload_n 0, 1, [])] (by decide +kernel) (pc' := 28) (ls' := [(2, Int.ofNat o0), (0, v1), (0, v2)]) (st' := [(2, Int.ofNat o0)]) rfl ?_
        refine jbind H (fun b8 Hb8 H => ?_)
        refine jEv.calV (st' := [(0, b8.1)]) (show jfI 64 28 (.invokevirtual 199) 3 [1, 65, 0, 4007] = true by decide +kernel) rfl (Or.inl rfl) rfl (Nat.le_of_ble_eq_true rfl) (by decide +kernel) (by decide) (isX4_L ho0) (hrec.2.2.1 ho0 Hb8) rfl ?_
        refine jEv.blk [(.istore_n 1, 1, []), (.aload_n 0, 1, [])] (by decide +kernel) (pc' := 33) (ls' := [(2, Int.ofNat o0), (0, b8.1), (0, v2)]) (st' := [(2, Int.ofNat o0)]) rfl ?_
        refine jEv.gfD (show jfI 64 33 (.getfield 33) 3 [4, 9, 2, 0, 1140] = true by decide +kernel) (isX4_L ho0) (by decide) H (fun q9 hq9 H => ?_)
        refine jEv.blk [(.sipush 30001, 3, [])] (by decide +kernel) (pc' := 39) (ls' := [(2, Int.ofNat o0), (0, b8.1), (0, v2)]) (st' := [(0, 30001), (2, Int.ofNat q9)]) rfl ?_
        refine jbind H (fun b10 Hb10 H => ?_)
        refine jEv.calV (st' := []) (show jfI 64 39 (.invokevirtual 195) 3 [1, 28, 1, 4024] = true by decide +kernel) rfl (Or.inl rfl) rfl (Nat.le_of_ble_eq_true rfl) (by decide +kernel) (by decide) (isX2_L hq9) ((t_Fo_emit (T := T) (xs := xs) hq9 Hb10).mono (jKle 2 hd)) rfl ?_
        refine jEv.blk [(.iinc 2 1, 3, [])] (by decide +kernel) (pc' := 45) (ls' := [(2, Int.ofNat o0), (0, b8.1), (0, (wr (v2 + 1)))]) (st' := []) rfl ?_
        refine jEv.goto (t := 7) (show jfI 64 45 (.goto (-38)) 3 [] = true by decide +kernel) rfl ?_
        exact (by cases H; exact HY)
  · refine jmapr H HY (fun out H (HY : ykI T y out) => ?_)
    refine jEv.blk [(.iload_n 1, 1, [])] (by decide +kernel) (pc' := 49) (ls' := [(2, Int.ofNat o0), (0, v1), (0, v2)]) (st' := [(0, v1)]) rfl ?_
    refine jchk H (fun c11 H => ?_)
    exact jEv.retZ (show jfI 64 49 (.ireturn) 1 [] = true by decide +kernel) (by decide +kernel) c11 (by cases H; exact HY)
theorem t_Pa_both_L7 {T : jT} {xs : List Int} {d : Nat} {y : jV × jS} {rec : jRec} (hd : 6 ≤ d) (hrec : jRecOK T xs d rec) {h : jH}  {o0 : Nat} {v1 : Int} {v2 : Int} {out : (Int × jH)} (ho0 : isX4 T o0) (H : Pa_both_L7 T rec h o0 v1 v2 = some out) (HY : ykI T y out) : jEv xs d (64, 7, [(2, Int.ofNat o0), (0, v1), (0, v2)], []) (T, h) y :=
  jloop_sound (G := fun s : (Int × Int × jH) => jEv xs d (64, 7, [(2, Int.ofNat o0), (0, s.1), (0, s.2.1)], []) (T, s.2.2) y) (K := yk_Pa_both_L7 T xs d y o0) (fun s out H HY => t_Pa_both_B7 hd hrec ho0 H HY) (fun s' hg => hg) (s := (v1, v2, h)) H HY
set_option maxRecDepth 20000 in
noncomputable def Pa_both_b (T : jT) (rec : jRec) (h : jH) (o0 : Nat) : Option (Int × jH) := Option.bind (rec.2.2.1 h o0) (fun b1 => Pa_both_L7 T rec b1.2 o0 b1.1 0)
set_option maxRecDepth 20000 in
theorem t_Pa_both_b {T : jT} {xs : List Int} {d : Nat} {rec : jRec} (hd : 6 ≤ d) (hrec : jRecOK T xs d rec) {h : jH}  {o0 : Nat} {out : (Int × jH)} (ho0 : isX4 T o0) (H : Pa_both_b T rec h o0 = some out) : jEm xs (d + 1) 64 [(2, Int.ofNat o0)] (T, h) ((0, out.1), (T, out.2)) := by
  obtain ⟨y, ey⟩ : ∃ y : jV × jS, y = ((0, out.1), (T, out.2)) := ⟨_, rfl⟩
  rw [← ey]
  have HY : ykI T y out := ey
  refine jEm.ent (n := 3) (by decide +kernel) (Nat.le_of_ble_eq_true rfl) ?_
  show jEv xs d (64, 0, [(2, Int.ofNat o0), (3, 0), (3, 0)], []) (T, h) y
  unfold Pa_both_b at H
  refine jEv.blk [(.aload_n 0, 1, [])] (by decide +kernel) (pc' := 1) (ls' := [(2, Int.ofNat o0), (3, 0), (3, 0)]) (st' := [(2, Int.ofNat o0)]) rfl ?_
  refine jbind H (fun b1 Hb1 H => ?_)
  refine jEv.calV (st' := [(0, b1.1)]) (show jfI 64 1 (.invokevirtual 199) 3 [1, 65, 0, 4007] = true by decide +kernel) rfl (Or.inl rfl) rfl (Nat.le_of_ble_eq_true rfl) (by decide +kernel) (by decide) (isX4_L ho0) (hrec.2.2.1 ho0 Hb1) rfl ?_
  refine jEv.blk [(.istore_n 1, 1, []), (.iconst 0, 1, []), (.istore_n 2, 1, [])] (by decide +kernel) (pc' := 7) (ls' := [(2, Int.ofNat o0), (0, b1.1), (0, 0)]) (st' := []) rfl ?_
  exact t_Pa_both_L7 (T := T) (xs := xs) (y := y) hd hrec ho0 H HY
set_option maxRecDepth 20000 in
noncomputable def Pa_fact_p178 (T : jT) (rec : jRec) (h : jH) (v3 : Int) (os0 : Nat) (vs1 : Int) : Option (Int × jH) := Option.bind (Fo_emit h os0 vs1) (fun b32 => (if v3 = 0 ∨ v3 = 1 then some (v3, b32) else none))
set_option maxRecDepth 20000 in
theorem t_Pa_fact_p178 {T : jT} {xs : List Int} {d : Nat} {y : jV × jS} {rec : jRec} (hd : 6 ≤ d) (hrec : jRecOK T xs d rec) {h : jH}  {v3 : Int} {os0 : Nat} {vs1 : Int} {out : (Int × jH)} (hos0 : isX2 T os0) (H : Pa_fact_p178 T rec h v3 os0 vs1 = some out) (HY : ykI T y out) : jEv xs d (65, 178, [(3, 0), (3, 0), (3, 0), (0, v3)], [(0, vs1), (2, Int.ofNat os0)]) (T, h) y := by
  unfold Pa_fact_p178 at H
  refine jbind H (fun b32 Hb32 H => ?_)
  refine jEv.calV (st' := []) (show jfI 65 178 (.invokevirtual 195) 3 [1, 28, 1, 4024] = true by decide +kernel) rfl (Or.inl rfl) rfl (Nat.le_of_ble_eq_true rfl) (by decide +kernel) (by decide) (isX2_L hos0) ((t_Fo_emit (T := T) (xs := xs) hos0 Hb32).mono (jKle 2 hd)) rfl ?_
  refine jEv.blk [(.iload_n 3, 1, [])] (by decide +kernel) (pc' := 182) (ls' := [(3, 0), (3, 0), (3, 0), (0, v3)]) (st' := [(0, v3)]) rfl ?_
  refine jchk H (fun c33 H => ?_)
  exact jEv.retZ (show jfI 65 182 (.ireturn) 1 [] = true by decide +kernel) (by decide +kernel) c33 (by cases H; exact HY)
set_option maxRecDepth 20000 in
noncomputable def Pa_fact_p132 (T : jT) (rec : jRec) (h : jH) (o0 : Nat) (v2 : Int) : Option (Int × jH) := Option.bind (rec.2.2.2.2.1 (jup h o0 7 (wr ((h o0 7) + 1))) o0) (fun b28 => Option.bind (jdyn (isX2 T) (b28.2 o0 9)) (fun q29 => (if v2 = 60 then Pa_fact_p178 T rec b28.2 b28.1 q29 30002 else (if v2 = 62 then Pa_fact_p178 T rec b28.2 b28.1 q29 30003 else Pa_fact_p178 T rec b28.2 b28.1 q29 30004))))
set_option maxRecDepth 20000 in
theorem t_Pa_fact_p132 {T : jT} {xs : List Int} {d : Nat} {y : jV × jS} {rec : jRec} (hd : 6 ≤ d) (hrec : jRecOK T xs d rec) {h : jH}  {o0 : Nat} {v2 : Int} {out : (Int × jH)} (ho0 : isX4 T o0) (H : Pa_fact_p132 T rec h o0 v2 = some out) (HY : ykI T y out) : jEv xs d (65, 132, [(2, Int.ofNat o0), (3, 0), (0, v2), (3, 0)], []) (T, h) y := by
  unfold Pa_fact_p132 at H
  refine jEv.blk [(.aload_n 0, 1, []), (.dup, 1, [])] (by decide +kernel) (pc' := 134) (ls' := [(2, Int.ofNat o0), (3, 0), (0, v2), (3, 0)]) (st' := [(2, Int.ofNat o0), (2, Int.ofNat o0)]) rfl ?_
  refine jEv.gfI (show jfI 65 134 (.getfield 58) 3 [4, 7, 0, 0, 1138] = true by decide +kernel) (isX4_L ho0) (by decide) ?_
  refine jEv.blk [(.iconst 1, 1, []), (.iadd, 1, [])] (by decide +kernel) (pc' := 139) (ls' := [(2, Int.ofNat o0), (3, 0), (0, v2), (3, 0)]) (st' := [(0, (wr ((h o0 7) + 1))), (2, Int.ofNat o0)]) rfl ?_
  refine jEv.pfI (show jfI 65 139 (.putfield 58) 3 [4, 7, 0, 0, 1138] = true by decide +kernel) (isX4_L ho0) (by decide) ?_
  refine jEv.blk [(.aload_n 0, 1, [])] (by decide +kernel) (pc' := 143) (ls' := [(2, Int.ofNat o0), (3, 0), (0, v2), (3, 0)]) (st' := [(2, Int.ofNat o0)]) rfl ?_
  refine jbind H (fun b28 Hb28 H => ?_)
  refine jEv.calV (st' := [(0, b28.1)]) (show jfI 65 143 (.invokevirtual 81) 3 [1, 69, 0, 4026] = true by decide +kernel) rfl (Or.inl rfl) rfl (Nat.le_of_ble_eq_true rfl) (by decide +kernel) (by decide) (isX4_L ho0) (hrec.2.2.2.2.1 ho0 Hb28) rfl ?_
  refine jEv.blk [(.istore_n 3, 1, []), (.aload_n 0, 1, [])] (by decide +kernel) (pc' := 148) (ls' := [(2, Int.ofNat o0), (3, 0), (0, v2), (0, b28.1)]) (st' := [(2, Int.ofNat o0)]) rfl ?_
  refine jEv.gfD (show jfI 65 148 (.getfield 33) 3 [4, 9, 2, 0, 1140] = true by decide +kernel) (isX4_L ho0) (by decide) H (fun q29 hq29 H => ?_)
  refine jEv.blk [(.iload_n 2, 1, []), (.bipush 60, 2, [])] (by decide +kernel) (pc' := 154) (ls' := [(2, Int.ofNat o0), (3, 0), (0, v2), (0, b28.1)]) (st' := [(0, 60), (0, v2), (2, Int.ofNat q29)]) rfl ?_
  refine jEv.ic_ne (t := 163) (show jfI 65 154 (.if_icmp .ne 9) 3 [] = true by decide +kernel) rfl H (fun c30 H => ?_) (fun c30 H => ?_)
  · refine jEv.blk [(.sipush 30002, 3, [])] (by decide +kernel) (pc' := 160) (ls' := [(2, Int.ofNat o0), (3, 0), (0, v2), (0, b28.1)]) (st' := [(0, 30002), (2, Int.ofNat q29)]) rfl ?_
    refine jEv.goto (t := 178) (show jfI 65 160 (.goto 18) 3 [] = true by decide +kernel) rfl ?_
    exact jEv.weak (a := [(3, 0), (3, 0), (3, 0), (0, b28.1)]) (jles.c0 (jles.c0 (jles.c0 (jles.c1 jles.nl)))) (t_Pa_fact_p178 (T := T) (xs := xs) (y := y) hd hrec hq29 H HY)
  · refine jEv.blk [(.iload_n 2, 1, []), (.bipush 62, 2, [])] (by decide +kernel) (pc' := 166) (ls' := [(2, Int.ofNat o0), (3, 0), (0, v2), (0, b28.1)]) (st' := [(0, 62), (0, v2), (2, Int.ofNat q29)]) rfl ?_
    refine jEv.ic_ne (t := 175) (show jfI 65 166 (.if_icmp .ne 9) 3 [] = true by decide +kernel) rfl H (fun c31 H => ?_) (fun c31 H => ?_)
    · refine jEv.blk [(.sipush 30003, 3, [])] (by decide +kernel) (pc' := 172) (ls' := [(2, Int.ofNat o0), (3, 0), (0, v2), (0, b28.1)]) (st' := [(0, 30003), (2, Int.ofNat q29)]) rfl ?_
      refine jEv.goto (t := 178) (show jfI 65 172 (.goto 6) 3 [] = true by decide +kernel) rfl ?_
      exact jEv.weak (a := [(3, 0), (3, 0), (3, 0), (0, b28.1)]) (jles.c0 (jles.c0 (jles.c0 (jles.c1 jles.nl)))) (t_Pa_fact_p178 (T := T) (xs := xs) (y := y) hd hrec hq29 H HY)
    · refine jEv.blk [(.sipush 30004, 3, [])] (by decide +kernel) (pc' := 178) (ls' := [(2, Int.ofNat o0), (3, 0), (0, v2), (0, b28.1)]) (st' := [(0, 30004), (2, Int.ofNat q29)]) rfl ?_
      exact jEv.weak (a := [(3, 0), (3, 0), (3, 0), (0, b28.1)]) (jles.c0 (jles.c0 (jles.c0 (jles.c1 jles.nl)))) (t_Pa_fact_p178 (T := T) (xs := xs) (y := y) hd hrec hq29 H HY)
set_option maxRecDepth 20000 in
noncomputable def Pa_fact_p69 (T : jT) (rec : jRec) (h : jH)  : Option (Int × jH) := some (0, h)
set_option maxRecDepth 20000 in
theorem t_Pa_fact_p69 {T : jT} {xs : List Int} {d : Nat} {y : jV × jS} {rec : jRec} (hd : 6 ≤ d) (hrec : jRecOK T xs d rec) {h : jH}   {out : (Int × jH)}  (H : Pa_fact_p69 T rec h = some out) (HY : ykI T y out) : jEv xs d (65, 69, [(3, 0), (3, 0), (3, 0), (3, 0)], []) (T, h) y := by
  unfold Pa_fact_p69 at H
  refine jEv.blk [(.iconst 0, 1, [])] (by decide +kernel) (pc' := 70) (ls' := [(3, 0), (3, 0), (3, 0), (3, 0)]) (st' := [(0, 0)]) rfl ?_
  exact jEv.retZ (show jfI 65 70 (.ireturn) 1 [] = true by decide +kernel) (by decide +kernel) (by decide) (by cases H; exact HY)
set_option maxRecDepth 20000 in
noncomputable def Pa_fact_b (T : jT) (rec : jRec) (h : jH) (o0 : Nat) : Option (Int × jH) := Option.bind (Pa_peek T h o0) (fun b1 => Option.bind (Pa_word T b1.2 o0 [110, 111, 116]) (fun b2 => (if b2.1 = 0 then Option.bind (Pa_sign T b2.2 o0 91) (fun b4 => (if b4.1 = 0 then Option.bind (Pa_word T b4.2 o0 [97, 108, 108]) (fun b6 => (if b6.1 = 0 then Option.bind (rec.2.2.2.2.1 b6.2 o0) (fun b8 => (if b8.1 = 0 then some (0, b8.2) else Option.bind (Pa_peek T b8.2 o0) (fun b10 => (if b10.1 = 60 then Pa_fact_p132 T rec b10.2 o0 b10.1 else (if b10.1 = 62 then Pa_fact_p132 T rec b10.2 o0 b10.1 else (if b10.1 = 61 then Pa_fact_p132 T rec b10.2 o0 b10.1 else Option.bind (Pa_fail b10.2 o0 1 (b10.2 o0 7)) (fun b14 => (if b14.1 = 0 ∨ b14.1 = 1 then some (b14.1, b14.2) else none)))))))) else Option.bind (jdyn (isX2 T) (b6.2 o0 9)) (fun q16 => Option.bind (Fo_emit b6.2 q16 1) (fun b17 => some (1, b17))))) else Option.bind (Pa_opens b4.2 o0 (b1.2 o0 7)) (fun b18 => (if b18.1 = 0 then Pa_fact_p69 T rec b18.2 else Option.bind (rec.1 b18.2 o0) (fun b20 => (if b20.1 = 0 then Pa_fact_p69 T rec b20.2 else Option.bind (Pa_expect T b20.2 o0 93) (fun b22 => (if b22.1 = 0 then Pa_fact_p69 T rec b22.2 else Option.bind (Pa_ends b22.2 o0) (fun b24 => (if b24.1 = 0 then Pa_fact_p69 T rec b24.2 else some (1, b24.2))))))))))) else Option.bind (rec.2.2.2.1 b2.2 o0 (b1.2 o0 7)) (fun b26 => (if b26.1 = 0 ∨ b26.1 = 1 then some (b26.1, b26.2) else none)))))
set_option maxRecDepth 20000 in
theorem t_Pa_fact_b {T : jT} {xs : List Int} {d : Nat} {rec : jRec} (hd : 6 ≤ d) (hrec : jRecOK T xs d rec) {h : jH}  {o0 : Nat} {out : (Int × jH)} (ho0 : isX4 T o0) (H : Pa_fact_b T rec h o0 = some out) : jEm xs (d + 1) 65 [(2, Int.ofNat o0)] (T, h) ((0, out.1), (T, out.2)) := by
  obtain ⟨y, ey⟩ : ∃ y : jV × jS, y = ((0, out.1), (T, out.2)) := ⟨_, rfl⟩
  rw [← ey]
  have HY : ykI T y out := ey
  refine jEm.ent (n := 4) (by decide +kernel) (Nat.le_of_ble_eq_true rfl) ?_
  show jEv xs d (65, 0, [(2, Int.ofNat o0), (3, 0), (3, 0), (3, 0)], []) (T, h) y
  unfold Pa_fact_b at H
  refine jEv.blk [(.aload_n 0, 1, [])] (by decide +kernel) (pc' := 1) (ls' := [(2, Int.ofNat o0), (3, 0), (3, 0), (3, 0)]) (st' := [(2, Int.ofNat o0)]) rfl ?_
  refine jbind H (fun b1 Hb1 H => ?_)
  refine jEv.calV (st' := [(0, b1.1)]) (show jfI 65 1 (.invokevirtual 54) 3 [1, 53, 0, 3137] = true by decide +kernel) rfl (Or.inl rfl) rfl (Nat.le_of_ble_eq_true rfl) (by decide +kernel) (by decide) (isX4_L ho0) ((t_Pa_peek (T := T) (xs := xs) ho0 Hb1).mono (jKle 1 hd)) rfl ?_
  refine jEv.blk [(.pop, 1, []), (.aload_n 0, 1, [])] (by decide +kernel) (pc' := 6) (ls' := [(2, Int.ofNat o0), (3, 0), (3, 0), (3, 0)]) (st' := [(2, Int.ofNat o0)]) rfl ?_
  refine jEv.gfI (show jfI 65 6 (.getfield 58) 3 [4, 7, 0, 0, 1138] = true by decide +kernel) (isX4_L ho0) (by decide) ?_
  refine jEv.blk [(.istore_n 1, 1, []), (.aload_n 0, 1, []), (.ldc 204, 2, [4, 25, 0, 4011])] (by decide +kernel) (pc' := 13) (ls' := [(2, Int.ofNat o0), (0, (b1.2 o0 7)), (3, 0), (3, 0)]) (st' := [(4, 25), (2, Int.ofNat o0)]) rfl ?_
  refine jbind H (fun b2 Hb2 H => ?_)
  refine jEv.calV (st' := [(0, b2.1)]) (show jfI 65 13 (.invokevirtual 114) 3 [1, 52, 1, 3133] = true by decide +kernel) rfl (Or.inl rfl) rfl (Nat.le_of_ble_eq_true rfl) (by decide +kernel) (by decide) (isX4_L ho0) ((t_Pa_word (T := T) (xs := xs) ho0 (jIsS_25) Hb2).mono (jKle 5 hd)) rfl ?_
  refine jEv.if_eq (t := 25) (show jfI 65 16 (.ifCond .eq 9) 3 [] = true by decide +kernel) rfl H (fun c3 H => ?_) (fun c3 H => ?_)
  · refine jEv.blk [(.aload_n 0, 1, []), (.bipush 91, 2, [])] (by decide +kernel) (pc' := 28) (ls' := [(2, Int.ofNat o0), (0, (b1.2 o0 7)), (3, 0), (3, 0)]) (st' := [(0, 91), (2, Int.ofNat o0)]) rfl ?_
    refine jbind H (fun b4 Hb4 H => ?_)
    refine jEv.calV (st' := [(0, b4.1)]) (show jfI 65 28 (.invokevirtual 99) 3 [1, 59, 1, 3210] = true by decide +kernel) rfl (Or.inl rfl) rfl (Nat.le_of_ble_eq_true rfl) (by decide +kernel) (by decide) (isX4_L ho0) ((t_Pa_sign (T := T) (xs := xs) ho0 Hb4).mono (jKle 2 hd)) rfl ?_
    refine jEv.if_eq (t := 71) (show jfI 65 31 (.ifCond .eq 40) 3 [] = true by decide +kernel) rfl H (fun c5 H => ?_) (fun c5 H => ?_)
    · refine jEv.blk [(.aload_n 0, 1, []), (.ldc 215, 2, [4, 11, 0, 4025])] (by decide +kernel) (pc' := 74) (ls' := [(2, Int.ofNat o0), (0, (b1.2 o0 7)), (3, 0), (3, 0)]) (st' := [(4, 11), (2, Int.ofNat o0)]) rfl ?_
      refine jbind H (fun b6 Hb6 H => ?_)
      refine jEv.calV (st' := [(0, b6.1)]) (show jfI 65 74 (.invokevirtual 114) 3 [1, 52, 1, 3133] = true by decide +kernel) rfl (Or.inl rfl) rfl (Nat.le_of_ble_eq_true rfl) (by decide +kernel) (by decide) (isX4_L ho0) ((t_Pa_word (T := T) (xs := xs) ho0 (jIsS_11) Hb6).mono (jKle 5 hd)) rfl ?_
      refine jEv.if_eq (t := 90) (show jfI 65 77 (.ifCond .eq 13) 3 [] = true by decide +kernel) rfl H (fun c7 H => ?_) (fun c7 H => ?_)
      · refine jEv.blk [(.aload_n 0, 1, [])] (by decide +kernel) (pc' := 91) (ls' := [(2, Int.ofNat o0), (0, (b1.2 o0 7)), (3, 0), (3, 0)]) (st' := [(2, Int.ofNat o0)]) rfl ?_
        refine jbind H (fun b8 Hb8 H => ?_)
        refine jEv.calV (st' := [(0, b8.1)]) (show jfI 65 91 (.invokevirtual 81) 3 [1, 69, 0, 4026] = true by decide +kernel) rfl (Or.inl rfl) rfl (Nat.le_of_ble_eq_true rfl) (by decide +kernel) (by decide) (isX4_L ho0) (hrec.2.2.2.2.1 ho0 Hb8) rfl ?_
        refine jEv.if_ne (t := 99) (show jfI 65 94 (.ifCond .ne 5) 3 [] = true by decide +kernel) rfl H (fun c9 H => ?_) (fun c9 H => ?_)
        · refine jEv.blk [(.iconst 0, 1, [])] (by decide +kernel) (pc' := 98) (ls' := [(2, Int.ofNat o0), (0, (b1.2 o0 7)), (3, 0), (3, 0)]) (st' := [(0, 0)]) rfl ?_
          exact jEv.retZ (show jfI 65 98 (.ireturn) 1 [] = true by decide +kernel) (by decide +kernel) (by decide) (by cases H; exact HY)
        · refine jEv.blk [(.aload_n 0, 1, [])] (by decide +kernel) (pc' := 100) (ls' := [(2, Int.ofNat o0), (0, (b1.2 o0 7)), (3, 0), (3, 0)]) (st' := [(2, Int.ofNat o0)]) rfl ?_
          refine jbind H (fun b10 Hb10 H => ?_)
          refine jEv.calV (st' := [(0, b10.1)]) (show jfI 65 100 (.invokevirtual 54) 3 [1, 53, 0, 3137] = true by decide +kernel) rfl (Or.inl rfl) rfl (Nat.le_of_ble_eq_true rfl) (by decide +kernel) (by decide) (isX4_L ho0) ((t_Pa_peek (T := T) (xs := xs) ho0 Hb10).mono (jKle 1 hd)) rfl ?_
          refine jEv.blk [(.istore_n 2, 1, []), (.iload_n 2, 1, []), (.bipush 60, 2, [])] (by decide +kernel) (pc' := 107) (ls' := [(2, Int.ofNat o0), (0, (b1.2 o0 7)), (0, b10.1), (3, 0)]) (st' := [(0, 60), (0, b10.1)]) rfl ?_
          refine jEv.ic_eq (t := 132) (show jfI 65 107 (.if_icmp .eq 25) 3 [] = true by decide +kernel) rfl H (fun c11 H => ?_) (fun c11 H => ?_)
          · exact jEv.weak (a := [(2, Int.ofNat o0), (3, 0), (0, b10.1), (3, 0)]) (jles.c1 (jles.c0 (jles.c1 (jles.c0 jles.nl)))) (t_Pa_fact_p132 (T := T) (xs := xs) (y := y) hd hrec ho0 H HY)
          · refine jEv.blk [(.iload_n 2, 1, []), (.bipush 62, 2, [])] (by decide +kernel) (pc' := 113) (ls' := [(2, Int.ofNat o0), (0, (b1.2 o0 7)), (0, b10.1), (3, 0)]) (st' := [(0, 62), (0, b10.1)]) rfl ?_
            refine jEv.ic_eq (t := 132) (show jfI 65 113 (.if_icmp .eq 19) 3 [] = true by decide +kernel) rfl H (fun c12 H => ?_) (fun c12 H => ?_)
            · exact jEv.weak (a := [(2, Int.ofNat o0), (3, 0), (0, b10.1), (3, 0)]) (jles.c1 (jles.c0 (jles.c1 (jles.c0 jles.nl)))) (t_Pa_fact_p132 (T := T) (xs := xs) (y := y) hd hrec ho0 H HY)
            · refine jEv.blk [(.iload_n 2, 1, []), (.bipush 61, 2, [])] (by decide +kernel) (pc' := 119) (ls' := [(2, Int.ofNat o0), (0, (b1.2 o0 7)), (0, b10.1), (3, 0)]) (st' := [(0, 61), (0, b10.1)]) rfl ?_
              refine jEv.ic_eq (t := 132) (show jfI 65 119 (.if_icmp .eq 13) 3 [] = true by decide +kernel) rfl H (fun c13 H => ?_) (fun c13 H => ?_)
              · exact jEv.weak (a := [(2, Int.ofNat o0), (3, 0), (0, b10.1), (3, 0)]) (jles.c1 (jles.c0 (jles.c1 (jles.c0 jles.nl)))) (t_Pa_fact_p132 (T := T) (xs := xs) (y := y) hd hrec ho0 H HY)
              · refine jEv.blk [(.aload_n 0, 1, []), (.iconst 1, 1, []), (.aload_n 0, 1, [])] (by decide +kernel) (pc' := 125) (ls' := [(2, Int.ofNat o0), (0, (b1.2 o0 7)), (0, b10.1), (3, 0)]) (st' := [(2, Int.ofNat o0), (0, 1), (2, Int.ofNat o0)]) rfl ?_
                refine jEv.gfI (show jfI 65 125 (.getfield 58) 3 [4, 7, 0, 0, 1138] = true by decide +kernel) (isX4_L ho0) (by decide) ?_
                refine jbind H (fun b14 Hb14 H => ?_)
                refine jEv.calV (st' := [(0, b14.1)]) (show jfI 65 128 (.invokevirtual 61) 3 [1, 55, 2, 3193] = true by decide +kernel) rfl (Or.inl rfl) rfl (Nat.le_of_ble_eq_true rfl) (by decide +kernel) (by decide) (isX4_L ho0) ((t_Pa_fail (T := T) (xs := xs) ho0 Hb14).mono (jKle 1 hd)) rfl ?_
                refine jchk H (fun c15 H => ?_)
                exact jEv.retZ (show jfI 65 131 (.ireturn) 1 [] = true by decide +kernel) (by decide +kernel) c15 (by cases H; exact HY)
      · refine jEv.blk [(.aload_n 0, 1, [])] (by decide +kernel) (pc' := 81) (ls' := [(2, Int.ofNat o0), (0, (b1.2 o0 7)), (3, 0), (3, 0)]) (st' := [(2, Int.ofNat o0)]) rfl ?_
        refine jEv.gfD (show jfI 65 81 (.getfield 33) 3 [4, 9, 2, 0, 1140] = true by decide +kernel) (isX4_L ho0) (by decide) H (fun q16 hq16 H => ?_)
        refine jEv.blk [(.iconst 1, 1, [])] (by decide +kernel) (pc' := 85) (ls' := [(2, Int.ofNat o0), (0, (b1.2 o0 7)), (3, 0), (3, 0)]) (st' := [(0, 1), (2, Int.ofNat q16)]) rfl ?_
        refine jbind H (fun b17 Hb17 H => ?_)
        refine jEv.calV (st' := []) (show jfI 65 85 (.invokevirtual 195) 3 [1, 28, 1, 4024] = true by decide +kernel) rfl (Or.inl rfl) rfl (Nat.le_of_ble_eq_true rfl) (by decide +kernel) (by decide) (isX2_L hq16) ((t_Fo_emit (T := T) (xs := xs) hq16 Hb17).mono (jKle 2 hd)) rfl ?_
        refine jEv.blk [(.iconst 1, 1, [])] (by decide +kernel) (pc' := 89) (ls' := [(2, Int.ofNat o0), (0, (b1.2 o0 7)), (3, 0), (3, 0)]) (st' := [(0, 1)]) rfl ?_
        exact jEv.retZ (show jfI 65 89 (.ireturn) 1 [] = true by decide +kernel) (by decide +kernel) (by decide) (by cases H; exact HY)
    · refine jEv.blk [(.aload_n 0, 1, []), (.iload_n 1, 1, [])] (by decide +kernel) (pc' := 36) (ls' := [(2, Int.ofNat o0), (0, (b1.2 o0 7)), (3, 0), (3, 0)]) (st' := [(0, (b1.2 o0 7)), (2, Int.ofNat o0)]) rfl ?_
      refine jbind H (fun b18 Hb18 H => ?_)
      refine jEv.calV (st' := [(0, b18.1)]) (show jfI 65 36 (.invokevirtual 209) 3 [1, 67, 1, 4016] = true by decide +kernel) rfl (Or.inl rfl) rfl (Nat.le_of_ble_eq_true rfl) (by decide +kernel) (by decide) (isX4_L ho0) ((t_Pa_opens (T := T) (xs := xs) ho0 Hb18).mono (jKle 2 hd)) rfl ?_
      refine jEv.if_eq (t := 69) (show jfI 65 39 (.ifCond .eq 30) 3 [] = true by decide +kernel) rfl H (fun c19 H => ?_) (fun c19 H => ?_)
      · exact jEv.weak (a := [(3, 0), (3, 0), (3, 0), (3, 0)]) (jles.c0 (jles.c0 (jles.c0 (jles.c0 jles.nl)))) (t_Pa_fact_p69 (T := T) (xs := xs) (y := y) hd hrec H HY)
      · refine jEv.blk [(.aload_n 0, 1, [])] (by decide +kernel) (pc' := 43) (ls' := [(2, Int.ofNat o0), (0, (b1.2 o0 7)), (3, 0), (3, 0)]) (st' := [(2, Int.ofNat o0)]) rfl ?_
        refine jbind H (fun b20 Hb20 H => ?_)
        refine jEv.calV (st' := [(0, b20.1)]) (show jfI 65 43 (.invokevirtual 78) 3 [1, 63, 0, 3239] = true by decide +kernel) rfl (Or.inl rfl) rfl (Nat.le_of_ble_eq_true rfl) (by decide +kernel) (by decide) (isX4_L ho0) (hrec.1 ho0 Hb20) rfl ?_
        refine jEv.if_eq (t := 69) (show jfI 65 46 (.ifCond .eq 23) 3 [] = true by decide +kernel) rfl H (fun c21 H => ?_) (fun c21 H => ?_)
        · exact jEv.weak (a := [(3, 0), (3, 0), (3, 0), (3, 0)]) (jles.c0 (jles.c0 (jles.c0 (jles.c0 jles.nl)))) (t_Pa_fact_p69 (T := T) (xs := xs) (y := y) hd hrec H HY)
        · refine jEv.blk [(.aload_n 0, 1, []), (.bipush 93, 2, [])] (by decide +kernel) (pc' := 52) (ls' := [(2, Int.ofNat o0), (0, (b1.2 o0 7)), (3, 0), (3, 0)]) (st' := [(0, 93), (2, Int.ofNat o0)]) rfl ?_
          refine jbind H (fun b22 Hb22 H => ?_)
          refine jEv.calV (st' := [(0, b22.1)]) (show jfI 65 52 (.invokevirtual 47) 3 [1, 58, 1, 3206] = true by decide +kernel) rfl (Or.inl rfl) rfl (Nat.le_of_ble_eq_true rfl) (by decide +kernel) (by decide) (isX4_L ho0) ((t_Pa_expect (T := T) (xs := xs) ho0 Hb22).mono (jKle 3 hd)) rfl ?_
          refine jEv.if_eq (t := 69) (show jfI 65 55 (.ifCond .eq 14) 3 [] = true by decide +kernel) rfl H (fun c23 H => ?_) (fun c23 H => ?_)
          · exact jEv.weak (a := [(3, 0), (3, 0), (3, 0), (3, 0)]) (jles.c0 (jles.c0 (jles.c0 (jles.c0 jles.nl)))) (t_Pa_fact_p69 (T := T) (xs := xs) (y := y) hd hrec H HY)
          · refine jEv.blk [(.aload_n 0, 1, [])] (by decide +kernel) (pc' := 59) (ls' := [(2, Int.ofNat o0), (0, (b1.2 o0 7)), (3, 0), (3, 0)]) (st' := [(2, Int.ofNat o0)]) rfl ?_
            refine jbind H (fun b24 Hb24 H => ?_)
            refine jEv.calV (st' := [(0, b24.1)]) (show jfI 65 59 (.invokevirtual 212) 3 [1, 68, 0, 4020] = true by decide +kernel) rfl (Or.inl rfl) rfl (Nat.le_of_ble_eq_true rfl) (by decide +kernel) (by decide) (isX4_L ho0) ((t_Pa_ends (T := T) (xs := xs) ho0 Hb24).mono (jKle 1 hd)) rfl ?_
            refine jEv.if_eq (t := 69) (show jfI 65 62 (.ifCond .eq 7) 3 [] = true by decide +kernel) rfl H (fun c25 H => ?_) (fun c25 H => ?_)
            · exact jEv.weak (a := [(3, 0), (3, 0), (3, 0), (3, 0)]) (jles.c0 (jles.c0 (jles.c0 (jles.c0 jles.nl)))) (t_Pa_fact_p69 (T := T) (xs := xs) (y := y) hd hrec H HY)
            · refine jEv.blk [(.iconst 1, 1, [])] (by decide +kernel) (pc' := 66) (ls' := [(2, Int.ofNat o0), (0, (b1.2 o0 7)), (3, 0), (3, 0)]) (st' := [(0, 1)]) rfl ?_
              refine jEv.goto (t := 70) (show jfI 65 66 (.goto 4) 3 [] = true by decide +kernel) rfl ?_
              exact jEv.retZ (show jfI 65 70 (.ireturn) 1 [] = true by decide +kernel) (by decide +kernel) (by decide) (by cases H; exact HY)
  · refine jEv.blk [(.aload_n 0, 1, []), (.iload_n 1, 1, [])] (by decide +kernel) (pc' := 21) (ls' := [(2, Int.ofNat o0), (0, (b1.2 o0 7)), (3, 0), (3, 0)]) (st' := [(0, (b1.2 o0 7)), (2, Int.ofNat o0)]) rfl ?_
    refine jbind H (fun b26 Hb26 H => ?_)
    refine jEv.calV (st' := [(0, b26.1)]) (show jfI 65 21 (.invokevirtual 206) 3 [1, 66, 1, 4012] = true by decide +kernel) rfl (Or.inl rfl) rfl (Nat.le_of_ble_eq_true rfl) (by decide +kernel) (by decide) (isX4_L ho0) (hrec.2.2.2.1 ho0 Hb26) rfl ?_
    refine jchk H (fun c27 H => ?_)
    exact jEv.retZ (show jfI 65 24 (.ireturn) 1 [] = true by decide +kernel) (by decide +kernel) c27 (by cases H; exact HY)
set_option maxRecDepth 20000 in
noncomputable def Pa_negation_p27 (T : jT) (rec : jRec) (h : jH) (o0 : Nat) (vs0 : Int) : Option (Int × jH) := Option.bind (jdyn (isX2 T) (h o0 9)) (fun q7 => Option.bind (Fo_emit h q7 20000) (fun b8 => (if vs0 = 0 ∨ vs0 = 1 then some (vs0, b8) else none)))
set_option maxRecDepth 20000 in
theorem t_Pa_negation_p27 {T : jT} {xs : List Int} {d : Nat} {y : jV × jS} {rec : jRec} (hd : 6 ≤ d) (hrec : jRecOK T xs d rec) {h : jH}  {o0 : Nat} {vs0 : Int} {out : (Int × jH)} (ho0 : isX4 T o0) (H : Pa_negation_p27 T rec h o0 vs0 = some out) (HY : ykI T y out) : jEv xs d (66, 27, [(2, Int.ofNat o0), (3, 0), (3, 0)], [(0, vs0)]) (T, h) y := by
  unfold Pa_negation_p27 at H
  refine jEv.blk [(.istore_n 2, 1, []), (.aload_n 0, 1, [])] (by decide +kernel) (pc' := 29) (ls' := [(2, Int.ofNat o0), (3, 0), (0, vs0)]) (st' := [(2, Int.ofNat o0)]) rfl ?_
  refine jEv.gfD (show jfI 66 29 (.getfield 33) 3 [4, 9, 2, 0, 1140] = true by decide +kernel) (isX4_L ho0) (by decide) H (fun q7 hq7 H => ?_)
  refine jEv.blk [(.sipush 20000, 3, [])] (by decide +kernel) (pc' := 35) (ls' := [(2, Int.ofNat o0), (3, 0), (0, vs0)]) (st' := [(0, 20000), (2, Int.ofNat q7)]) rfl ?_
  refine jbind H (fun b8 Hb8 H => ?_)
  refine jEv.calV (st' := []) (show jfI 66 35 (.invokevirtual 195) 3 [1, 28, 1, 4024] = true by decide +kernel) rfl (Or.inl rfl) rfl (Nat.le_of_ble_eq_true rfl) (by decide +kernel) (by decide) (isX2_L hq7) ((t_Fo_emit (T := T) (xs := xs) hq7 Hb8).mono (jKle 2 hd)) rfl ?_
  refine jEv.blk [(.iload_n 2, 1, [])] (by decide +kernel) (pc' := 39) (ls' := [(2, Int.ofNat o0), (3, 0), (0, vs0)]) (st' := [(0, vs0)]) rfl ?_
  refine jchk H (fun c9 H => ?_)
  exact jEv.retZ (show jfI 66 39 (.ireturn) 1 [] = true by decide +kernel) (by decide +kernel) c9 (by cases H; exact HY)
set_option maxRecDepth 20000 in
noncomputable def Pa_negation_p26 (T : jT) (rec : jRec) (h : jH) (o0 : Nat) : Option (Int × jH) := Pa_negation_p27 T rec h o0 0
set_option maxRecDepth 20000 in
theorem t_Pa_negation_p26 {T : jT} {xs : List Int} {d : Nat} {y : jV × jS} {rec : jRec} (hd : 6 ≤ d) (hrec : jRecOK T xs d rec) {h : jH}  {o0 : Nat} {out : (Int × jH)} (ho0 : isX4 T o0) (H : Pa_negation_p26 T rec h o0 = some out) (HY : ykI T y out) : jEv xs d (66, 26, [(2, Int.ofNat o0), (3, 0), (3, 0)], []) (T, h) y := by
  unfold Pa_negation_p26 at H
  refine jEv.blk [(.iconst 0, 1, [])] (by decide +kernel) (pc' := 27) (ls' := [(2, Int.ofNat o0), (3, 0), (3, 0)]) (st' := [(0, 0)]) rfl ?_
  exact t_Pa_negation_p27 (T := T) (xs := xs) (y := y) hd hrec ho0 H HY
set_option maxRecDepth 20000 in
noncomputable def Pa_negation_b (T : jT) (rec : jRec) (h : jH) (o0 : Nat) (v1 : Int) : Option (Int × jH) := Option.bind (Pa_opens h o0 v1) (fun b1 => (if b1.1 = 0 then Pa_negation_p26 T rec b1.2 o0 else Option.bind (rec.2.2.1 b1.2 o0) (fun b3 => (if b3.1 = 0 then Pa_negation_p26 T rec b3.2 o0 else Option.bind (Pa_ends b3.2 o0) (fun b5 => (if b5.1 = 0 then Pa_negation_p26 T rec b5.2 o0 else Pa_negation_p27 T rec b5.2 o0 1))))))
set_option maxRecDepth 20000 in
theorem t_Pa_negation_b {T : jT} {xs : List Int} {d : Nat} {rec : jRec} (hd : 6 ≤ d) (hrec : jRecOK T xs d rec) {h : jH}  {o0 : Nat} {v1 : Int} {out : (Int × jH)} (ho0 : isX4 T o0) (H : Pa_negation_b T rec h o0 v1 = some out) : jEm xs (d + 1) 66 [(2, Int.ofNat o0), (0, v1)] (T, h) ((0, out.1), (T, out.2)) := by
  obtain ⟨y, ey⟩ : ∃ y : jV × jS, y = ((0, out.1), (T, out.2)) := ⟨_, rfl⟩
  rw [← ey]
  have HY : ykI T y out := ey
  refine jEm.ent (n := 3) (by decide +kernel) (Nat.le_of_ble_eq_true rfl) ?_
  show jEv xs d (66, 0, [(2, Int.ofNat o0), (0, v1), (3, 0)], []) (T, h) y
  unfold Pa_negation_b at H
  refine jEv.blk [(.aload_n 0, 1, []), (.iload_n 1, 1, [])] (by decide +kernel) (pc' := 2) (ls' := [(2, Int.ofNat o0), (0, v1), (3, 0)]) (st' := [(0, v1), (2, Int.ofNat o0)]) rfl ?_
  refine jbind H (fun b1 Hb1 H => ?_)
  refine jEv.calV (st' := [(0, b1.1)]) (show jfI 66 2 (.invokevirtual 209) 3 [1, 67, 1, 4016] = true by decide +kernel) rfl (Or.inl rfl) rfl (Nat.le_of_ble_eq_true rfl) (by decide +kernel) (by decide) (isX4_L ho0) ((t_Pa_opens (T := T) (xs := xs) ho0 Hb1).mono (jKle 2 hd)) rfl ?_
  refine jEv.if_eq (t := 26) (show jfI 66 5 (.ifCond .eq 21) 3 [] = true by decide +kernel) rfl H (fun c2 H => ?_) (fun c2 H => ?_)
  · exact jEv.weak (a := [(2, Int.ofNat o0), (3, 0), (3, 0)]) (jles.c1 (jles.c0 (jles.c0 jles.nl))) (t_Pa_negation_p26 (T := T) (xs := xs) (y := y) hd hrec ho0 H HY)
  · refine jEv.blk [(.aload_n 0, 1, [])] (by decide +kernel) (pc' := 9) (ls' := [(2, Int.ofNat o0), (0, v1), (3, 0)]) (st' := [(2, Int.ofNat o0)]) rfl ?_
    refine jbind H (fun b3 Hb3 H => ?_)
    refine jEv.calV (st' := [(0, b3.1)]) (show jfI 66 9 (.invokevirtual 199) 3 [1, 65, 0, 4007] = true by decide +kernel) rfl (Or.inl rfl) rfl (Nat.le_of_ble_eq_true rfl) (by decide +kernel) (by decide) (isX4_L ho0) (hrec.2.2.1 ho0 Hb3) rfl ?_
    refine jEv.if_eq (t := 26) (show jfI 66 12 (.ifCond .eq 14) 3 [] = true by decide +kernel) rfl H (fun c4 H => ?_) (fun c4 H => ?_)
    · exact jEv.weak (a := [(2, Int.ofNat o0), (3, 0), (3, 0)]) (jles.c1 (jles.c0 (jles.c0 jles.nl))) (t_Pa_negation_p26 (T := T) (xs := xs) (y := y) hd hrec ho0 H HY)
    · refine jEv.blk [(.aload_n 0, 1, [])] (by decide +kernel) (pc' := 16) (ls' := [(2, Int.ofNat o0), (0, v1), (3, 0)]) (st' := [(2, Int.ofNat o0)]) rfl ?_
      refine jbind H (fun b5 Hb5 H => ?_)
      refine jEv.calV (st' := [(0, b5.1)]) (show jfI 66 16 (.invokevirtual 212) 3 [1, 68, 0, 4020] = true by decide +kernel) rfl (Or.inl rfl) rfl (Nat.le_of_ble_eq_true rfl) (by decide +kernel) (by decide) (isX4_L ho0) ((t_Pa_ends (T := T) (xs := xs) ho0 Hb5).mono (jKle 1 hd)) rfl ?_
      refine jEv.if_eq (t := 26) (show jfI 66 19 (.ifCond .eq 7) 3 [] = true by decide +kernel) rfl H (fun c6 H => ?_) (fun c6 H => ?_)
      · exact jEv.weak (a := [(2, Int.ofNat o0), (3, 0), (3, 0)]) (jles.c1 (jles.c0 (jles.c0 jles.nl))) (t_Pa_negation_p26 (T := T) (xs := xs) (y := y) hd hrec ho0 H HY)
      · refine jEv.blk [(.iconst 1, 1, [])] (by decide +kernel) (pc' := 23) (ls' := [(2, Int.ofNat o0), (0, v1), (3, 0)]) (st' := [(0, 1)]) rfl ?_
        refine jEv.goto (t := 27) (show jfI 66 23 (.goto 4) 3 [] = true by decide +kernel) rfl ?_
        exact jEv.weak (a := [(2, Int.ofNat o0), (3, 0), (3, 0)]) (jles.c1 (jles.c0 (jles.c0 jles.nl))) (t_Pa_negation_p27 (T := T) (xs := xs) (y := y) hd hrec ho0 H HY)
def yk_Pa_sum_L7 (T : jT) (xs : List Int) (d : Nat) (y : jV × jS)  (o0 : Nat) : ((Int × Int × jH) ⊕ (Int × jH)) → Prop
  | .inl (v1, v2, h) => jEv xs d (69, 7, [(2, Int.ofNat o0), (0, v1), (0, v2), (3, 0)], []) (T, h) y
  | .inr o => ykI T y o
set_option maxRecDepth 20000 in
noncomputable def Pa_sum_p71 (T : jT) (rec : jRec) (h : jH) (o0 : Nat) (v1 : Int) (v2 : Int) (os0 : Nat) (vs1 : Int) : Option ((Int × Int × jH) ⊕ (Int × jH)) := Option.bind (Fo_emit h os0 vs1) (fun b12 => some (.inl (v1, (wr (v2 + 1)), b12)))
set_option maxRecDepth 20000 in
theorem t_Pa_sum_p71 {T : jT} {xs : List Int} {d : Nat} {y : jV × jS} {rec : jRec} (hd : 6 ≤ d) (hrec : jRecOK T xs d rec) {h : jH}  {o0 : Nat} {v1 : Int} {v2 : Int} {os0 : Nat} {vs1 : Int} {out : ((Int × Int × jH) ⊕ (Int × jH))} (ho0 : isX4 T o0) (hos0 : isX2 T os0) (H : Pa_sum_p71 T rec h o0 v1 v2 os0 vs1 = some out) (HY : yk_Pa_sum_L7 T xs d y o0 out) : jEv xs d (69, 71, [(2, Int.ofNat o0), (0, v1), (0, v2), (3, 0)], [(0, vs1), (2, Int.ofNat os0)]) (T, h) y := by
  unfold Pa_sum_p71 at H
  refine jbind H (fun b12 Hb12 H => ?_)
  refine jEv.calV (st' := []) (show jfI 69 71 (.invokevirtual 195) 3 [1, 28, 1, 4024] = true by decide +kernel) rfl (Or.inl rfl) rfl (Nat.le_of_ble_eq_true rfl) (by decide +kernel) (by decide) (isX2_L hos0) ((t_Fo_emit (T := T) (xs := xs) hos0 Hb12).mono (jKle 2 hd)) rfl ?_
  refine jEv.blk [(.iinc 2 1, 3, [])] (by decide +kernel) (pc' := 77) (ls' := [(2, Int.ofNat o0), (0, v1), (0, (wr (v2 + 1))), (3, 0)]) (st' := []) rfl ?_
  refine jEv.goto (t := 7) (show jfI 69 77 (.goto (-70)) 3 [] = true by decide +kernel) rfl ?_
  exact (by cases H; exact HY)
set_option maxRecDepth 20000 in
noncomputable def Pa_sum_p37 (T : jT) (rec : jRec) (h : jH) (o0 : Nat) (v2 : Int) (v3 : Int) : Option ((Int × Int × jH) ⊕ (Int × jH)) := Option.bind (rec.2.2.2.2.2.1 (jup h o0 7 (wr ((h o0 7) + 1))) o0) (fun b9 => Option.bind (jdyn (isX2 T) (b9.2 o0 9)) (fun q10 => (if v3 = 43 then Pa_sum_p71 T rec b9.2 o0 b9.1 v2 q10 30005 else Pa_sum_p71 T rec b9.2 o0 b9.1 v2 q10 30006)))
set_option maxRecDepth 20000 in
theorem t_Pa_sum_p37 {T : jT} {xs : List Int} {d : Nat} {y : jV × jS} {rec : jRec} (hd : 6 ≤ d) (hrec : jRecOK T xs d rec) {h : jH}  {o0 : Nat} {v2 : Int} {v3 : Int} {out : ((Int × Int × jH) ⊕ (Int × jH))} (ho0 : isX4 T o0) (H : Pa_sum_p37 T rec h o0 v2 v3 = some out) (HY : yk_Pa_sum_L7 T xs d y o0 out) : jEv xs d (69, 37, [(2, Int.ofNat o0), (3, 0), (0, v2), (0, v3)], []) (T, h) y := by
  unfold Pa_sum_p37 at H
  refine jEv.blk [(.aload_n 0, 1, []), (.dup, 1, [])] (by decide +kernel) (pc' := 39) (ls' := [(2, Int.ofNat o0), (3, 0), (0, v2), (0, v3)]) (st' := [(2, Int.ofNat o0), (2, Int.ofNat o0)]) rfl ?_
  refine jEv.gfI (show jfI 69 39 (.getfield 58) 3 [4, 7, 0, 0, 1138] = true by decide +kernel) (isX4_L ho0) (by decide) ?_
  refine jEv.blk [(.iconst 1, 1, []), (.iadd, 1, [])] (by decide +kernel) (pc' := 44) (ls' := [(2, Int.ofNat o0), (3, 0), (0, v2), (0, v3)]) (st' := [(0, (wr ((h o0 7) + 1))), (2, Int.ofNat o0)]) rfl ?_
  refine jEv.pfI (show jfI 69 44 (.putfield 58) 3 [4, 7, 0, 0, 1138] = true by decide +kernel) (isX4_L ho0) (by decide) ?_
  refine jEv.blk [(.aload_n 0, 1, [])] (by decide +kernel) (pc' := 48) (ls' := [(2, Int.ofNat o0), (3, 0), (0, v2), (0, v3)]) (st' := [(2, Int.ofNat o0)]) rfl ?_
  refine jbind H (fun b9 Hb9 H => ?_)
  refine jEv.calV (st' := [(0, b9.1)]) (show jfI 69 48 (.invokevirtual 217) 3 [1, 70, 0, 4030] = true by decide +kernel) rfl (Or.inl rfl) rfl (Nat.le_of_ble_eq_true rfl) (by decide +kernel) (by decide) (isX4_L ho0) (hrec.2.2.2.2.2.1 ho0 Hb9) rfl ?_
  refine jEv.blk [(.istore_n 1, 1, []), (.aload_n 0, 1, [])] (by decide +kernel) (pc' := 53) (ls' := [(2, Int.ofNat o0), (0, b9.1), (0, v2), (0, v3)]) (st' := [(2, Int.ofNat o0)]) rfl ?_
  refine jEv.gfD (show jfI 69 53 (.getfield 33) 3 [4, 9, 2, 0, 1140] = true by decide +kernel) (isX4_L ho0) (by decide) H (fun q10 hq10 H => ?_)
  refine jEv.blk [(.iload_n 3, 1, []), (.bipush 43, 2, [])] (by decide +kernel) (pc' := 59) (ls' := [(2, Int.ofNat o0), (0, b9.1), (0, v2), (0, v3)]) (st' := [(0, 43), (0, v3), (2, Int.ofNat q10)]) rfl ?_
  refine jEv.ic_ne (t := 68) (show jfI 69 59 (.if_icmp .ne 9) 3 [] = true by decide +kernel) rfl H (fun c11 H => ?_) (fun c11 H => ?_)
  · refine jEv.blk [(.sipush 30005, 3, [])] (by decide +kernel) (pc' := 65) (ls' := [(2, Int.ofNat o0), (0, b9.1), (0, v2), (0, v3)]) (st' := [(0, 30005), (2, Int.ofNat q10)]) rfl ?_
    refine jEv.goto (t := 71) (show jfI 69 65 (.goto 6) 3 [] = true by decide +kernel) rfl ?_
    exact jEv.weak (a := [(2, Int.ofNat o0), (0, b9.1), (0, v2), (3, 0)]) (jles.c1 (jles.c1 (jles.c1 (jles.c0 jles.nl)))) (t_Pa_sum_p71 (T := T) (xs := xs) (y := y) hd hrec ho0 hq10 H HY)
  · refine jEv.blk [(.sipush 30006, 3, [])] (by decide +kernel) (pc' := 71) (ls' := [(2, Int.ofNat o0), (0, b9.1), (0, v2), (0, v3)]) (st' := [(0, 30006), (2, Int.ofNat q10)]) rfl ?_
    exact jEv.weak (a := [(2, Int.ofNat o0), (0, b9.1), (0, v2), (3, 0)]) (jles.c1 (jles.c1 (jles.c1 (jles.c0 jles.nl)))) (t_Pa_sum_p71 (T := T) (xs := xs) (y := y) hd hrec ho0 hq10 H HY)
set_option maxRecDepth 20000 in
noncomputable def Pa_sum_B7 (T : jT) (rec : jRec) (h : jH) (o0 : Nat) (v1 : Int) (v2 : Int) : Option ((Int × Int × jH) ⊕ (Int × jH)) := (if v2 < 1600 then (if v1 = 0 then Option.map Sum.inr ((if v1 = 0 ∨ v1 = 1 then some (v1, h) else none)) else Option.bind (Pa_peek T h o0) (fun b5 => (if b5.1 = 43 then Pa_sum_p37 T rec b5.2 o0 v2 b5.1 else (if b5.1 = 45 then Pa_sum_p37 T rec b5.2 o0 v2 b5.1 else Option.map Sum.inr (some (1, b5.2)))))) else Option.map Sum.inr ((if v1 = 0 ∨ v1 = 1 then some (v1, h) else none)))
noncomputable def Pa_sum_L7 (T : jT) (rec : jRec) (h : jH) (o0 : Nat) (v1 : Int) (v2 : Int) : Option (Int × jH) := jloop (fun s : (Int × Int × jH) => Pa_sum_B7 T rec s.2.2 o0 s.1 s.2.1) (v1, v2, h)
set_option maxRecDepth 20000 in
theorem t_Pa_sum_B7 {T : jT} {xs : List Int} {d : Nat} {y : jV × jS} {rec : jRec} (hd : 6 ≤ d) (hrec : jRecOK T xs d rec) {h : jH}  {o0 : Nat} {v1 : Int} {v2 : Int} {out : ((Int × Int × jH) ⊕ (Int × jH))} (ho0 : isX4 T o0) (H : Pa_sum_B7 T rec h o0 v1 v2 = some out) (HY : yk_Pa_sum_L7 T xs d y o0 out) : jEv xs d (69, 7, [(2, Int.ofNat o0), (0, v1), (0, v2), (3, 0)], []) (T, h) y := by
  unfold Pa_sum_B7 at H
  refine jEv.blk [(.iload_n 2, 1, []), (.sipush 1600, 3, [])] (by decide +kernel) (pc' := 11) (ls' := [(2, Int.ofNat o0), (0, v1), (0, v2), (3, 0)]) (st' := [(0, 1600), (0, v2)]) rfl ?_
  refine jEv.ic_ge (t := 80) (show jfI 69 11 (.if_icmp .ge 69) 3 [] = true by decide +kernel) rfl H (fun c2 H => ?_) (fun c2 H => ?_)
  · refine jEv.blk [(.iload_n 1, 1, [])] (by decide +kernel) (pc' := 15) (ls' := [(2, Int.ofNat o0), (0, v1), (0, v2), (3, 0)]) (st' := [(0, v1)]) rfl ?_
    refine jEv.if_eq (t := 80) (show jfI 69 15 (.ifCond .eq 65) 3 [] = true by decide +kernel) rfl H (fun c3 H => ?_) (fun c3 H => ?_)
    · refine jmapr H HY (fun out H (HY : ykI T y out) => ?_)
      refine jEv.blk [(.iload_n 1, 1, [])] (by decide +kernel) (pc' := 81) (ls' := [(2, Int.ofNat o0), (0, v1), (0, v2), (3, 0)]) (st' := [(0, v1)]) rfl ?_
      refine jchk H (fun c4 H => ?_)
      exact jEv.retZ (show jfI 69 81 (.ireturn) 1 [] = true by decide +kernel) (by decide +kernel) c4 (by cases H; exact HY)
    · refine jEv.blk [(.aload_n 0, 1, [])] (by decide +kernel) (pc' := 19) (ls' := [(2, Int.ofNat o0), (0, v1), (0, v2), (3, 0)]) (st' := [(2, Int.ofNat o0)]) rfl ?_
      refine jbind H (fun b5 Hb5 H => ?_)
      refine jEv.calV (st' := [(0, b5.1)]) (show jfI 69 19 (.invokevirtual 54) 3 [1, 53, 0, 3137] = true by decide +kernel) rfl (Or.inl rfl) rfl (Nat.le_of_ble_eq_true rfl) (by decide +kernel) (by decide) (isX4_L ho0) ((t_Pa_peek (T := T) (xs := xs) ho0 Hb5).mono (jKle 1 hd)) rfl ?_
      refine jEv.blk [(.istore_n 3, 1, []), (.iload_n 3, 1, []), (.bipush 43, 2, [])] (by decide +kernel) (pc' := 26) (ls' := [(2, Int.ofNat o0), (0, v1), (0, v2), (0, b5.1)]) (st' := [(0, 43), (0, b5.1)]) rfl ?_
      refine jEv.ic_eq (t := 37) (show jfI 69 26 (.if_icmp .eq 11) 3 [] = true by decide +kernel) rfl H (fun c6 H => ?_) (fun c6 H => ?_)
      · exact jEv.weak (a := [(2, Int.ofNat o0), (3, 0), (0, v2), (0, b5.1)]) (jles.c1 (jles.c0 (jles.c1 (jles.c1 jles.nl)))) (t_Pa_sum_p37 (T := T) (xs := xs) (y := y) hd hrec ho0 H HY)
      · refine jEv.blk [(.iload_n 3, 1, []), (.bipush 45, 2, [])] (by decide +kernel) (pc' := 32) (ls' := [(2, Int.ofNat o0), (0, v1), (0, v2), (0, b5.1)]) (st' := [(0, 45), (0, b5.1)]) rfl ?_
        refine jEv.ic_eq (t := 37) (show jfI 69 32 (.if_icmp .eq 5) 3 [] = true by decide +kernel) rfl H (fun c7 H => ?_) (fun c7 H => ?_)
        · exact jEv.weak (a := [(2, Int.ofNat o0), (3, 0), (0, v2), (0, b5.1)]) (jles.c1 (jles.c0 (jles.c1 (jles.c1 jles.nl)))) (t_Pa_sum_p37 (T := T) (xs := xs) (y := y) hd hrec ho0 H HY)
        · refine jmapr H HY (fun out H (HY : ykI T y out) => ?_)
          refine jEv.blk [(.iconst 1, 1, [])] (by decide +kernel) (pc' := 36) (ls' := [(2, Int.ofNat o0), (0, v1), (0, v2), (0, b5.1)]) (st' := [(0, 1)]) rfl ?_
          exact jEv.retZ (show jfI 69 36 (.ireturn) 1 [] = true by decide +kernel) (by decide +kernel) (by decide) (by cases H; exact HY)
  · refine jmapr H HY (fun out H (HY : ykI T y out) => ?_)
    refine jEv.blk [(.iload_n 1, 1, [])] (by decide +kernel) (pc' := 81) (ls' := [(2, Int.ofNat o0), (0, v1), (0, v2), (3, 0)]) (st' := [(0, v1)]) rfl ?_
    refine jchk H (fun c8 H => ?_)
    exact jEv.retZ (show jfI 69 81 (.ireturn) 1 [] = true by decide +kernel) (by decide +kernel) c8 (by cases H; exact HY)
theorem t_Pa_sum_L7 {T : jT} {xs : List Int} {d : Nat} {y : jV × jS} {rec : jRec} (hd : 6 ≤ d) (hrec : jRecOK T xs d rec) {h : jH}  {o0 : Nat} {v1 : Int} {v2 : Int} {out : (Int × jH)} (ho0 : isX4 T o0) (H : Pa_sum_L7 T rec h o0 v1 v2 = some out) (HY : ykI T y out) : jEv xs d (69, 7, [(2, Int.ofNat o0), (0, v1), (0, v2), (3, 0)], []) (T, h) y :=
  jloop_sound (G := fun s : (Int × Int × jH) => jEv xs d (69, 7, [(2, Int.ofNat o0), (0, s.1), (0, s.2.1), (3, 0)], []) (T, s.2.2) y) (K := yk_Pa_sum_L7 T xs d y o0) (fun s out H HY => t_Pa_sum_B7 hd hrec ho0 H HY) (fun s' hg => hg) (s := (v1, v2, h)) H HY
set_option maxRecDepth 20000 in
noncomputable def Pa_sum_b (T : jT) (rec : jRec) (h : jH) (o0 : Nat) : Option (Int × jH) := Option.bind (rec.2.2.2.2.2.1 h o0) (fun b1 => Pa_sum_L7 T rec b1.2 o0 b1.1 0)
set_option maxRecDepth 20000 in
theorem t_Pa_sum_b {T : jT} {xs : List Int} {d : Nat} {rec : jRec} (hd : 6 ≤ d) (hrec : jRecOK T xs d rec) {h : jH}  {o0 : Nat} {out : (Int × jH)} (ho0 : isX4 T o0) (H : Pa_sum_b T rec h o0 = some out) : jEm xs (d + 1) 69 [(2, Int.ofNat o0)] (T, h) ((0, out.1), (T, out.2)) := by
  obtain ⟨y, ey⟩ : ∃ y : jV × jS, y = ((0, out.1), (T, out.2)) := ⟨_, rfl⟩
  rw [← ey]
  have HY : ykI T y out := ey
  refine jEm.ent (n := 4) (by decide +kernel) (Nat.le_of_ble_eq_true rfl) ?_
  show jEv xs d (69, 0, [(2, Int.ofNat o0), (3, 0), (3, 0), (3, 0)], []) (T, h) y
  unfold Pa_sum_b at H
  refine jEv.blk [(.aload_n 0, 1, [])] (by decide +kernel) (pc' := 1) (ls' := [(2, Int.ofNat o0), (3, 0), (3, 0), (3, 0)]) (st' := [(2, Int.ofNat o0)]) rfl ?_
  refine jbind H (fun b1 Hb1 H => ?_)
  refine jEv.calV (st' := [(0, b1.1)]) (show jfI 69 1 (.invokevirtual 217) 3 [1, 70, 0, 4030] = true by decide +kernel) rfl (Or.inl rfl) rfl (Nat.le_of_ble_eq_true rfl) (by decide +kernel) (by decide) (isX4_L ho0) (hrec.2.2.2.2.2.1 ho0 Hb1) rfl ?_
  refine jEv.blk [(.istore_n 1, 1, []), (.iconst 0, 1, []), (.istore_n 2, 1, [])] (by decide +kernel) (pc' := 7) (ls' := [(2, Int.ofNat o0), (0, b1.1), (0, 0), (3, 0)]) (st' := []) rfl ?_
  exact t_Pa_sum_L7 (T := T) (xs := xs) (y := y) hd hrec ho0 H HY
def yk_Pa_product_L7 (T : jT) (xs : List Int) (d : Nat) (y : jV × jS)  (o0 : Nat) : ((Int × Int × jH) ⊕ (Int × jH)) → Prop
  | .inl (v1, v2, h) => jEv xs d (70, 7, [(2, Int.ofNat o0), (0, v1), (0, v2), (3, 0)], []) (T, h) y
  | .inr o => ykI T y o
set_option maxRecDepth 20000 in
noncomputable def Pa_product_p71 (T : jT) (rec : jRec) (h : jH) (o0 : Nat) (v1 : Int) (v2 : Int) (os0 : Nat) (vs1 : Int) : Option ((Int × Int × jH) ⊕ (Int × jH)) := Option.bind (Fo_emit h os0 vs1) (fun b12 => some (.inl (v1, (wr (v2 + 1)), b12)))
set_option maxRecDepth 20000 in
theorem t_Pa_product_p71 {T : jT} {xs : List Int} {d : Nat} {y : jV × jS} {rec : jRec} (hd : 6 ≤ d) (hrec : jRecOK T xs d rec) {h : jH}  {o0 : Nat} {v1 : Int} {v2 : Int} {os0 : Nat} {vs1 : Int} {out : ((Int × Int × jH) ⊕ (Int × jH))} (ho0 : isX4 T o0) (hos0 : isX2 T os0) (H : Pa_product_p71 T rec h o0 v1 v2 os0 vs1 = some out) (HY : yk_Pa_product_L7 T xs d y o0 out) : jEv xs d (70, 71, [(2, Int.ofNat o0), (0, v1), (0, v2), (3, 0)], [(0, vs1), (2, Int.ofNat os0)]) (T, h) y := by
  unfold Pa_product_p71 at H
  refine jbind H (fun b12 Hb12 H => ?_)
  refine jEv.calV (st' := []) (show jfI 70 71 (.invokevirtual 195) 3 [1, 28, 1, 4024] = true by decide +kernel) rfl (Or.inl rfl) rfl (Nat.le_of_ble_eq_true rfl) (by decide +kernel) (by decide) (isX2_L hos0) ((t_Fo_emit (T := T) (xs := xs) hos0 Hb12).mono (jKle 2 hd)) rfl ?_
  refine jEv.blk [(.iinc 2 1, 3, [])] (by decide +kernel) (pc' := 77) (ls' := [(2, Int.ofNat o0), (0, v1), (0, (wr (v2 + 1))), (3, 0)]) (st' := []) rfl ?_
  refine jEv.goto (t := 7) (show jfI 70 77 (.goto (-70)) 3 [] = true by decide +kernel) rfl ?_
  exact (by cases H; exact HY)
set_option maxRecDepth 20000 in
noncomputable def Pa_product_p37 (T : jT) (rec : jRec) (h : jH) (o0 : Nat) (v2 : Int) (v3 : Int) : Option ((Int × Int × jH) ⊕ (Int × jH)) := Option.bind (rec.2.2.2.2.2.2.1 (jup h o0 7 (wr ((h o0 7) + 1))) o0) (fun b9 => Option.bind (jdyn (isX2 T) (b9.2 o0 9)) (fun q10 => (if v3 = 42 then Pa_product_p71 T rec b9.2 o0 b9.1 v2 q10 30007 else Pa_product_p71 T rec b9.2 o0 b9.1 v2 q10 30008)))
set_option maxRecDepth 20000 in
theorem t_Pa_product_p37 {T : jT} {xs : List Int} {d : Nat} {y : jV × jS} {rec : jRec} (hd : 6 ≤ d) (hrec : jRecOK T xs d rec) {h : jH}  {o0 : Nat} {v2 : Int} {v3 : Int} {out : ((Int × Int × jH) ⊕ (Int × jH))} (ho0 : isX4 T o0) (H : Pa_product_p37 T rec h o0 v2 v3 = some out) (HY : yk_Pa_product_L7 T xs d y o0 out) : jEv xs d (70, 37, [(2, Int.ofNat o0), (3, 0), (0, v2), (0, v3)], []) (T, h) y := by
  unfold Pa_product_p37 at H
  refine jEv.blk [(.aload_n 0, 1, []), (.dup, 1, [])] (by decide +kernel) (pc' := 39) (ls' := [(2, Int.ofNat o0), (3, 0), (0, v2), (0, v3)]) (st' := [(2, Int.ofNat o0), (2, Int.ofNat o0)]) rfl ?_
  refine jEv.gfI (show jfI 70 39 (.getfield 58) 3 [4, 7, 0, 0, 1138] = true by decide +kernel) (isX4_L ho0) (by decide) ?_
  refine jEv.blk [(.iconst 1, 1, []), (.iadd, 1, [])] (by decide +kernel) (pc' := 44) (ls' := [(2, Int.ofNat o0), (3, 0), (0, v2), (0, v3)]) (st' := [(0, (wr ((h o0 7) + 1))), (2, Int.ofNat o0)]) rfl ?_
  refine jEv.pfI (show jfI 70 44 (.putfield 58) 3 [4, 7, 0, 0, 1138] = true by decide +kernel) (isX4_L ho0) (by decide) ?_
  refine jEv.blk [(.aload_n 0, 1, [])] (by decide +kernel) (pc' := 48) (ls' := [(2, Int.ofNat o0), (3, 0), (0, v2), (0, v3)]) (st' := [(2, Int.ofNat o0)]) rfl ?_
  refine jbind H (fun b9 Hb9 H => ?_)
  refine jEv.calV (st' := [(0, b9.1)]) (show jfI 70 48 (.invokevirtual 220) 3 [1, 71, 0, 4034] = true by decide +kernel) rfl (Or.inl rfl) rfl (Nat.le_of_ble_eq_true rfl) (by decide +kernel) (by decide) (isX4_L ho0) (hrec.2.2.2.2.2.2.1 ho0 Hb9) rfl ?_
  refine jEv.blk [(.istore_n 1, 1, []), (.aload_n 0, 1, [])] (by decide +kernel) (pc' := 53) (ls' := [(2, Int.ofNat o0), (0, b9.1), (0, v2), (0, v3)]) (st' := [(2, Int.ofNat o0)]) rfl ?_
  refine jEv.gfD (show jfI 70 53 (.getfield 33) 3 [4, 9, 2, 0, 1140] = true by decide +kernel) (isX4_L ho0) (by decide) H (fun q10 hq10 H => ?_)
  refine jEv.blk [(.iload_n 3, 1, []), (.bipush 42, 2, [])] (by decide +kernel) (pc' := 59) (ls' := [(2, Int.ofNat o0), (0, b9.1), (0, v2), (0, v3)]) (st' := [(0, 42), (0, v3), (2, Int.ofNat q10)]) rfl ?_
  refine jEv.ic_ne (t := 68) (show jfI 70 59 (.if_icmp .ne 9) 3 [] = true by decide +kernel) rfl H (fun c11 H => ?_) (fun c11 H => ?_)
  · refine jEv.blk [(.sipush 30007, 3, [])] (by decide +kernel) (pc' := 65) (ls' := [(2, Int.ofNat o0), (0, b9.1), (0, v2), (0, v3)]) (st' := [(0, 30007), (2, Int.ofNat q10)]) rfl ?_
    refine jEv.goto (t := 71) (show jfI 70 65 (.goto 6) 3 [] = true by decide +kernel) rfl ?_
    exact jEv.weak (a := [(2, Int.ofNat o0), (0, b9.1), (0, v2), (3, 0)]) (jles.c1 (jles.c1 (jles.c1 (jles.c0 jles.nl)))) (t_Pa_product_p71 (T := T) (xs := xs) (y := y) hd hrec ho0 hq10 H HY)
  · refine jEv.blk [(.sipush 30008, 3, [])] (by decide +kernel) (pc' := 71) (ls' := [(2, Int.ofNat o0), (0, b9.1), (0, v2), (0, v3)]) (st' := [(0, 30008), (2, Int.ofNat q10)]) rfl ?_
    exact jEv.weak (a := [(2, Int.ofNat o0), (0, b9.1), (0, v2), (3, 0)]) (jles.c1 (jles.c1 (jles.c1 (jles.c0 jles.nl)))) (t_Pa_product_p71 (T := T) (xs := xs) (y := y) hd hrec ho0 hq10 H HY)
set_option maxRecDepth 20000 in
noncomputable def Pa_product_B7 (T : jT) (rec : jRec) (h : jH) (o0 : Nat) (v1 : Int) (v2 : Int) : Option ((Int × Int × jH) ⊕ (Int × jH)) := (if v2 < 1600 then (if v1 = 0 then Option.map Sum.inr ((if v1 = 0 ∨ v1 = 1 then some (v1, h) else none)) else Option.bind (Pa_peek T h o0) (fun b5 => (if b5.1 = 42 then Pa_product_p37 T rec b5.2 o0 v2 b5.1 else (if b5.1 = 47 then Pa_product_p37 T rec b5.2 o0 v2 b5.1 else Option.map Sum.inr (some (1, b5.2)))))) else Option.map Sum.inr ((if v1 = 0 ∨ v1 = 1 then some (v1, h) else none)))
noncomputable def Pa_product_L7 (T : jT) (rec : jRec) (h : jH) (o0 : Nat) (v1 : Int) (v2 : Int) : Option (Int × jH) := jloop (fun s : (Int × Int × jH) => Pa_product_B7 T rec s.2.2 o0 s.1 s.2.1) (v1, v2, h)
set_option maxRecDepth 20000 in
theorem t_Pa_product_B7 {T : jT} {xs : List Int} {d : Nat} {y : jV × jS} {rec : jRec} (hd : 6 ≤ d) (hrec : jRecOK T xs d rec) {h : jH}  {o0 : Nat} {v1 : Int} {v2 : Int} {out : ((Int × Int × jH) ⊕ (Int × jH))} (ho0 : isX4 T o0) (H : Pa_product_B7 T rec h o0 v1 v2 = some out) (HY : yk_Pa_product_L7 T xs d y o0 out) : jEv xs d (70, 7, [(2, Int.ofNat o0), (0, v1), (0, v2), (3, 0)], []) (T, h) y := by
  unfold Pa_product_B7 at H
  refine jEv.blk [(.iload_n 2, 1, []), (.sipush 1600, 3, [])] (by decide +kernel) (pc' := 11) (ls' := [(2, Int.ofNat o0), (0, v1), (0, v2), (3, 0)]) (st' := [(0, 1600), (0, v2)]) rfl ?_
  refine jEv.ic_ge (t := 80) (show jfI 70 11 (.if_icmp .ge 69) 3 [] = true by decide +kernel) rfl H (fun c2 H => ?_) (fun c2 H => ?_)
  · refine jEv.blk [(.iload_n 1, 1, [])] (by decide +kernel) (pc' := 15) (ls' := [(2, Int.ofNat o0), (0, v1), (0, v2), (3, 0)]) (st' := [(0, v1)]) rfl ?_
    refine jEv.if_eq (t := 80) (show jfI 70 15 (.ifCond .eq 65) 3 [] = true by decide +kernel) rfl H (fun c3 H => ?_) (fun c3 H => ?_)
    · refine jmapr H HY (fun out H (HY : ykI T y out) => ?_)
      refine jEv.blk [(.iload_n 1, 1, [])] (by decide +kernel) (pc' := 81) (ls' := [(2, Int.ofNat o0), (0, v1), (0, v2), (3, 0)]) (st' := [(0, v1)]) rfl ?_
      refine jchk H (fun c4 H => ?_)
      exact jEv.retZ (show jfI 70 81 (.ireturn) 1 [] = true by decide +kernel) (by decide +kernel) c4 (by cases H; exact HY)
    · refine jEv.blk [(.aload_n 0, 1, [])] (by decide +kernel) (pc' := 19) (ls' := [(2, Int.ofNat o0), (0, v1), (0, v2), (3, 0)]) (st' := [(2, Int.ofNat o0)]) rfl ?_
      refine jbind H (fun b5 Hb5 H => ?_)
      refine jEv.calV (st' := [(0, b5.1)]) (show jfI 70 19 (.invokevirtual 54) 3 [1, 53, 0, 3137] = true by decide +kernel) rfl (Or.inl rfl) rfl (Nat.le_of_ble_eq_true rfl) (by decide +kernel) (by decide) (isX4_L ho0) ((t_Pa_peek (T := T) (xs := xs) ho0 Hb5).mono (jKle 1 hd)) rfl ?_
      refine jEv.blk [(.istore_n 3, 1, []), (.iload_n 3, 1, []), (.bipush 42, 2, [])] (by decide +kernel) (pc' := 26) (ls' := [(2, Int.ofNat o0), (0, v1), (0, v2), (0, b5.1)]) (st' := [(0, 42), (0, b5.1)]) rfl ?_
      refine jEv.ic_eq (t := 37) (show jfI 70 26 (.if_icmp .eq 11) 3 [] = true by decide +kernel) rfl H (fun c6 H => ?_) (fun c6 H => ?_)
      · exact jEv.weak (a := [(2, Int.ofNat o0), (3, 0), (0, v2), (0, b5.1)]) (jles.c1 (jles.c0 (jles.c1 (jles.c1 jles.nl)))) (t_Pa_product_p37 (T := T) (xs := xs) (y := y) hd hrec ho0 H HY)
      · refine jEv.blk [(.iload_n 3, 1, []), (.bipush 47, 2, [])] (by decide +kernel) (pc' := 32) (ls' := [(2, Int.ofNat o0), (0, v1), (0, v2), (0, b5.1)]) (st' := [(0, 47), (0, b5.1)]) rfl ?_
        refine jEv.ic_eq (t := 37) (show jfI 70 32 (.if_icmp .eq 5) 3 [] = true by decide +kernel) rfl H (fun c7 H => ?_) (fun c7 H => ?_)
        · exact jEv.weak (a := [(2, Int.ofNat o0), (3, 0), (0, v2), (0, b5.1)]) (jles.c1 (jles.c0 (jles.c1 (jles.c1 jles.nl)))) (t_Pa_product_p37 (T := T) (xs := xs) (y := y) hd hrec ho0 H HY)
        · refine jmapr H HY (fun out H (HY : ykI T y out) => ?_)
          refine jEv.blk [(.iconst 1, 1, [])] (by decide +kernel) (pc' := 36) (ls' := [(2, Int.ofNat o0), (0, v1), (0, v2), (0, b5.1)]) (st' := [(0, 1)]) rfl ?_
          exact jEv.retZ (show jfI 70 36 (.ireturn) 1 [] = true by decide +kernel) (by decide +kernel) (by decide) (by cases H; exact HY)
  · refine jmapr H HY (fun out H (HY : ykI T y out) => ?_)
    refine jEv.blk [(.iload_n 1, 1, [])] (by decide +kernel) (pc' := 81) (ls' := [(2, Int.ofNat o0), (0, v1), (0, v2), (3, 0)]) (st' := [(0, v1)]) rfl ?_
    refine jchk H (fun c8 H => ?_)
    exact jEv.retZ (show jfI 70 81 (.ireturn) 1 [] = true by decide +kernel) (by decide +kernel) c8 (by cases H; exact HY)
theorem t_Pa_product_L7 {T : jT} {xs : List Int} {d : Nat} {y : jV × jS} {rec : jRec} (hd : 6 ≤ d) (hrec : jRecOK T xs d rec) {h : jH}  {o0 : Nat} {v1 : Int} {v2 : Int} {out : (Int × jH)} (ho0 : isX4 T o0) (H : Pa_product_L7 T rec h o0 v1 v2 = some out) (HY : ykI T y out) : jEv xs d (70, 7, [(2, Int.ofNat o0), (0, v1), (0, v2), (3, 0)], []) (T, h) y :=
  jloop_sound (G := fun s : (Int × Int × jH) => jEv xs d (70, 7, [(2, Int.ofNat o0), (0, s.1), (0, s.2.1), (3, 0)], []) (T, s.2.2) y) (K := yk_Pa_product_L7 T xs d y o0) (fun s out H HY => t_Pa_product_B7 hd hrec ho0 H HY) (fun s' hg => hg) (s := (v1, v2, h)) H HY
set_option maxRecDepth 20000 in
noncomputable def Pa_product_b (T : jT) (rec : jRec) (h : jH) (o0 : Nat) : Option (Int × jH) := Option.bind (rec.2.2.2.2.2.2.1 h o0) (fun b1 => Pa_product_L7 T rec b1.2 o0 b1.1 0)
set_option maxRecDepth 20000 in
theorem t_Pa_product_b {T : jT} {xs : List Int} {d : Nat} {rec : jRec} (hd : 6 ≤ d) (hrec : jRecOK T xs d rec) {h : jH}  {o0 : Nat} {out : (Int × jH)} (ho0 : isX4 T o0) (H : Pa_product_b T rec h o0 = some out) : jEm xs (d + 1) 70 [(2, Int.ofNat o0)] (T, h) ((0, out.1), (T, out.2)) := by
  obtain ⟨y, ey⟩ : ∃ y : jV × jS, y = ((0, out.1), (T, out.2)) := ⟨_, rfl⟩
  rw [← ey]
  have HY : ykI T y out := ey
  refine jEm.ent (n := 4) (by decide +kernel) (Nat.le_of_ble_eq_true rfl) ?_
  show jEv xs d (70, 0, [(2, Int.ofNat o0), (3, 0), (3, 0), (3, 0)], []) (T, h) y
  unfold Pa_product_b at H
  refine jEv.blk [(.aload_n 0, 1, [])] (by decide +kernel) (pc' := 1) (ls' := [(2, Int.ofNat o0), (3, 0), (3, 0), (3, 0)]) (st' := [(2, Int.ofNat o0)]) rfl ?_
  refine jbind H (fun b1 Hb1 H => ?_)
  refine jEv.calV (st' := [(0, b1.1)]) (show jfI 70 1 (.invokevirtual 220) 3 [1, 71, 0, 4034] = true by decide +kernel) rfl (Or.inl rfl) rfl (Nat.le_of_ble_eq_true rfl) (by decide +kernel) (by decide) (isX4_L ho0) (hrec.2.2.2.2.2.2.1 ho0 Hb1) rfl ?_
  refine jEv.blk [(.istore_n 1, 1, []), (.iconst 0, 1, []), (.istore_n 2, 1, [])] (by decide +kernel) (pc' := 7) (ls' := [(2, Int.ofNat o0), (0, b1.1), (0, 0), (3, 0)]) (st' := []) rfl ?_
  exact t_Pa_product_L7 (T := T) (xs := xs) (y := y) hd hrec ho0 H HY
set_option maxRecDepth 20000 in
noncomputable def Pa_part_p208 (T : jT) (rec : jRec) (h : jH)  : Option (Int × jH) := some (1, h)
set_option maxRecDepth 20000 in
theorem t_Pa_part_p208 {T : jT} {xs : List Int} {d : Nat} {y : jV × jS} {rec : jRec} (hd : 6 ≤ d) (hrec : jRecOK T xs d rec) {h : jH}   {out : (Int × jH)}  (H : Pa_part_p208 T rec h = some out) (HY : ykI T y out) : jEv xs d (71, 208, [(3, 0), (3, 0), (3, 0), (3, 0)], []) (T, h) y := by
  unfold Pa_part_p208 at H
  refine jEv.blk [(.iconst 1, 1, [])] (by decide +kernel) (pc' := 209) (ls' := [(3, 0), (3, 0), (3, 0), (3, 0)]) (st' := [(0, 1)]) rfl ?_
  refine jEv.goto (t := 213) (show jfI 71 209 (.goto 4) 3 [] = true by decide +kernel) rfl ?_
  exact jEv.retZ (show jfI 71 213 (.ireturn) 1 [] = true by decide +kernel) (by decide +kernel) (by decide) (by cases H; exact HY)
set_option maxRecDepth 20000 in
noncomputable def Pa_part_p177 (T : jT) (rec : jRec) (h : jH) (o0 : Nat) (v2 : Int) : Option (Int × jH) := Option.bind (Pa_factNamed T h o0) (fun b36 => Option.bind (jdyn (isX2 T) (b36.2 o0 9)) (fun q37 => Option.bind (Fo_emit b36.2 q37 (wr (10000 + b36.1))) (fun b38 => (if b36.1 = (-1) then Option.bind (Pa_fail b38 o0 1 v2) (fun b40 => (if b40.1 = 0 then some (0, b40.2) else Pa_part_p208 T rec b40.2)) else Pa_part_p208 T rec b38))))
set_option maxRecDepth 20000 in
theorem t_Pa_part_p177 {T : jT} {xs : List Int} {d : Nat} {y : jV × jS} {rec : jRec} (hd : 6 ≤ d) (hrec : jRecOK T xs d rec) {h : jH}  {o0 : Nat} {v2 : Int} {out : (Int × jH)} (ho0 : isX4 T o0) (H : Pa_part_p177 T rec h o0 v2 = some out) (HY : ykI T y out) : jEv xs d (71, 177, [(2, Int.ofNat o0), (3, 0), (0, v2), (3, 0)], []) (T, h) y := by
  unfold Pa_part_p177 at H
  refine jEv.blk [(.aload_n 0, 1, [])] (by decide +kernel) (pc' := 178) (ls' := [(2, Int.ofNat o0), (3, 0), (0, v2), (3, 0)]) (st' := [(2, Int.ofNat o0)]) rfl ?_
  refine jbind H (fun b36 Hb36 H => ?_)
  refine jEv.calV (st' := [(0, b36.1)]) (show jfI 71 178 (.invokevirtual 236) 3 [1, 74, 0, 4050] = true by decide +kernel) rfl (Or.inl rfl) rfl (Nat.le_of_ble_eq_true rfl) (by decide +kernel) (by decide) (isX4_L ho0) ((t_Pa_factNamed (T := T) (xs := xs) ho0 Hb36).mono (jKle 6 hd)) rfl ?_
  refine jEv.blk [(.istore_n 3, 1, []), (.aload_n 0, 1, [])] (by decide +kernel) (pc' := 183) (ls' := [(2, Int.ofNat o0), (3, 0), (0, v2), (0, b36.1)]) (st' := [(2, Int.ofNat o0)]) rfl ?_
  refine jEv.gfD (show jfI 71 183 (.getfield 33) 3 [4, 9, 2, 0, 1140] = true by decide +kernel) (isX4_L ho0) (by decide) H (fun q37 hq37 H => ?_)
  refine jEv.blk [(.sipush 10000, 3, []), (.iload_n 3, 1, []), (.iadd, 1, [])] (by decide +kernel) (pc' := 191) (ls' := [(2, Int.ofNat o0), (3, 0), (0, v2), (0, b36.1)]) (st' := [(0, (wr (10000 + b36.1))), (2, Int.ofNat q37)]) rfl ?_
  refine jbind H (fun b38 Hb38 H => ?_)
  refine jEv.calV (st' := []) (show jfI 71 191 (.invokevirtual 195) 3 [1, 28, 1, 4024] = true by decide +kernel) rfl (Or.inl rfl) rfl (Nat.le_of_ble_eq_true rfl) (by decide +kernel) (by decide) (isX2_L hq37) ((t_Fo_emit (T := T) (xs := xs) hq37 Hb38).mono (jKle 2 hd)) rfl ?_
  refine jEv.blk [(.iload_n 3, 1, []), (.iconst (-1), 1, [])] (by decide +kernel) (pc' := 196) (ls' := [(2, Int.ofNat o0), (3, 0), (0, v2), (0, b36.1)]) (st' := [(0, (-1)), (0, b36.1)]) rfl ?_
  refine jEv.ic_ne (t := 208) (show jfI 71 196 (.if_icmp .ne 12) 3 [] = true by decide +kernel) rfl H (fun c39 H => ?_) (fun c39 H => ?_)
  · refine jEv.blk [(.aload_n 0, 1, []), (.iconst 1, 1, []), (.iload_n 2, 1, [])] (by decide +kernel) (pc' := 202) (ls' := [(2, Int.ofNat o0), (3, 0), (0, v2), (0, b36.1)]) (st' := [(0, v2), (0, 1), (2, Int.ofNat o0)]) rfl ?_
    refine jbind H (fun b40 Hb40 H => ?_)
    refine jEv.calV (st' := [(0, b40.1)]) (show jfI 71 202 (.invokevirtual 61) 3 [1, 55, 2, 3193] = true by decide +kernel) rfl (Or.inl rfl) rfl (Nat.le_of_ble_eq_true rfl) (by decide +kernel) (by decide) (isX4_L ho0) ((t_Pa_fail (T := T) (xs := xs) ho0 Hb40).mono (jKle 1 hd)) rfl ?_
    refine jEv.if_eq (t := 212) (show jfI 71 205 (.ifCond .eq 7) 3 [] = true by decide +kernel) rfl H (fun c41 H => ?_) (fun c41 H => ?_)
    · refine jEv.blk [(.iconst 0, 1, [])] (by decide +kernel) (pc' := 213) (ls' := [(2, Int.ofNat o0), (3, 0), (0, v2), (0, b36.1)]) (st' := [(0, 0)]) rfl ?_
      exact jEv.retZ (show jfI 71 213 (.ireturn) 1 [] = true by decide +kernel) (by decide +kernel) (by decide) (by cases H; exact HY)
    · exact jEv.weak (a := [(3, 0), (3, 0), (3, 0), (3, 0)]) (jles.c0 (jles.c0 (jles.c0 (jles.c0 jles.nl)))) (t_Pa_part_p208 (T := T) (xs := xs) (y := y) hd hrec H HY)
  · exact jEv.weak (a := [(3, 0), (3, 0), (3, 0), (3, 0)]) (jles.c0 (jles.c0 (jles.c0 (jles.c0 jles.nl)))) (t_Pa_part_p208 (T := T) (xs := xs) (y := y) hd hrec H HY)
set_option maxRecDepth 20000 in
noncomputable def Pa_part_p151 (T : jT) (rec : jRec) (h : jH) (o0 : Nat) (v2 : Int) : Option (Int × jH) := (if (h o0 10) = 2 then Option.bind (Pa_word T h o0 [118, 97, 108, 117, 101]) (fun b32 => (if b32.1 = 0 then Pa_part_p177 T rec b32.2 o0 v2 else Option.bind (rec.2.2.2.2.2.2.2.2 b32.2 o0 20002 v2) (fun b34 => (if b34.1 = 0 ∨ b34.1 = 1 then some (b34.1, b34.2) else none)))) else Pa_part_p177 T rec h o0 v2)
set_option maxRecDepth 20000 in
theorem t_Pa_part_p151 {T : jT} {xs : List Int} {d : Nat} {y : jV × jS} {rec : jRec} (hd : 6 ≤ d) (hrec : jRecOK T xs d rec) {h : jH}  {o0 : Nat} {v2 : Int} {out : (Int × jH)} (ho0 : isX4 T o0) (H : Pa_part_p151 T rec h o0 v2 = some out) (HY : ykI T y out) : jEv xs d (71, 151, [(2, Int.ofNat o0), (3, 0), (0, v2), (3, 0)], []) (T, h) y := by
  unfold Pa_part_p151 at H
  refine jEv.blk [(.aload_n 0, 1, [])] (by decide +kernel) (pc' := 152) (ls' := [(2, Int.ofNat o0), (3, 0), (0, v2), (3, 0)]) (st' := [(2, Int.ofNat o0)]) rfl ?_
  refine jEv.gfI (show jfI 71 152 (.getfield 184) 3 [4, 10, 0, 0, 1141] = true by decide +kernel) (isX4_L ho0) (by decide) ?_
  refine jEv.blk [(.iconst 2, 1, [])] (by decide +kernel) (pc' := 156) (ls' := [(2, Int.ofNat o0), (3, 0), (0, v2), (3, 0)]) (st' := [(0, 2), (0, (h o0 10))]) rfl ?_
  refine jEv.ic_ne (t := 177) (show jfI 71 156 (.if_icmp .ne 21) 3 [] = true by decide +kernel) rfl H (fun c31 H => ?_) (fun c31 H => ?_)
  · refine jEv.blk [(.aload_n 0, 1, []), (.ldc 234, 2, [4, 38, 0, 4049])] (by decide +kernel) (pc' := 162) (ls' := [(2, Int.ofNat o0), (3, 0), (0, v2), (3, 0)]) (st' := [(4, 38), (2, Int.ofNat o0)]) rfl ?_
    refine jbind H (fun b32 Hb32 H => ?_)
    refine jEv.calV (st' := [(0, b32.1)]) (show jfI 71 162 (.invokevirtual 114) 3 [1, 52, 1, 3133] = true by decide +kernel) rfl (Or.inl rfl) rfl (Nat.le_of_ble_eq_true rfl) (by decide +kernel) (by decide) (isX4_L ho0) ((t_Pa_word (T := T) (xs := xs) ho0 (jIsS_38) Hb32).mono (jKle 5 hd)) rfl ?_
    refine jEv.if_eq (t := 177) (show jfI 71 165 (.ifCond .eq 12) 3 [] = true by decide +kernel) rfl H (fun c33 H => ?_) (fun c33 H => ?_)
    · exact t_Pa_part_p177 (T := T) (xs := xs) (y := y) hd hrec ho0 H HY
    · refine jEv.blk [(.aload_n 0, 1, []), (.sipush 20002, 3, []), (.iload_n 2, 1, [])] (by decide +kernel) (pc' := 173) (ls' := [(2, Int.ofNat o0), (3, 0), (0, v2), (3, 0)]) (st' := [(0, v2), (0, 20002), (2, Int.ofNat o0)]) rfl ?_
      refine jbind H (fun b34 Hb34 H => ?_)
      refine jEv.calV (st' := [(0, b34.1)]) (show jfI 71 173 (.invokevirtual 231) 3 [1, 73, 2, 4045] = true by decide +kernel) rfl (Or.inl rfl) rfl (Nat.le_of_ble_eq_true rfl) (by decide +kernel) (by decide) (isX4_L ho0) (hrec.2.2.2.2.2.2.2.2 ho0 Hb34) rfl ?_
      refine jchk H (fun c35 H => ?_)
      exact jEv.retZ (show jfI 71 176 (.ireturn) 1 [] = true by decide +kernel) (by decide +kernel) c35 (by cases H; exact HY)
  · exact t_Pa_part_p177 (T := T) (xs := xs) (y := y) hd hrec ho0 H HY
set_option maxRecDepth 20000 in
noncomputable def Pa_part_p89 (T : jT) (rec : jRec) (h : jH)  : Option (Int × jH) := some (0, h)
set_option maxRecDepth 20000 in
theorem t_Pa_part_p89 {T : jT} {xs : List Int} {d : Nat} {y : jV × jS} {rec : jRec} (hd : 6 ≤ d) (hrec : jRecOK T xs d rec) {h : jH}   {out : (Int × jH)}  (H : Pa_part_p89 T rec h = some out) (HY : ykI T y out) : jEv xs d (71, 89, [(3, 0), (3, 0), (3, 0), (3, 0)], []) (T, h) y := by
  unfold Pa_part_p89 at H
  refine jEv.blk [(.iconst 0, 1, [])] (by decide +kernel) (pc' := 90) (ls' := [(3, 0), (3, 0), (3, 0), (3, 0)]) (st' := [(0, 0)]) rfl ?_
  exact jEv.retZ (show jfI 71 90 (.ireturn) 1 [] = true by decide +kernel) (by decide +kernel) (by decide) (by cases H; exact HY)
set_option maxRecDepth 20000 in
noncomputable def Pa_part_b (T : jT) (rec : jRec) (h : jH) (o0 : Nat) : Option (Int × jH) := Option.bind (Pa_peek T h o0) (fun b1 => Option.bind (Pa_isDigit b1.1) (fun b2 => (if b2 = 0 then Option.bind (Pa_sign T b1.2 o0 40) (fun b4 => (if b4.1 = 0 then Option.bind (Pa_word T b4.2 o0 [109, 105, 110]) (fun b6 => (if b6.1 = 0 then Option.bind (Pa_word T b6.2 o0 [109, 97, 120]) (fun b8 => (if b8.1 = 0 then (if (b8.2 o0 10) = 2 then Option.bind (Pa_word T b8.2 o0 [111, 99, 116, 101, 116]) (fun b11 => (if b11.1 = 0 then Pa_part_p151 T rec b11.2 o0 (b1.2 o0 7) else Option.bind (rec.2.2.2.2.2.2.2.2 b11.2 o0 20001 (b1.2 o0 7)) (fun b13 => (if b13.1 = 0 ∨ b13.1 = 1 then some (b13.1, b13.2) else none)))) else Pa_part_p151 T rec b8.2 o0 (b1.2 o0 7)) else Option.bind (rec.2.2.2.2.2.2.2.1 b8.2 o0 30010) (fun b15 => (if b15.1 = 0 ∨ b15.1 = 1 then some (b15.1, b15.2) else none)))) else Option.bind (rec.2.2.2.2.2.2.2.1 b6.2 o0 30009) (fun b17 => (if b17.1 = 0 ∨ b17.1 = 1 then some (b17.1, b17.2) else none)))) else Option.bind (Pa_opens b4.2 o0 (b1.2 o0 7)) (fun b19 => (if b19.1 = 0 then Pa_part_p89 T rec b19.2 else Option.bind (rec.2.2.2.2.1 b19.2 o0) (fun b21 => (if b21.1 = 0 then Pa_part_p89 T rec b21.2 else Option.bind (Pa_expect T b21.2 o0 41) (fun b23 => (if b23.1 = 0 then Pa_part_p89 T rec b23.2 else Option.bind (Pa_ends b23.2 o0) (fun b25 => (if b25.1 = 0 then Pa_part_p89 T rec b25.2 else some (1, b25.2))))))))))) else Option.bind (Pa_number T b1.2 o0 0 9999) (fun b27 => Option.bind (jdyn (isX2 T) (b27.2 o0 9)) (fun q28 => Option.bind (Fo_emit b27.2 q28 b27.1) (fun b29 => (if b27.1 = (-1) then some (0, b29) else some (1, b29))))))))
set_option maxRecDepth 20000 in
theorem t_Pa_part_b {T : jT} {xs : List Int} {d : Nat} {rec : jRec} (hd : 6 ≤ d) (hrec : jRecOK T xs d rec) {h : jH}  {o0 : Nat} {out : (Int × jH)} (ho0 : isX4 T o0) (H : Pa_part_b T rec h o0 = some out) : jEm xs (d + 1) 71 [(2, Int.ofNat o0)] (T, h) ((0, out.1), (T, out.2)) := by
  obtain ⟨y, ey⟩ : ∃ y : jV × jS, y = ((0, out.1), (T, out.2)) := ⟨_, rfl⟩
  rw [← ey]
  have HY : ykI T y out := ey
  refine jEm.ent (n := 4) (by decide +kernel) (Nat.le_of_ble_eq_true rfl) ?_
  show jEv xs d (71, 0, [(2, Int.ofNat o0), (3, 0), (3, 0), (3, 0)], []) (T, h) y
  unfold Pa_part_b at H
  refine jEv.blk [(.aload_n 0, 1, [])] (by decide +kernel) (pc' := 1) (ls' := [(2, Int.ofNat o0), (3, 0), (3, 0), (3, 0)]) (st' := [(2, Int.ofNat o0)]) rfl ?_
  refine jbind H (fun b1 Hb1 H => ?_)
  refine jEv.calV (st' := [(0, b1.1)]) (show jfI 71 1 (.invokevirtual 54) 3 [1, 53, 0, 3137] = true by decide +kernel) rfl (Or.inl rfl) rfl (Nat.le_of_ble_eq_true rfl) (by decide +kernel) (by decide) (isX4_L ho0) ((t_Pa_peek (T := T) (xs := xs) ho0 Hb1).mono (jKle 1 hd)) rfl ?_
  refine jEv.blk [(.istore_n 1, 1, []), (.aload_n 0, 1, [])] (by decide +kernel) (pc' := 6) (ls' := [(2, Int.ofNat o0), (0, b1.1), (3, 0), (3, 0)]) (st' := [(2, Int.ofNat o0)]) rfl ?_
  refine jEv.gfI (show jfI 71 6 (.getfield 58) 3 [4, 7, 0, 0, 1138] = true by decide +kernel) (isX4_L ho0) (by decide) ?_
  refine jEv.blk [(.istore_n 2, 1, []), (.iload_n 1, 1, [])] (by decide +kernel) (pc' := 11) (ls' := [(2, Int.ofNat o0), (0, b1.1), (0, (b1.2 o0 7)), (3, 0)]) (st' := [(0, b1.1)]) rfl ?_
  refine jbind H (fun b2 Hb2 H => ?_)
  refine jEv.calS (st' := [(0, b2)]) (show jfI 71 11 (.invokestatic 118) 3 [3, 57, 1, 3201] = true by decide +kernel) rfl (Or.inl rfl) rfl (Nat.le_of_ble_eq_true rfl) ((t_Pa_isDigit (T := T) (xs := xs)  Hb2).mono (jKle 1 hd)) rfl ?_
  refine jEv.if_eq (t := 45) (show jfI 71 14 (.ifCond .eq 31) 3 [] = true by decide +kernel) rfl H (fun c3 H => ?_) (fun c3 H => ?_)
  · refine jEv.blk [(.aload_n 0, 1, []), (.bipush 40, 2, [])] (by decide +kernel) (pc' := 48) (ls' := [(2, Int.ofNat o0), (0, b1.1), (0, (b1.2 o0 7)), (3, 0)]) (st' := [(0, 40), (2, Int.ofNat o0)]) rfl ?_
    refine jbind H (fun b4 Hb4 H => ?_)
    refine jEv.calV (st' := [(0, b4.1)]) (show jfI 71 48 (.invokevirtual 99) 3 [1, 59, 1, 3210] = true by decide +kernel) rfl (Or.inl rfl) rfl (Nat.le_of_ble_eq_true rfl) (by decide +kernel) (by decide) (isX4_L ho0) ((t_Pa_sign (T := T) (xs := xs) ho0 Hb4).mono (jKle 2 hd)) rfl ?_
    refine jEv.if_eq (t := 91) (show jfI 71 51 (.ifCond .eq 40) 3 [] = true by decide +kernel) rfl H (fun c5 H => ?_) (fun c5 H => ?_)
    · refine jEv.blk [(.aload_n 0, 1, []), (.ldc 223, 2, [4, 22, 0, 4038])] (by decide +kernel) (pc' := 94) (ls' := [(2, Int.ofNat o0), (0, b1.1), (0, (b1.2 o0 7)), (3, 0)]) (st' := [(4, 22), (2, Int.ofNat o0)]) rfl ?_
      refine jbind H (fun b6 Hb6 H => ?_)
      refine jEv.calV (st' := [(0, b6.1)]) (show jfI 71 94 (.invokevirtual 114) 3 [1, 52, 1, 3133] = true by decide +kernel) rfl (Or.inl rfl) rfl (Nat.le_of_ble_eq_true rfl) (by decide +kernel) (by decide) (isX4_L ho0) ((t_Pa_word (T := T) (xs := xs) ho0 (jIsS_22) Hb6).mono (jKle 5 hd)) rfl ?_
      refine jEv.if_eq (t := 108) (show jfI 71 97 (.ifCond .eq 11) 3 [] = true by decide +kernel) rfl H (fun c7 H => ?_) (fun c7 H => ?_)
      · refine jEv.blk [(.aload_n 0, 1, []), (.ldc 227, 2, [4, 21, 0, 4043])] (by decide +kernel) (pc' := 111) (ls' := [(2, Int.ofNat o0), (0, b1.1), (0, (b1.2 o0 7)), (3, 0)]) (st' := [(4, 21), (2, Int.ofNat o0)]) rfl ?_
        refine jbind H (fun b8 Hb8 H => ?_)
        refine jEv.calV (st' := [(0, b8.1)]) (show jfI 71 111 (.invokevirtual 114) 3 [1, 52, 1, 3133] = true by decide +kernel) rfl (Or.inl rfl) rfl (Nat.le_of_ble_eq_true rfl) (by decide +kernel) (by decide) (isX4_L ho0) ((t_Pa_word (T := T) (xs := xs) ho0 (jIsS_21) Hb8).mono (jKle 5 hd)) rfl ?_
        refine jEv.if_eq (t := 125) (show jfI 71 114 (.ifCond .eq 11) 3 [] = true by decide +kernel) rfl H (fun c9 H => ?_) (fun c9 H => ?_)
        · refine jEv.blk [(.aload_n 0, 1, [])] (by decide +kernel) (pc' := 126) (ls' := [(2, Int.ofNat o0), (0, b1.1), (0, (b1.2 o0 7)), (3, 0)]) (st' := [(2, Int.ofNat o0)]) rfl ?_
          refine jEv.gfI (show jfI 71 126 (.getfield 184) 3 [4, 10, 0, 0, 1141] = true by decide +kernel) (isX4_L ho0) (by decide) ?_
          refine jEv.blk [(.iconst 2, 1, [])] (by decide +kernel) (pc' := 130) (ls' := [(2, Int.ofNat o0), (0, b1.1), (0, (b1.2 o0 7)), (3, 0)]) (st' := [(0, 2), (0, (b8.2 o0 10))]) rfl ?_
          refine jEv.ic_ne (t := 151) (show jfI 71 130 (.if_icmp .ne 21) 3 [] = true by decide +kernel) rfl H (fun c10 H => ?_) (fun c10 H => ?_)
          · refine jEv.blk [(.aload_n 0, 1, []), (.ldc 229, 2, [4, 27, 0, 4044])] (by decide +kernel) (pc' := 136) (ls' := [(2, Int.ofNat o0), (0, b1.1), (0, (b1.2 o0 7)), (3, 0)]) (st' := [(4, 27), (2, Int.ofNat o0)]) rfl ?_
            refine jbind H (fun b11 Hb11 H => ?_)
            refine jEv.calV (st' := [(0, b11.1)]) (show jfI 71 136 (.invokevirtual 114) 3 [1, 52, 1, 3133] = true by decide +kernel) rfl (Or.inl rfl) rfl (Nat.le_of_ble_eq_true rfl) (by decide +kernel) (by decide) (isX4_L ho0) ((t_Pa_word (T := T) (xs := xs) ho0 (jIsS_27) Hb11).mono (jKle 5 hd)) rfl ?_
            refine jEv.if_eq (t := 151) (show jfI 71 139 (.ifCond .eq 12) 3 [] = true by decide +kernel) rfl H (fun c12 H => ?_) (fun c12 H => ?_)
            · exact jEv.weak (a := [(2, Int.ofNat o0), (3, 0), (0, (b1.2 o0 7)), (3, 0)]) (jles.c1 (jles.c0 (jles.c1 (jles.c0 jles.nl)))) (t_Pa_part_p151 (T := T) (xs := xs) (y := y) hd hrec ho0 H HY)
            · refine jEv.blk [(.aload_n 0, 1, []), (.sipush 20001, 3, []), (.iload_n 2, 1, [])] (by decide +kernel) (pc' := 147) (ls' := [(2, Int.ofNat o0), (0, b1.1), (0, (b1.2 o0 7)), (3, 0)]) (st' := [(0, (b1.2 o0 7)), (0, 20001), (2, Int.ofNat o0)]) rfl ?_
              refine jbind H (fun b13 Hb13 H => ?_)
              refine jEv.calV (st' := [(0, b13.1)]) (show jfI 71 147 (.invokevirtual 231) 3 [1, 73, 2, 4045] = true by decide +kernel) rfl (Or.inl rfl) rfl (Nat.le_of_ble_eq_true rfl) (by decide +kernel) (by decide) (isX4_L ho0) (hrec.2.2.2.2.2.2.2.2 ho0 Hb13) rfl ?_
              refine jchk H (fun c14 H => ?_)
              exact jEv.retZ (show jfI 71 150 (.ireturn) 1 [] = true by decide +kernel) (by decide +kernel) c14 (by cases H; exact HY)
          · exact jEv.weak (a := [(2, Int.ofNat o0), (3, 0), (0, (b1.2 o0 7)), (3, 0)]) (jles.c1 (jles.c0 (jles.c1 (jles.c0 jles.nl)))) (t_Pa_part_p151 (T := T) (xs := xs) (y := y) hd hrec ho0 H HY)
        · refine jEv.blk [(.aload_n 0, 1, []), (.sipush 30010, 3, [])] (by decide +kernel) (pc' := 121) (ls' := [(2, Int.ofNat o0), (0, b1.1), (0, (b1.2 o0 7)), (3, 0)]) (st' := [(0, 30010), (2, Int.ofNat o0)]) rfl ?_
          refine jbind H (fun b15 Hb15 H => ?_)
          refine jEv.calV (st' := [(0, b15.1)]) (show jfI 71 121 (.invokevirtual 224) 3 [1, 72, 1, 4039] = true by decide +kernel) rfl (Or.inl rfl) rfl (Nat.le_of_ble_eq_true rfl) (by decide +kernel) (by decide) (isX4_L ho0) (hrec.2.2.2.2.2.2.2.1 ho0 Hb15) rfl ?_
          refine jchk H (fun c16 H => ?_)
          exact jEv.retZ (show jfI 71 124 (.ireturn) 1 [] = true by decide +kernel) (by decide +kernel) c16 (by cases H; exact HY)
      · refine jEv.blk [(.aload_n 0, 1, []), (.sipush 30009, 3, [])] (by decide +kernel) (pc' := 104) (ls' := [(2, Int.ofNat o0), (0, b1.1), (0, (b1.2 o0 7)), (3, 0)]) (st' := [(0, 30009), (2, Int.ofNat o0)]) rfl ?_
        refine jbind H (fun b17 Hb17 H => ?_)
        refine jEv.calV (st' := [(0, b17.1)]) (show jfI 71 104 (.invokevirtual 224) 3 [1, 72, 1, 4039] = true by decide +kernel) rfl (Or.inl rfl) rfl (Nat.le_of_ble_eq_true rfl) (by decide +kernel) (by decide) (isX4_L ho0) (hrec.2.2.2.2.2.2.2.1 ho0 Hb17) rfl ?_
        refine jchk H (fun c18 H => ?_)
        exact jEv.retZ (show jfI 71 107 (.ireturn) 1 [] = true by decide +kernel) (by decide +kernel) c18 (by cases H; exact HY)
    · refine jEv.blk [(.aload_n 0, 1, []), (.iload_n 2, 1, [])] (by decide +kernel) (pc' := 56) (ls' := [(2, Int.ofNat o0), (0, b1.1), (0, (b1.2 o0 7)), (3, 0)]) (st' := [(0, (b1.2 o0 7)), (2, Int.ofNat o0)]) rfl ?_
      refine jbind H (fun b19 Hb19 H => ?_)
      refine jEv.calV (st' := [(0, b19.1)]) (show jfI 71 56 (.invokevirtual 209) 3 [1, 67, 1, 4016] = true by decide +kernel) rfl (Or.inl rfl) rfl (Nat.le_of_ble_eq_true rfl) (by decide +kernel) (by decide) (isX4_L ho0) ((t_Pa_opens (T := T) (xs := xs) ho0 Hb19).mono (jKle 2 hd)) rfl ?_
      refine jEv.if_eq (t := 89) (show jfI 71 59 (.ifCond .eq 30) 3 [] = true by decide +kernel) rfl H (fun c20 H => ?_) (fun c20 H => ?_)
      · exact jEv.weak (a := [(3, 0), (3, 0), (3, 0), (3, 0)]) (jles.c0 (jles.c0 (jles.c0 (jles.c0 jles.nl)))) (t_Pa_part_p89 (T := T) (xs := xs) (y := y) hd hrec H HY)
      · refine jEv.blk [(.aload_n 0, 1, [])] (by decide +kernel) (pc' := 63) (ls' := [(2, Int.ofNat o0), (0, b1.1), (0, (b1.2 o0 7)), (3, 0)]) (st' := [(2, Int.ofNat o0)]) rfl ?_
        refine jbind H (fun b21 Hb21 H => ?_)
        refine jEv.calV (st' := [(0, b21.1)]) (show jfI 71 63 (.invokevirtual 81) 3 [1, 69, 0, 4026] = true by decide +kernel) rfl (Or.inl rfl) rfl (Nat.le_of_ble_eq_true rfl) (by decide +kernel) (by decide) (isX4_L ho0) (hrec.2.2.2.2.1 ho0 Hb21) rfl ?_
        refine jEv.if_eq (t := 89) (show jfI 71 66 (.ifCond .eq 23) 3 [] = true by decide +kernel) rfl H (fun c22 H => ?_) (fun c22 H => ?_)
        · exact jEv.weak (a := [(3, 0), (3, 0), (3, 0), (3, 0)]) (jles.c0 (jles.c0 (jles.c0 (jles.c0 jles.nl)))) (t_Pa_part_p89 (T := T) (xs := xs) (y := y) hd hrec H HY)
        · refine jEv.blk [(.aload_n 0, 1, []), (.bipush 41, 2, [])] (by decide +kernel) (pc' := 72) (ls' := [(2, Int.ofNat o0), (0, b1.1), (0, (b1.2 o0 7)), (3, 0)]) (st' := [(0, 41), (2, Int.ofNat o0)]) rfl ?_
          refine jbind H (fun b23 Hb23 H => ?_)
          refine jEv.calV (st' := [(0, b23.1)]) (show jfI 71 72 (.invokevirtual 47) 3 [1, 58, 1, 3206] = true by decide +kernel) rfl (Or.inl rfl) rfl (Nat.le_of_ble_eq_true rfl) (by decide +kernel) (by decide) (isX4_L ho0) ((t_Pa_expect (T := T) (xs := xs) ho0 Hb23).mono (jKle 3 hd)) rfl ?_
          refine jEv.if_eq (t := 89) (show jfI 71 75 (.ifCond .eq 14) 3 [] = true by decide +kernel) rfl H (fun c24 H => ?_) (fun c24 H => ?_)
          · exact jEv.weak (a := [(3, 0), (3, 0), (3, 0), (3, 0)]) (jles.c0 (jles.c0 (jles.c0 (jles.c0 jles.nl)))) (t_Pa_part_p89 (T := T) (xs := xs) (y := y) hd hrec H HY)
          · refine jEv.blk [(.aload_n 0, 1, [])] (by decide +kernel) (pc' := 79) (ls' := [(2, Int.ofNat o0), (0, b1.1), (0, (b1.2 o0 7)), (3, 0)]) (st' := [(2, Int.ofNat o0)]) rfl ?_
            refine jbind H (fun b25 Hb25 H => ?_)
            refine jEv.calV (st' := [(0, b25.1)]) (show jfI 71 79 (.invokevirtual 212) 3 [1, 68, 0, 4020] = true by decide +kernel) rfl (Or.inl rfl) rfl (Nat.le_of_ble_eq_true rfl) (by decide +kernel) (by decide) (isX4_L ho0) ((t_Pa_ends (T := T) (xs := xs) ho0 Hb25).mono (jKle 1 hd)) rfl ?_
            refine jEv.if_eq (t := 89) (show jfI 71 82 (.ifCond .eq 7) 3 [] = true by decide +kernel) rfl H (fun c26 H => ?_) (fun c26 H => ?_)
            · exact jEv.weak (a := [(3, 0), (3, 0), (3, 0), (3, 0)]) (jles.c0 (jles.c0 (jles.c0 (jles.c0 jles.nl)))) (t_Pa_part_p89 (T := T) (xs := xs) (y := y) hd hrec H HY)
            · refine jEv.blk [(.iconst 1, 1, [])] (by decide +kernel) (pc' := 86) (ls' := [(2, Int.ofNat o0), (0, b1.1), (0, (b1.2 o0 7)), (3, 0)]) (st' := [(0, 1)]) rfl ?_
              refine jEv.goto (t := 90) (show jfI 71 86 (.goto 4) 3 [] = true by decide +kernel) rfl ?_
              exact jEv.retZ (show jfI 71 90 (.ireturn) 1 [] = true by decide +kernel) (by decide +kernel) (by decide) (by cases H; exact HY)
  · refine jEv.blk [(.aload_n 0, 1, []), (.iconst 0, 1, []), (.sipush 9999, 3, [])] (by decide +kernel) (pc' := 22) (ls' := [(2, Int.ofNat o0), (0, b1.1), (0, (b1.2 o0 7)), (3, 0)]) (st' := [(0, 9999), (0, 0), (2, Int.ofNat o0)]) rfl ?_
    refine jbind H (fun b27 Hb27 H => ?_)
    refine jEv.calV (st' := [(0, b27.1)]) (show jfI 71 22 (.invokevirtual 127) 3 [1, 56, 2, 3197] = true by decide +kernel) rfl (Or.inl rfl) rfl (Nat.le_of_ble_eq_true rfl) (by decide +kernel) (by decide) (isX4_L ho0) ((t_Pa_number (T := T) (xs := xs) ho0 Hb27).mono (jKle 2 hd)) rfl ?_
    refine jEv.blk [(.istore_n 3, 1, []), (.aload_n 0, 1, [])] (by decide +kernel) (pc' := 27) (ls' := [(2, Int.ofNat o0), (0, b1.1), (0, (b1.2 o0 7)), (0, b27.1)]) (st' := [(2, Int.ofNat o0)]) rfl ?_
    refine jEv.gfD (show jfI 71 27 (.getfield 33) 3 [4, 9, 2, 0, 1140] = true by decide +kernel) (isX4_L ho0) (by decide) H (fun q28 hq28 H => ?_)
    refine jEv.blk [(.iload_n 3, 1, [])] (by decide +kernel) (pc' := 31) (ls' := [(2, Int.ofNat o0), (0, b1.1), (0, (b1.2 o0 7)), (0, b27.1)]) (st' := [(0, b27.1), (2, Int.ofNat q28)]) rfl ?_
    refine jbind H (fun b29 Hb29 H => ?_)
    refine jEv.calV (st' := []) (show jfI 71 31 (.invokevirtual 195) 3 [1, 28, 1, 4024] = true by decide +kernel) rfl (Or.inl rfl) rfl (Nat.le_of_ble_eq_true rfl) (by decide +kernel) (by decide) (isX2_L hq28) ((t_Fo_emit (T := T) (xs := xs) hq28 Hb29).mono (jKle 2 hd)) rfl ?_
    refine jEv.blk [(.iload_n 3, 1, []), (.iconst (-1), 1, [])] (by decide +kernel) (pc' := 36) (ls' := [(2, Int.ofNat o0), (0, b1.1), (0, (b1.2 o0 7)), (0, b27.1)]) (st' := [(0, (-1)), (0, b27.1)]) rfl ?_
    refine jEv.ic_eq (t := 43) (show jfI 71 36 (.if_icmp .eq 7) 3 [] = true by decide +kernel) rfl H (fun c30 H => ?_) (fun c30 H => ?_)
    · refine jEv.blk [(.iconst 0, 1, [])] (by decide +kernel) (pc' := 44) (ls' := [(2, Int.ofNat o0), (0, b1.1), (0, (b1.2 o0 7)), (0, b27.1)]) (st' := [(0, 0)]) rfl ?_
      exact jEv.retZ (show jfI 71 44 (.ireturn) 1 [] = true by decide +kernel) (by decide +kernel) (by decide) (by cases H; exact HY)
    · refine jEv.blk [(.iconst 1, 1, [])] (by decide +kernel) (pc' := 40) (ls' := [(2, Int.ofNat o0), (0, b1.1), (0, (b1.2 o0 7)), (0, b27.1)]) (st' := [(0, 1)]) rfl ?_
      refine jEv.goto (t := 44) (show jfI 71 40 (.goto 4) 3 [] = true by decide +kernel) rfl ?_
      exact jEv.retZ (show jfI 71 44 (.ireturn) 1 [] = true by decide +kernel) (by decide +kernel) (by decide) (by cases H; exact HY)
set_option maxRecDepth 20000 in
noncomputable def Pa_ofPair_p71 (T : jT) (rec : jRec) (h : jH) (o0 : Nat) (v1 : Int) (vs0 : Int) : Option (Int × jH) := Option.bind (jdyn (isX2 T) (h o0 9)) (fun q16 => Option.bind (Fo_emit h q16 v1) (fun b17 => (if vs0 = 0 ∨ vs0 = 1 then some (vs0, b17) else none)))
set_option maxRecDepth 20000 in
theorem t_Pa_ofPair_p71 {T : jT} {xs : List Int} {d : Nat} {y : jV × jS} {rec : jRec} (hd : 6 ≤ d) (hrec : jRecOK T xs d rec) {h : jH}  {o0 : Nat} {v1 : Int} {vs0 : Int} {out : (Int × jH)} (ho0 : isX4 T o0) (H : Pa_ofPair_p71 T rec h o0 v1 vs0 = some out) (HY : ykI T y out) : jEv xs d (72, 71, [(2, Int.ofNat o0), (0, v1), (3, 0), (3, 0)], [(0, vs0)]) (T, h) y := by
  unfold Pa_ofPair_p71 at H
  refine jEv.blk [(.istore_n 3, 1, []), (.aload_n 0, 1, [])] (by decide +kernel) (pc' := 73) (ls' := [(2, Int.ofNat o0), (0, v1), (3, 0), (0, vs0)]) (st' := [(2, Int.ofNat o0)]) rfl ?_
  refine jEv.gfD (show jfI 72 73 (.getfield 33) 3 [4, 9, 2, 0, 1140] = true by decide +kernel) (isX4_L ho0) (by decide) H (fun q16 hq16 H => ?_)
  refine jEv.blk [(.iload_n 1, 1, [])] (by decide +kernel) (pc' := 77) (ls' := [(2, Int.ofNat o0), (0, v1), (3, 0), (0, vs0)]) (st' := [(0, v1), (2, Int.ofNat q16)]) rfl ?_
  refine jbind H (fun b17 Hb17 H => ?_)
  refine jEv.calV (st' := []) (show jfI 72 77 (.invokevirtual 195) 3 [1, 28, 1, 4024] = true by decide +kernel) rfl (Or.inl rfl) rfl (Nat.le_of_ble_eq_true rfl) (by decide +kernel) (by decide) (isX2_L hq16) ((t_Fo_emit (T := T) (xs := xs) hq16 Hb17).mono (jKle 2 hd)) rfl ?_
  refine jEv.blk [(.iload_n 3, 1, [])] (by decide +kernel) (pc' := 81) (ls' := [(2, Int.ofNat o0), (0, v1), (3, 0), (0, vs0)]) (st' := [(0, vs0)]) rfl ?_
  refine jchk H (fun c18 H => ?_)
  exact jEv.retZ (show jfI 72 81 (.ireturn) 1 [] = true by decide +kernel) (by decide +kernel) c18 (by cases H; exact HY)
set_option maxRecDepth 20000 in
noncomputable def Pa_ofPair_p70 (T : jT) (rec : jRec) (h : jH) (o0 : Nat) (v1 : Int) : Option (Int × jH) := Pa_ofPair_p71 T rec h o0 v1 0
set_option maxRecDepth 20000 in
theorem t_Pa_ofPair_p70 {T : jT} {xs : List Int} {d : Nat} {y : jV × jS} {rec : jRec} (hd : 6 ≤ d) (hrec : jRecOK T xs d rec) {h : jH}  {o0 : Nat} {v1 : Int} {out : (Int × jH)} (ho0 : isX4 T o0) (H : Pa_ofPair_p70 T rec h o0 v1 = some out) (HY : ykI T y out) : jEv xs d (72, 70, [(2, Int.ofNat o0), (0, v1), (3, 0), (3, 0)], []) (T, h) y := by
  unfold Pa_ofPair_p70 at H
  refine jEv.blk [(.iconst 0, 1, [])] (by decide +kernel) (pc' := 71) (ls' := [(2, Int.ofNat o0), (0, v1), (3, 0), (3, 0)]) (st' := [(0, 0)]) rfl ?_
  exact t_Pa_ofPair_p71 (T := T) (xs := xs) (y := y) hd hrec ho0 H HY
set_option maxRecDepth 20000 in
noncomputable def Pa_ofPair_b (T : jT) (rec : jRec) (h : jH) (o0 : Nat) (v1 : Int) : Option (Int × jH) := Option.bind (Pa_peek T h o0) (fun b1 => Option.bind (Pa_expect T b1.2 o0 40) (fun b2 => (if b2.1 = 0 then Pa_ofPair_p70 T rec b2.2 o0 v1 else Option.bind (Pa_opens b2.2 o0 (b1.2 o0 7)) (fun b4 => (if b4.1 = 0 then Pa_ofPair_p70 T rec b4.2 o0 v1 else Option.bind (rec.2.2.2.2.1 b4.2 o0) (fun b6 => (if b6.1 = 0 then Pa_ofPair_p70 T rec b6.2 o0 v1 else Option.bind (Pa_expect T b6.2 o0 44) (fun b8 => (if b8.1 = 0 then Pa_ofPair_p70 T rec b8.2 o0 v1 else Option.bind (rec.2.2.2.2.1 b8.2 o0) (fun b10 => (if b10.1 = 0 then Pa_ofPair_p70 T rec b10.2 o0 v1 else Option.bind (Pa_expect T b10.2 o0 41) (fun b12 => (if b12.1 = 0 then Pa_ofPair_p70 T rec b12.2 o0 v1 else Option.bind (Pa_ends b12.2 o0) (fun b14 => (if b14.1 = 0 then Pa_ofPair_p70 T rec b14.2 o0 v1 else Pa_ofPair_p71 T rec b14.2 o0 v1 1)))))))))))))))
set_option maxRecDepth 20000 in
theorem t_Pa_ofPair_b {T : jT} {xs : List Int} {d : Nat} {rec : jRec} (hd : 6 ≤ d) (hrec : jRecOK T xs d rec) {h : jH}  {o0 : Nat} {v1 : Int} {out : (Int × jH)} (ho0 : isX4 T o0) (H : Pa_ofPair_b T rec h o0 v1 = some out) : jEm xs (d + 1) 72 [(2, Int.ofNat o0), (0, v1)] (T, h) ((0, out.1), (T, out.2)) := by
  obtain ⟨y, ey⟩ : ∃ y : jV × jS, y = ((0, out.1), (T, out.2)) := ⟨_, rfl⟩
  rw [← ey]
  have HY : ykI T y out := ey
  refine jEm.ent (n := 4) (by decide +kernel) (Nat.le_of_ble_eq_true rfl) ?_
  show jEv xs d (72, 0, [(2, Int.ofNat o0), (0, v1), (3, 0), (3, 0)], []) (T, h) y
  unfold Pa_ofPair_b at H
  refine jEv.blk [(.aload_n 0, 1, [])] (by decide +kernel) (pc' := 1) (ls' := [(2, Int.ofNat o0), (0, v1), (3, 0), (3, 0)]) (st' := [(2, Int.ofNat o0)]) rfl ?_
  refine jbind H (fun b1 Hb1 H => ?_)
  refine jEv.calV (st' := [(0, b1.1)]) (show jfI 72 1 (.invokevirtual 54) 3 [1, 53, 0, 3137] = true by decide +kernel) rfl (Or.inl rfl) rfl (Nat.le_of_ble_eq_true rfl) (by decide +kernel) (by decide) (isX4_L ho0) ((t_Pa_peek (T := T) (xs := xs) ho0 Hb1).mono (jKle 1 hd)) rfl ?_
  refine jEv.blk [(.pop, 1, []), (.aload_n 0, 1, [])] (by decide +kernel) (pc' := 6) (ls' := [(2, Int.ofNat o0), (0, v1), (3, 0), (3, 0)]) (st' := [(2, Int.ofNat o0)]) rfl ?_
  refine jEv.gfI (show jfI 72 6 (.getfield 58) 3 [4, 7, 0, 0, 1138] = true by decide +kernel) (isX4_L ho0) (by decide) ?_
  refine jEv.blk [(.istore_n 2, 1, []), (.aload_n 0, 1, []), (.bipush 40, 2, [])] (by decide +kernel) (pc' := 13) (ls' := [(2, Int.ofNat o0), (0, v1), (0, (b1.2 o0 7)), (3, 0)]) (st' := [(0, 40), (2, Int.ofNat o0)]) rfl ?_
  refine jbind H (fun b2 Hb2 H => ?_)
  refine jEv.calV (st' := [(0, b2.1)]) (show jfI 72 13 (.invokevirtual 47) 3 [1, 58, 1, 3206] = true by decide +kernel) rfl (Or.inl rfl) rfl (Nat.le_of_ble_eq_true rfl) (by decide +kernel) (by decide) (isX4_L ho0) ((t_Pa_expect (T := T) (xs := xs) ho0 Hb2).mono (jKle 3 hd)) rfl ?_
  refine jEv.if_eq (t := 70) (show jfI 72 16 (.ifCond .eq 54) 3 [] = true by decide +kernel) rfl H (fun c3 H => ?_) (fun c3 H => ?_)
  · exact jEv.weak (a := [(2, Int.ofNat o0), (0, v1), (3, 0), (3, 0)]) (jles.c1 (jles.c1 (jles.c0 (jles.c0 jles.nl)))) (t_Pa_ofPair_p70 (T := T) (xs := xs) (y := y) hd hrec ho0 H HY)
  · refine jEv.blk [(.aload_n 0, 1, []), (.iload_n 2, 1, [])] (by decide +kernel) (pc' := 21) (ls' := [(2, Int.ofNat o0), (0, v1), (0, (b1.2 o0 7)), (3, 0)]) (st' := [(0, (b1.2 o0 7)), (2, Int.ofNat o0)]) rfl ?_
    refine jbind H (fun b4 Hb4 H => ?_)
    refine jEv.calV (st' := [(0, b4.1)]) (show jfI 72 21 (.invokevirtual 209) 3 [1, 67, 1, 4016] = true by decide +kernel) rfl (Or.inl rfl) rfl (Nat.le_of_ble_eq_true rfl) (by decide +kernel) (by decide) (isX4_L ho0) ((t_Pa_opens (T := T) (xs := xs) ho0 Hb4).mono (jKle 2 hd)) rfl ?_
    refine jEv.if_eq (t := 70) (show jfI 72 24 (.ifCond .eq 46) 3 [] = true by decide +kernel) rfl H (fun c5 H => ?_) (fun c5 H => ?_)
    · exact jEv.weak (a := [(2, Int.ofNat o0), (0, v1), (3, 0), (3, 0)]) (jles.c1 (jles.c1 (jles.c0 (jles.c0 jles.nl)))) (t_Pa_ofPair_p70 (T := T) (xs := xs) (y := y) hd hrec ho0 H HY)
    · refine jEv.blk [(.aload_n 0, 1, [])] (by decide +kernel) (pc' := 28) (ls' := [(2, Int.ofNat o0), (0, v1), (0, (b1.2 o0 7)), (3, 0)]) (st' := [(2, Int.ofNat o0)]) rfl ?_
      refine jbind H (fun b6 Hb6 H => ?_)
      refine jEv.calV (st' := [(0, b6.1)]) (show jfI 72 28 (.invokevirtual 81) 3 [1, 69, 0, 4026] = true by decide +kernel) rfl (Or.inl rfl) rfl (Nat.le_of_ble_eq_true rfl) (by decide +kernel) (by decide) (isX4_L ho0) (hrec.2.2.2.2.1 ho0 Hb6) rfl ?_
      refine jEv.if_eq (t := 70) (show jfI 72 31 (.ifCond .eq 39) 3 [] = true by decide +kernel) rfl H (fun c7 H => ?_) (fun c7 H => ?_)
      · exact jEv.weak (a := [(2, Int.ofNat o0), (0, v1), (3, 0), (3, 0)]) (jles.c1 (jles.c1 (jles.c0 (jles.c0 jles.nl)))) (t_Pa_ofPair_p70 (T := T) (xs := xs) (y := y) hd hrec ho0 H HY)
      · refine jEv.blk [(.aload_n 0, 1, []), (.bipush 44, 2, [])] (by decide +kernel) (pc' := 37) (ls' := [(2, Int.ofNat o0), (0, v1), (0, (b1.2 o0 7)), (3, 0)]) (st' := [(0, 44), (2, Int.ofNat o0)]) rfl ?_
        refine jbind H (fun b8 Hb8 H => ?_)
        refine jEv.calV (st' := [(0, b8.1)]) (show jfI 72 37 (.invokevirtual 47) 3 [1, 58, 1, 3206] = true by decide +kernel) rfl (Or.inl rfl) rfl (Nat.le_of_ble_eq_true rfl) (by decide +kernel) (by decide) (isX4_L ho0) ((t_Pa_expect (T := T) (xs := xs) ho0 Hb8).mono (jKle 3 hd)) rfl ?_
        refine jEv.if_eq (t := 70) (show jfI 72 40 (.ifCond .eq 30) 3 [] = true by decide +kernel) rfl H (fun c9 H => ?_) (fun c9 H => ?_)
        · exact jEv.weak (a := [(2, Int.ofNat o0), (0, v1), (3, 0), (3, 0)]) (jles.c1 (jles.c1 (jles.c0 (jles.c0 jles.nl)))) (t_Pa_ofPair_p70 (T := T) (xs := xs) (y := y) hd hrec ho0 H HY)
        · refine jEv.blk [(.aload_n 0, 1, [])] (by decide +kernel) (pc' := 44) (ls' := [(2, Int.ofNat o0), (0, v1), (0, (b1.2 o0 7)), (3, 0)]) (st' := [(2, Int.ofNat o0)]) rfl ?_
          refine jbind H (fun b10 Hb10 H => ?_)
          refine jEv.calV (st' := [(0, b10.1)]) (show jfI 72 44 (.invokevirtual 81) 3 [1, 69, 0, 4026] = true by decide +kernel) rfl (Or.inl rfl) rfl (Nat.le_of_ble_eq_true rfl) (by decide +kernel) (by decide) (isX4_L ho0) (hrec.2.2.2.2.1 ho0 Hb10) rfl ?_
          refine jEv.if_eq (t := 70) (show jfI 72 47 (.ifCond .eq 23) 3 [] = true by decide +kernel) rfl H (fun c11 H => ?_) (fun c11 H => ?_)
          · exact jEv.weak (a := [(2, Int.ofNat o0), (0, v1), (3, 0), (3, 0)]) (jles.c1 (jles.c1 (jles.c0 (jles.c0 jles.nl)))) (t_Pa_ofPair_p70 (T := T) (xs := xs) (y := y) hd hrec ho0 H HY)
          · refine jEv.blk [(.aload_n 0, 1, []), (.bipush 41, 2, [])] (by decide +kernel) (pc' := 53) (ls' := [(2, Int.ofNat o0), (0, v1), (0, (b1.2 o0 7)), (3, 0)]) (st' := [(0, 41), (2, Int.ofNat o0)]) rfl ?_
            refine jbind H (fun b12 Hb12 H => ?_)
            refine jEv.calV (st' := [(0, b12.1)]) (show jfI 72 53 (.invokevirtual 47) 3 [1, 58, 1, 3206] = true by decide +kernel) rfl (Or.inl rfl) rfl (Nat.le_of_ble_eq_true rfl) (by decide +kernel) (by decide) (isX4_L ho0) ((t_Pa_expect (T := T) (xs := xs) ho0 Hb12).mono (jKle 3 hd)) rfl ?_
            refine jEv.if_eq (t := 70) (show jfI 72 56 (.ifCond .eq 14) 3 [] = true by decide +kernel) rfl H (fun c13 H => ?_) (fun c13 H => ?_)
            · exact jEv.weak (a := [(2, Int.ofNat o0), (0, v1), (3, 0), (3, 0)]) (jles.c1 (jles.c1 (jles.c0 (jles.c0 jles.nl)))) (t_Pa_ofPair_p70 (T := T) (xs := xs) (y := y) hd hrec ho0 H HY)
            · refine jEv.blk [(.aload_n 0, 1, [])] (by decide +kernel) (pc' := 60) (ls' := [(2, Int.ofNat o0), (0, v1), (0, (b1.2 o0 7)), (3, 0)]) (st' := [(2, Int.ofNat o0)]) rfl ?_
              refine jbind H (fun b14 Hb14 H => ?_)
              refine jEv.calV (st' := [(0, b14.1)]) (show jfI 72 60 (.invokevirtual 212) 3 [1, 68, 0, 4020] = true by decide +kernel) rfl (Or.inl rfl) rfl (Nat.le_of_ble_eq_true rfl) (by decide +kernel) (by decide) (isX4_L ho0) ((t_Pa_ends (T := T) (xs := xs) ho0 Hb14).mono (jKle 1 hd)) rfl ?_
              refine jEv.if_eq (t := 70) (show jfI 72 63 (.ifCond .eq 7) 3 [] = true by decide +kernel) rfl H (fun c15 H => ?_) (fun c15 H => ?_)
              · exact jEv.weak (a := [(2, Int.ofNat o0), (0, v1), (3, 0), (3, 0)]) (jles.c1 (jles.c1 (jles.c0 (jles.c0 jles.nl)))) (t_Pa_ofPair_p70 (T := T) (xs := xs) (y := y) hd hrec ho0 H HY)
              · refine jEv.blk [(.iconst 1, 1, [])] (by decide +kernel) (pc' := 67) (ls' := [(2, Int.ofNat o0), (0, v1), (0, (b1.2 o0 7)), (3, 0)]) (st' := [(0, 1)]) rfl ?_
                refine jEv.goto (t := 71) (show jfI 72 67 (.goto 4) 3 [] = true by decide +kernel) rfl ?_
                exact jEv.weak (a := [(2, Int.ofNat o0), (0, v1), (3, 0), (3, 0)]) (jles.c1 (jles.c1 (jles.c0 (jles.c0 jles.nl)))) (t_Pa_ofPair_p71 (T := T) (xs := xs) (y := y) hd hrec ho0 H HY)
set_option maxRecDepth 20000 in
noncomputable def Pa_ofPart_p27 (T : jT) (rec : jRec) (h : jH) (o0 : Nat) (v1 : Int) (vs0 : Int) : Option (Int × jH) := Option.bind (jdyn (isX2 T) (h o0 9)) (fun q7 => Option.bind (Fo_emit h q7 v1) (fun b8 => (if vs0 = 0 ∨ vs0 = 1 then some (vs0, b8) else none)))
set_option maxRecDepth 20000 in
theorem t_Pa_ofPart_p27 {T : jT} {xs : List Int} {d : Nat} {y : jV × jS} {rec : jRec} (hd : 6 ≤ d) (hrec : jRecOK T xs d rec) {h : jH}  {o0 : Nat} {v1 : Int} {vs0 : Int} {out : (Int × jH)} (ho0 : isX4 T o0) (H : Pa_ofPart_p27 T rec h o0 v1 vs0 = some out) (HY : ykI T y out) : jEv xs d (73, 27, [(2, Int.ofNat o0), (0, v1), (3, 0), (3, 0)], [(0, vs0)]) (T, h) y := by
  unfold Pa_ofPart_p27 at H
  refine jEv.blk [(.istore_n 3, 1, []), (.aload_n 0, 1, [])] (by decide +kernel) (pc' := 29) (ls' := [(2, Int.ofNat o0), (0, v1), (3, 0), (0, vs0)]) (st' := [(2, Int.ofNat o0)]) rfl ?_
  refine jEv.gfD (show jfI 73 29 (.getfield 33) 3 [4, 9, 2, 0, 1140] = true by decide +kernel) (isX4_L ho0) (by decide) H (fun q7 hq7 H => ?_)
  refine jEv.blk [(.iload_n 1, 1, [])] (by decide +kernel) (pc' := 33) (ls' := [(2, Int.ofNat o0), (0, v1), (3, 0), (0, vs0)]) (st' := [(0, v1), (2, Int.ofNat q7)]) rfl ?_
  refine jbind H (fun b8 Hb8 H => ?_)
  refine jEv.calV (st' := []) (show jfI 73 33 (.invokevirtual 195) 3 [1, 28, 1, 4024] = true by decide +kernel) rfl (Or.inl rfl) rfl (Nat.le_of_ble_eq_true rfl) (by decide +kernel) (by decide) (isX2_L hq7) ((t_Fo_emit (T := T) (xs := xs) hq7 Hb8).mono (jKle 2 hd)) rfl ?_
  refine jEv.blk [(.iload_n 3, 1, [])] (by decide +kernel) (pc' := 37) (ls' := [(2, Int.ofNat o0), (0, v1), (3, 0), (0, vs0)]) (st' := [(0, vs0)]) rfl ?_
  refine jchk H (fun c9 H => ?_)
  exact jEv.retZ (show jfI 73 37 (.ireturn) 1 [] = true by decide +kernel) (by decide +kernel) c9 (by cases H; exact HY)
set_option maxRecDepth 20000 in
noncomputable def Pa_ofPart_p26 (T : jT) (rec : jRec) (h : jH) (o0 : Nat) (v1 : Int) : Option (Int × jH) := Pa_ofPart_p27 T rec h o0 v1 0
set_option maxRecDepth 20000 in
theorem t_Pa_ofPart_p26 {T : jT} {xs : List Int} {d : Nat} {y : jV × jS} {rec : jRec} (hd : 6 ≤ d) (hrec : jRecOK T xs d rec) {h : jH}  {o0 : Nat} {v1 : Int} {out : (Int × jH)} (ho0 : isX4 T o0) (H : Pa_ofPart_p26 T rec h o0 v1 = some out) (HY : ykI T y out) : jEv xs d (73, 26, [(2, Int.ofNat o0), (0, v1), (3, 0), (3, 0)], []) (T, h) y := by
  unfold Pa_ofPart_p26 at H
  refine jEv.blk [(.iconst 0, 1, [])] (by decide +kernel) (pc' := 27) (ls' := [(2, Int.ofNat o0), (0, v1), (3, 0), (3, 0)]) (st' := [(0, 0)]) rfl ?_
  exact t_Pa_ofPart_p27 (T := T) (xs := xs) (y := y) hd hrec ho0 H HY
set_option maxRecDepth 20000 in
noncomputable def Pa_ofPart_b (T : jT) (rec : jRec) (h : jH) (o0 : Nat) (v1 : Int) (v2 : Int) : Option (Int × jH) := Option.bind (Pa_opens h o0 v2) (fun b1 => (if b1.1 = 0 then Pa_ofPart_p26 T rec b1.2 o0 v1 else Option.bind (rec.2.2.2.2.2.2.1 b1.2 o0) (fun b3 => (if b3.1 = 0 then Pa_ofPart_p26 T rec b3.2 o0 v1 else Option.bind (Pa_ends b3.2 o0) (fun b5 => (if b5.1 = 0 then Pa_ofPart_p26 T rec b5.2 o0 v1 else Pa_ofPart_p27 T rec b5.2 o0 v1 1))))))
set_option maxRecDepth 20000 in
theorem t_Pa_ofPart_b {T : jT} {xs : List Int} {d : Nat} {rec : jRec} (hd : 6 ≤ d) (hrec : jRecOK T xs d rec) {h : jH}  {o0 : Nat} {v1 : Int} {v2 : Int} {out : (Int × jH)} (ho0 : isX4 T o0) (H : Pa_ofPart_b T rec h o0 v1 v2 = some out) : jEm xs (d + 1) 73 [(2, Int.ofNat o0), (0, v1), (0, v2)] (T, h) ((0, out.1), (T, out.2)) := by
  obtain ⟨y, ey⟩ : ∃ y : jV × jS, y = ((0, out.1), (T, out.2)) := ⟨_, rfl⟩
  rw [← ey]
  have HY : ykI T y out := ey
  refine jEm.ent (n := 4) (by decide +kernel) (Nat.le_of_ble_eq_true rfl) ?_
  show jEv xs d (73, 0, [(2, Int.ofNat o0), (0, v1), (0, v2), (3, 0)], []) (T, h) y
  unfold Pa_ofPart_b at H
  refine jEv.blk [(.aload_n 0, 1, []), (.iload_n 2, 1, [])] (by decide +kernel) (pc' := 2) (ls' := [(2, Int.ofNat o0), (0, v1), (0, v2), (3, 0)]) (st' := [(0, v2), (2, Int.ofNat o0)]) rfl ?_
  refine jbind H (fun b1 Hb1 H => ?_)
  refine jEv.calV (st' := [(0, b1.1)]) (show jfI 73 2 (.invokevirtual 209) 3 [1, 67, 1, 4016] = true by decide +kernel) rfl (Or.inl rfl) rfl (Nat.le_of_ble_eq_true rfl) (by decide +kernel) (by decide) (isX4_L ho0) ((t_Pa_opens (T := T) (xs := xs) ho0 Hb1).mono (jKle 2 hd)) rfl ?_
  refine jEv.if_eq (t := 26) (show jfI 73 5 (.ifCond .eq 21) 3 [] = true by decide +kernel) rfl H (fun c2 H => ?_) (fun c2 H => ?_)
  · exact jEv.weak (a := [(2, Int.ofNat o0), (0, v1), (3, 0), (3, 0)]) (jles.c1 (jles.c1 (jles.c0 (jles.c0 jles.nl)))) (t_Pa_ofPart_p26 (T := T) (xs := xs) (y := y) hd hrec ho0 H HY)
  · refine jEv.blk [(.aload_n 0, 1, [])] (by decide +kernel) (pc' := 9) (ls' := [(2, Int.ofNat o0), (0, v1), (0, v2), (3, 0)]) (st' := [(2, Int.ofNat o0)]) rfl ?_
    refine jbind H (fun b3 Hb3 H => ?_)
    refine jEv.calV (st' := [(0, b3.1)]) (show jfI 73 9 (.invokevirtual 220) 3 [1, 71, 0, 4034] = true by decide +kernel) rfl (Or.inl rfl) rfl (Nat.le_of_ble_eq_true rfl) (by decide +kernel) (by decide) (isX4_L ho0) (hrec.2.2.2.2.2.2.1 ho0 Hb3) rfl ?_
    refine jEv.if_eq (t := 26) (show jfI 73 12 (.ifCond .eq 14) 3 [] = true by decide +kernel) rfl H (fun c4 H => ?_) (fun c4 H => ?_)
    · exact jEv.weak (a := [(2, Int.ofNat o0), (0, v1), (3, 0), (3, 0)]) (jles.c1 (jles.c1 (jles.c0 (jles.c0 jles.nl)))) (t_Pa_ofPart_p26 (T := T) (xs := xs) (y := y) hd hrec ho0 H HY)
    · refine jEv.blk [(.aload_n 0, 1, [])] (by decide +kernel) (pc' := 16) (ls' := [(2, Int.ofNat o0), (0, v1), (0, v2), (3, 0)]) (st' := [(2, Int.ofNat o0)]) rfl ?_
      refine jbind H (fun b5 Hb5 H => ?_)
      refine jEv.calV (st' := [(0, b5.1)]) (show jfI 73 16 (.invokevirtual 212) 3 [1, 68, 0, 4020] = true by decide +kernel) rfl (Or.inl rfl) rfl (Nat.le_of_ble_eq_true rfl) (by decide +kernel) (by decide) (isX4_L ho0) ((t_Pa_ends (T := T) (xs := xs) ho0 Hb5).mono (jKle 1 hd)) rfl ?_
      refine jEv.if_eq (t := 26) (show jfI 73 19 (.ifCond .eq 7) 3 [] = true by decide +kernel) rfl H (fun c6 H => ?_) (fun c6 H => ?_)
      · exact jEv.weak (a := [(2, Int.ofNat o0), (0, v1), (3, 0), (3, 0)]) (jles.c1 (jles.c1 (jles.c0 (jles.c0 jles.nl)))) (t_Pa_ofPart_p26 (T := T) (xs := xs) (y := y) hd hrec ho0 H HY)
      · refine jEv.blk [(.iconst 1, 1, [])] (by decide +kernel) (pc' := 23) (ls' := [(2, Int.ofNat o0), (0, v1), (0, v2), (3, 0)]) (st' := [(0, 1)]) rfl ?_
        refine jEv.goto (t := 27) (show jfI 73 23 (.goto 4) 3 [] = true by decide +kernel) rfl ?_
        exact jEv.weak (a := [(2, Int.ofNat o0), (0, v1), (3, 0), (3, 0)]) (jles.c1 (jles.c1 (jles.c0 (jles.c0 jles.nl)))) (t_Pa_ofPart_p27 (T := T) (xs := xs) (y := y) hd hrec ho0 H HY)
set_option maxRecDepth 20000 in
noncomputable def jrecN (T : jT) : Nat → jRec
  | 0 => ((fun _ _ => none), (fun _ _ => none), (fun _ _ => none), (fun _ _ _ => none), (fun _ _ => none), (fun _ _ => none), (fun _ _ => none), (fun _ _ _ => none), (fun _ _ _ _ => none))
  | n + 1 => (Pa_test_b T (jrecN T n), Pa_both_b T (jrecN T n), Pa_fact_b T (jrecN T n), Pa_negation_b T (jrecN T n), Pa_sum_b T (jrecN T n), Pa_product_b T (jrecN T n), Pa_part_b T (jrecN T n), Pa_ofPair_b T (jrecN T n), Pa_ofPart_b T (jrecN T n))
set_option maxRecDepth 20000 in
theorem t_jrecN {T : jT} {xs : List Int} : ∀ n : Nat, jRecOK T xs (7 + n) (jrecN T n) := by
  intro n
  induction n with
  | zero => exact ⟨fun _ H => (by cases H), fun _ H => (by cases H), fun _ H => (by cases H), fun _ H => (by cases H), fun _ H => (by cases H), fun _ H => (by cases H), fun _ H => (by cases H), fun _ H => (by cases H), fun _ H => (by cases H)⟩
  | succ n ih => exact ⟨fun ho H => t_Pa_test_b (d := 7 + n) (by omega) ih ho H, fun ho H => t_Pa_both_b (d := 7 + n) (by omega) ih ho H, fun ho H => t_Pa_fact_b (d := 7 + n) (by omega) ih ho H, fun ho H => t_Pa_negation_b (d := 7 + n) (by omega) ih ho H, fun ho H => t_Pa_sum_b (d := 7 + n) (by omega) ih ho H, fun ho H => t_Pa_product_b (d := 7 + n) (by omega) ih ho H, fun ho H => t_Pa_part_b (d := 7 + n) (by omega) ih ho H, fun ho H => t_Pa_ofPair_b (d := 7 + n) (by omega) ih ho H, fun ho H => t_Pa_ofPart_b (d := 7 + n) (by omega) ih ho H⟩
set_option maxRecDepth 20000 in
noncomputable def jrecW (T : jT) : jRec := jrecN T 80
set_option maxRecDepth 20000 in
theorem t_jrecW {T : jT} {xs : List Int} : jRecOK T xs 87 (jrecW T) := t_jrecN 80
set_option maxRecDepth 20000 in
noncomputable def Pa_statement (T : jT) (h : jH) (o0 : Nat) : Option (Int × jH) := Option.bind (Pa_peek T h o0) (fun b1 => Option.bind (Pa_word T b1.2 o0 [112, 117, 116]) (fun b2 => (if b2.1 = 0 then Option.bind (Pa_word T b2.2 o0 [110, 111, 105, 115, 101]) (fun b4 => (if b4.1 = 0 then Option.bind (Pa_word T b4.2 o0 [99, 108, 111, 115, 101, 115]) (fun b6 => (if b6.1 = 0 then Option.bind (Pa_word T b6.2 o0 [116, 97, 107, 101, 115]) (fun b8 => (if b8.1 = 0 then Option.bind (Pa_fail b8.2 o0 1 (b1.2 o0 7)) (fun b10 => (if b10.1 = 0 ∨ b10.1 = 1 then some (b10.1, b10.2) else none)) else Option.bind (jdyn (isX6 T) (b8.2 o0 0)) (fun q12 => (if (b8.2 q12 6) = 0 then Option.bind (jdyn (isX6 T) (b8.2 o0 0)) (fun q14 => Option.bind (jdyn (isX6 T) ((jup b8.2 q14 6 1) o0 0)) (fun q15 => Option.bind (Pa_aim T (jup b8.2 q14 6 1) o0 (q15 + 5) 1) (fun b16 => Option.bind ((jrecW T).2.2.2.2.1 b16 o0) (fun b17 => (if b17.1 = 0 ∨ b17.1 = 1 then some (b17.1, b17.2) else none))))) else Option.bind (Pa_fail b8.2 o0 5 (b1.2 o0 7)) (fun b19 => (if b19.1 = 0 ∨ b19.1 = 1 then some (b19.1, b19.2) else none)))))) else Option.bind (jdyn (isX6 T) (b6.2 o0 0)) (fun q21 => (if (b6.2 q21 5) = 0 then Option.bind (jdyn (isX6 T) (b6.2 o0 0)) (fun q23 => Option.bind (jdyn (isX6 T) ((jup b6.2 q23 5 1) o0 0)) (fun q24 => Option.bind (Pa_aim T (jup b6.2 q23 5 1) o0 (q24 + 1) 0) (fun b25 => Option.bind ((jrecW T).1 b25 o0) (fun b26 => (if b26.1 = 0 ∨ b26.1 = 1 then some (b26.1, b26.2) else none))))) else Option.bind (Pa_fail b6.2 o0 5 (b1.2 o0 7)) (fun b28 => (if b28.1 = 0 ∨ b28.1 = 1 then some (b28.1, b28.2) else none)))))) else Option.bind (jdyn (isX6 T) (b4.2 o0 0)) (fun q30 => Option.bind (Pa_number T b4.2 o0 0 100) (fun b31 => Option.bind (jdyn (isX6 T) ((jup b31.2 q30 3 b31.1) o0 0)) (fun q32 => (if ((jup b31.2 q30 3 b31.1) q32 3) = (-1) then some (0, (jup b31.2 q30 3 b31.1)) else some (1, (jup b31.2 q30 3 b31.1)))))))) else Option.bind (Pa_record T b2.2 o0) (fun b34 => (if b34.1 = 0 ∨ b34.1 = 1 then some (b34.1, b34.2) else none)))))
set_option maxRecDepth 20000 in
theorem t_Pa_statement {T : jT} {xs : List Int} {h : jH}  {o0 : Nat} {out : (Int × jH)} (ho0 : isX4 T o0) (H : Pa_statement T h o0 = some out) : jEm xs 88 60 [(2, Int.ofNat o0)] (T, h) ((0, out.1), (T, out.2)) := by
  have hd : 87 ≤ 87 := Nat.le_refl _
  obtain ⟨y, ey⟩ : ∃ y : jV × jS, y = ((0, out.1), (T, out.2)) := ⟨_, rfl⟩
  rw [← ey]
  have HY : ykI T y out := ey
  refine jEm.ent (n := 2) (by decide +kernel) (Nat.le_of_ble_eq_true rfl) ?_
  show jEv xs 87 (60, 0, [(2, Int.ofNat o0), (3, 0)], []) (T, h) y
  unfold Pa_statement at H
  refine jEv.blk [(.aload_n 0, 1, [])] (by decide +kernel) (pc' := 1) (ls' := [(2, Int.ofNat o0), (3, 0)]) (st' := [(2, Int.ofNat o0)]) rfl ?_
  refine jbind H (fun b1 Hb1 H => ?_)
  refine jEv.calV (st' := [(0, b1.1)]) (show jfI 60 1 (.invokevirtual 54) 3 [1, 53, 0, 3137] = true by decide +kernel) rfl (Or.inl rfl) rfl (Nat.le_of_ble_eq_true rfl) (by decide +kernel) (by decide) (isX4_L ho0) ((t_Pa_peek (T := T) (xs := xs) ho0 Hb1).mono (jKle 1 hd)) rfl ?_
  refine jEv.blk [(.pop, 1, []), (.aload_n 0, 1, [])] (by decide +kernel) (pc' := 6) (ls' := [(2, Int.ofNat o0), (3, 0)]) (st' := [(2, Int.ofNat o0)]) rfl ?_
  refine jEv.gfI (show jfI 60 6 (.getfield 58) 3 [4, 7, 0, 0, 1138] = true by decide +kernel) (isX4_L ho0) (by decide) ?_
  refine jEv.blk [(.istore_n 1, 1, []), (.aload_n 0, 1, []), (.ldc 141, 2, [4, 31, 0, 3218])] (by decide +kernel) (pc' := 13) (ls' := [(2, Int.ofNat o0), (0, (b1.2 o0 7))]) (st' := [(4, 31), (2, Int.ofNat o0)]) rfl ?_
  refine jbind H (fun b2 Hb2 H => ?_)
  refine jEv.calV (st' := [(0, b2.1)]) (show jfI 60 13 (.invokevirtual 114) 3 [1, 52, 1, 3133] = true by decide +kernel) rfl (Or.inl rfl) rfl (Nat.le_of_ble_eq_true rfl) (by decide +kernel) (by decide) (isX4_L ho0) ((t_Pa_word (T := T) (xs := xs) ho0 (jIsS_31) Hb2).mono (jKle 5 hd)) rfl ?_
  refine jEv.if_eq (t := 24) (show jfI 60 16 (.ifCond .eq 8) 3 [] = true by decide +kernel) rfl H (fun c3 H => ?_) (fun c3 H => ?_)
  · refine jEv.blk [(.aload_n 0, 1, []), (.ldc 146, 2, [4, 24, 0, 3229])] (by decide +kernel) (pc' := 27) (ls' := [(2, Int.ofNat o0), (0, (b1.2 o0 7))]) (st' := [(4, 24), (2, Int.ofNat o0)]) rfl ?_
    refine jbind H (fun b4 Hb4 H => ?_)
    refine jEv.calV (st' := [(0, b4.1)]) (show jfI 60 27 (.invokevirtual 114) 3 [1, 52, 1, 3133] = true by decide +kernel) rfl (Or.inl rfl) rfl (Nat.le_of_ble_eq_true rfl) (by decide +kernel) (by decide) (isX4_L ho0) ((t_Pa_word (T := T) (xs := xs) ho0 (jIsS_24) Hb4).mono (jKle 5 hd)) rfl ?_
    refine jEv.if_eq (t := 64) (show jfI 60 30 (.ifCond .eq 34) 3 [] = true by decide +kernel) rfl H (fun c5 H => ?_) (fun c5 H => ?_)
    · refine jEv.blk [(.aload_n 0, 1, []), (.ldc 150, 2, [4, 15, 0, 3230])] (by decide +kernel) (pc' := 67) (ls' := [(2, Int.ofNat o0), (0, (b1.2 o0 7))]) (st' := [(4, 15), (2, Int.ofNat o0)]) rfl ?_
      refine jbind H (fun b6 Hb6 H => ?_)
      refine jEv.calV (st' := [(0, b6.1)]) (show jfI 60 67 (.invokevirtual 114) 3 [1, 52, 1, 3133] = true by decide +kernel) rfl (Or.inl rfl) rfl (Nat.le_of_ble_eq_true rfl) (by decide +kernel) (by decide) (isX4_L ho0) ((t_Pa_word (T := T) (xs := xs) ho0 (jIsS_15) Hb6).mono (jKle 5 hd)) rfl ?_
      refine jEv.if_eq (t := 115) (show jfI 60 70 (.ifCond .eq 45) 3 [] = true by decide +kernel) rfl H (fun c7 H => ?_) (fun c7 H => ?_)
      · refine jEv.blk [(.aload_n 0, 1, []), (.ldc 158, 2, [4, 35, 0, 4065])] (by decide +kernel) (pc' := 118) (ls' := [(2, Int.ofNat o0), (0, (b1.2 o0 7))]) (st' := [(4, 35), (2, Int.ofNat o0)]) rfl ?_
        refine jbind H (fun b8 Hb8 H => ?_)
        refine jEv.calV (st' := [(0, b8.1)]) (show jfI 60 118 (.invokevirtual 114) 3 [1, 52, 1, 3133] = true by decide +kernel) rfl (Or.inl rfl) rfl (Nat.le_of_ble_eq_true rfl) (by decide +kernel) (by decide) (isX4_L ho0) ((t_Pa_word (T := T) (xs := xs) ho0 (jIsS_35) Hb8).mono (jKle 5 hd)) rfl ?_
        refine jEv.if_eq (t := 166) (show jfI 60 121 (.ifCond .eq 45) 3 [] = true by decide +kernel) rfl H (fun c9 H => ?_) (fun c9 H => ?_)
        · refine jEv.blk [(.aload_n 0, 1, []), (.iconst 1, 1, []), (.iload_n 1, 1, [])] (by decide +kernel) (pc' := 169) (ls' := [(2, Int.ofNat o0), (0, (b1.2 o0 7))]) (st' := [(0, (b1.2 o0 7)), (0, 1), (2, Int.ofNat o0)]) rfl ?_
          refine jbind H (fun b10 Hb10 H => ?_)
          refine jEv.calV (st' := [(0, b10.1)]) (show jfI 60 169 (.invokevirtual 61) 3 [1, 55, 2, 3193] = true by decide +kernel) rfl (Or.inl rfl) rfl (Nat.le_of_ble_eq_true rfl) (by decide +kernel) (by decide) (isX4_L ho0) ((t_Pa_fail (T := T) (xs := xs) ho0 Hb10).mono (jKle 1 hd)) rfl ?_
          refine jchk H (fun c11 H => ?_)
          exact jEv.retZ (show jfI 60 172 (.ireturn) 1 [] = true by decide +kernel) (by decide +kernel) c11 (by cases H; exact HY)
        · refine jEv.blk [(.aload_n 0, 1, [])] (by decide +kernel) (pc' := 125) (ls' := [(2, Int.ofNat o0), (0, (b1.2 o0 7))]) (st' := [(2, Int.ofNat o0)]) rfl ?_
          refine jEv.gfD (show jfI 60 125 (.getfield 12) 3 [4, 0, 2, 0, 1126] = true by decide +kernel) (isX4_L ho0) (by decide) H (fun q12 hq12 H => ?_)
          refine jEv.gfI (show jfI 60 128 (.getfield 160) 3 [6, 6, 0, 1, 1074] = true by decide +kernel) (isX6_L hq12) (by decide) ?_
          refine jEv.if_eq (t := 141) (show jfI 60 131 (.ifCond .eq 10) 3 [] = true by decide +kernel) rfl H (fun c13 H => ?_) (fun c13 H => ?_)
          · refine jEv.blk [(.aload_n 0, 1, [])] (by decide +kernel) (pc' := 142) (ls' := [(2, Int.ofNat o0), (0, (b1.2 o0 7))]) (st' := [(2, Int.ofNat o0)]) rfl ?_
            refine jEv.gfD (show jfI 60 142 (.getfield 12) 3 [4, 0, 2, 0, 1126] = true by decide +kernel) (isX4_L ho0) (by decide) H (fun q14 hq14 H => ?_)
            refine jEv.blk [(.iconst 1, 1, [])] (by decide +kernel) (pc' := 146) (ls' := [(2, Int.ofNat o0), (0, (b1.2 o0 7))]) (st' := [(0, 1), (2, Int.ofNat q14)]) rfl ?_
            refine jEv.pfZ (show jfI 60 146 (.putfield 160) 3 [6, 6, 0, 1, 1074] = true by decide +kernel) (isX6_L hq14) (by decide) (by decide) ?_
            refine jEv.blk [(.aload_n 0, 1, []), (.aload_n 0, 1, [])] (by decide +kernel) (pc' := 151) (ls' := [(2, Int.ofNat o0), (0, (b1.2 o0 7))]) (st' := [(2, Int.ofNat o0), (2, Int.ofNat o0)]) rfl ?_
            refine jEv.gfD (show jfI 60 151 (.getfield 12) 3 [4, 0, 2, 0, 1126] = true by decide +kernel) (isX4_L ho0) (by decide) H (fun q15 hq15 H => ?_)
            refine jEv.gfR (o' := (q15 + 5)) (show jfI 60 154 (.getfield 163) 3 [6, 8, 5, 0, 1080] = true by decide +kernel) (isX6_L hq15) (by decide) (isX6_r8 hq15) ?_
            refine jEv.blk [(.iconst 1, 1, [])] (by decide +kernel) (pc' := 158) (ls' := [(2, Int.ofNat o0), (0, (b1.2 o0 7))]) (st' := [(0, 1), (2, Int.ofNat (q15 + 5)), (2, Int.ofNat o0)]) rfl ?_
            refine jbind H (fun b16 Hb16 H => ?_)
            refine jEv.calV (st' := []) (show jfI 60 158 (.invokevirtual 74) 3 [1, 62, 2, 3231] = true by decide +kernel) rfl (Or.inl rfl) rfl (Nat.le_of_ble_eq_true rfl) (by decide +kernel) (by decide) (isX4_L ho0) ((t_Pa_aim (T := T) (xs := xs) ho0 (isX6_s8 hq15) Hb16).mono (jKle 2 hd)) rfl ?_
            refine jEv.blk [(.aload_n 0, 1, [])] (by decide +kernel) (pc' := 162) (ls' := [(2, Int.ofNat o0), (0, (b1.2 o0 7))]) (st' := [(2, Int.ofNat o0)]) rfl ?_
            refine jbind H (fun b17 Hb17 H => ?_)
            refine jEv.calV (st' := [(0, b17.1)]) (show jfI 60 162 (.invokevirtual 81) 3 [1, 69, 0, 4026] = true by decide +kernel) rfl (Or.inl rfl) rfl (Nat.le_of_ble_eq_true rfl) (by decide +kernel) (by decide) (isX4_L ho0) (((t_jrecW (T := T) (xs := xs)).2.2.2.2.1 ho0 Hb17).mono (jKle 87 hd)) rfl ?_
            refine jchk H (fun c18 H => ?_)
            exact jEv.retZ (show jfI 60 165 (.ireturn) 1 [] = true by decide +kernel) (by decide +kernel) c18 (by cases H; exact HY)
          · refine jEv.blk [(.aload_n 0, 1, []), (.iconst 5, 1, []), (.iload_n 1, 1, [])] (by decide +kernel) (pc' := 137) (ls' := [(2, Int.ofNat o0), (0, (b1.2 o0 7))]) (st' := [(0, (b1.2 o0 7)), (0, 5), (2, Int.ofNat o0)]) rfl ?_
            refine jbind H (fun b19 Hb19 H => ?_)
            refine jEv.calV (st' := [(0, b19.1)]) (show jfI 60 137 (.invokevirtual 61) 3 [1, 55, 2, 3193] = true by decide +kernel) rfl (Or.inl rfl) rfl (Nat.le_of_ble_eq_true rfl) (by decide +kernel) (by decide) (isX4_L ho0) ((t_Pa_fail (T := T) (xs := xs) ho0 Hb19).mono (jKle 1 hd)) rfl ?_
            refine jchk H (fun c20 H => ?_)
            exact jEv.retZ (show jfI 60 140 (.ireturn) 1 [] = true by decide +kernel) (by decide +kernel) c20 (by cases H; exact HY)
      · refine jEv.blk [(.aload_n 0, 1, [])] (by decide +kernel) (pc' := 74) (ls' := [(2, Int.ofNat o0), (0, (b1.2 o0 7))]) (st' := [(2, Int.ofNat o0)]) rfl ?_
        refine jEv.gfD (show jfI 60 74 (.getfield 12) 3 [4, 0, 2, 0, 1126] = true by decide +kernel) (isX4_L ho0) (by decide) H (fun q21 hq21 H => ?_)
        refine jEv.gfI (show jfI 60 77 (.getfield 152) 3 [6, 5, 0, 1, 1072] = true by decide +kernel) (isX6_L hq21) (by decide) ?_
        refine jEv.if_eq (t := 90) (show jfI 60 80 (.ifCond .eq 10) 3 [] = true by decide +kernel) rfl H (fun c22 H => ?_) (fun c22 H => ?_)
        · refine jEv.blk [(.aload_n 0, 1, [])] (by decide +kernel) (pc' := 91) (ls' := [(2, Int.ofNat o0), (0, (b1.2 o0 7))]) (st' := [(2, Int.ofNat o0)]) rfl ?_
          refine jEv.gfD (show jfI 60 91 (.getfield 12) 3 [4, 0, 2, 0, 1126] = true by decide +kernel) (isX4_L ho0) (by decide) H (fun q23 hq23 H => ?_)
          refine jEv.blk [(.iconst 1, 1, [])] (by decide +kernel) (pc' := 95) (ls' := [(2, Int.ofNat o0), (0, (b1.2 o0 7))]) (st' := [(0, 1), (2, Int.ofNat q23)]) rfl ?_
          refine jEv.pfZ (show jfI 60 95 (.putfield 152) 3 [6, 5, 0, 1, 1072] = true by decide +kernel) (isX6_L hq23) (by decide) (by decide) ?_
          refine jEv.blk [(.aload_n 0, 1, []), (.aload_n 0, 1, [])] (by decide +kernel) (pc' := 100) (ls' := [(2, Int.ofNat o0), (0, (b1.2 o0 7))]) (st' := [(2, Int.ofNat o0), (2, Int.ofNat o0)]) rfl ?_
          refine jEv.gfD (show jfI 60 100 (.getfield 12) 3 [4, 0, 2, 0, 1126] = true by decide +kernel) (isX4_L ho0) (by decide) H (fun q24 hq24 H => ?_)
          refine jEv.gfR (o' := (q24 + 1)) (show jfI 60 103 (.getfield 156) 3 [6, 7, 5, 0, 1077] = true by decide +kernel) (isX6_L hq24) (by decide) (isX6_r7 hq24) ?_
          refine jEv.blk [(.iconst 0, 1, [])] (by decide +kernel) (pc' := 107) (ls' := [(2, Int.ofNat o0), (0, (b1.2 o0 7))]) (st' := [(0, 0), (2, Int.ofNat (q24 + 1)), (2, Int.ofNat o0)]) rfl ?_
          refine jbind H (fun b25 Hb25 H => ?_)
          refine jEv.calV (st' := []) (show jfI 60 107 (.invokevirtual 74) 3 [1, 62, 2, 3231] = true by decide +kernel) rfl (Or.inl rfl) rfl (Nat.le_of_ble_eq_true rfl) (by decide +kernel) (by decide) (isX4_L ho0) ((t_Pa_aim (T := T) (xs := xs) ho0 (isX6_s7 hq24) Hb25).mono (jKle 2 hd)) rfl ?_
          refine jEv.blk [(.aload_n 0, 1, [])] (by decide +kernel) (pc' := 111) (ls' := [(2, Int.ofNat o0), (0, (b1.2 o0 7))]) (st' := [(2, Int.ofNat o0)]) rfl ?_
          refine jbind H (fun b26 Hb26 H => ?_)
          refine jEv.calV (st' := [(0, b26.1)]) (show jfI 60 111 (.invokevirtual 78) 3 [1, 63, 0, 3239] = true by decide +kernel) rfl (Or.inl rfl) rfl (Nat.le_of_ble_eq_true rfl) (by decide +kernel) (by decide) (isX4_L ho0) (((t_jrecW (T := T) (xs := xs)).1 ho0 Hb26).mono (jKle 87 hd)) rfl ?_
          refine jchk H (fun c27 H => ?_)
          exact jEv.retZ (show jfI 60 114 (.ireturn) 1 [] = true by decide +kernel) (by decide +kernel) c27 (by cases H; exact HY)
        · refine jEv.blk [(.aload_n 0, 1, []), (.iconst 5, 1, []), (.iload_n 1, 1, [])] (by decide +kernel) (pc' := 86) (ls' := [(2, Int.ofNat o0), (0, (b1.2 o0 7))]) (st' := [(0, (b1.2 o0 7)), (0, 5), (2, Int.ofNat o0)]) rfl ?_
          refine jbind H (fun b28 Hb28 H => ?_)
          refine jEv.calV (st' := [(0, b28.1)]) (show jfI 60 86 (.invokevirtual 61) 3 [1, 55, 2, 3193] = true by decide +kernel) rfl (Or.inl rfl) rfl (Nat.le_of_ble_eq_true rfl) (by decide +kernel) (by decide) (isX4_L ho0) ((t_Pa_fail (T := T) (xs := xs) ho0 Hb28).mono (jKle 1 hd)) rfl ?_
          refine jchk H (fun c29 H => ?_)
          exact jEv.retZ (show jfI 60 89 (.ireturn) 1 [] = true by decide +kernel) (by decide +kernel) c29 (by cases H; exact HY)
    · refine jEv.blk [(.aload_n 0, 1, [])] (by decide +kernel) (pc' := 34) (ls' := [(2, Int.ofNat o0), (0, (b1.2 o0 7))]) (st' := [(2, Int.ofNat o0)]) rfl ?_
      refine jEv.gfD (show jfI 60 34 (.getfield 12) 3 [4, 0, 2, 0, 1126] = true by decide +kernel) (isX4_L ho0) (by decide) H (fun q30 hq30 H => ?_)
      refine jEv.blk [(.aload_n 0, 1, []), (.iconst 0, 1, []), (.bipush 100, 2, [])] (by decide +kernel) (pc' := 41) (ls' := [(2, Int.ofNat o0), (0, (b1.2 o0 7))]) (st' := [(0, 100), (0, 0), (2, Int.ofNat o0), (2, Int.ofNat q30)]) rfl ?_
      refine jbind H (fun b31 Hb31 H => ?_)
      refine jEv.calV (st' := [(0, b31.1), (2, Int.ofNat q30)]) (show jfI 60 41 (.invokevirtual 127) 3 [1, 56, 2, 3197] = true by decide +kernel) rfl (Or.inl rfl) rfl (Nat.le_of_ble_eq_true rfl) (by decide +kernel) (by decide) (isX4_L ho0) ((t_Pa_number (T := T) (xs := xs) ho0 Hb31).mono (jKle 2 hd)) rfl ?_
      refine jEv.pfI (show jfI 60 44 (.putfield 148) 3 [6, 3, 0, 0, 1066] = true by decide +kernel) (isX6_L hq30) (by decide) ?_
      refine jEv.blk [(.aload_n 0, 1, [])] (by decide +kernel) (pc' := 48) (ls' := [(2, Int.ofNat o0), (0, (b1.2 o0 7))]) (st' := [(2, Int.ofNat o0)]) rfl ?_
      refine jEv.gfD (show jfI 60 48 (.getfield 12) 3 [4, 0, 2, 0, 1126] = true by decide +kernel) (isX4_L ho0) (by decide) H (fun q32 hq32 H => ?_)
      refine jEv.gfI (show jfI 60 51 (.getfield 148) 3 [6, 3, 0, 0, 1066] = true by decide +kernel) (isX6_L hq32) (by decide) ?_
      refine jEv.blk [(.iconst (-1), 1, [])] (by decide +kernel) (pc' := 55) (ls' := [(2, Int.ofNat o0), (0, (b1.2 o0 7))]) (st' := [(0, (-1)), (0, ((jup b31.2 q30 3 b31.1) q32 3))]) rfl ?_
      refine jEv.ic_eq (t := 62) (show jfI 60 55 (.if_icmp .eq 7) 3 [] = true by decide +kernel) rfl H (fun c33 H => ?_) (fun c33 H => ?_)
      · refine jEv.blk [(.iconst 0, 1, [])] (by decide +kernel) (pc' := 63) (ls' := [(2, Int.ofNat o0), (0, (b1.2 o0 7))]) (st' := [(0, 0)]) rfl ?_
        exact jEv.retZ (show jfI 60 63 (.ireturn) 1 [] = true by decide +kernel) (by decide +kernel) (by decide) (by cases H; exact HY)
      · refine jEv.blk [(.iconst 1, 1, [])] (by decide +kernel) (pc' := 59) (ls' := [(2, Int.ofNat o0), (0, (b1.2 o0 7))]) (st' := [(0, 1)]) rfl ?_
        refine jEv.goto (t := 63) (show jfI 60 59 (.goto 4) 3 [] = true by decide +kernel) rfl ?_
        exact jEv.retZ (show jfI 60 63 (.ireturn) 1 [] = true by decide +kernel) (by decide +kernel) (by decide) (by cases H; exact HY)
  · refine jEv.blk [(.aload_n 0, 1, [])] (by decide +kernel) (pc' := 20) (ls' := [(2, Int.ofNat o0), (0, (b1.2 o0 7))]) (st' := [(2, Int.ofNat o0)]) rfl ?_
    refine jbind H (fun b34 Hb34 H => ?_)
    refine jEv.calV (st' := [(0, b34.1)]) (show jfI 60 20 (.invokevirtual 143) 3 [1, 61, 0, 3219] = true by decide +kernel) rfl (Or.inl rfl) rfl (Nat.le_of_ble_eq_true rfl) (by decide +kernel) (by decide) (isX4_L ho0) ((t_Pa_record (T := T) (xs := xs) ho0 Hb34).mono (jKle 7 hd)) rfl ?_
    refine jchk H (fun c35 H => ?_)
    exact jEv.retZ (show jfI 60 23 (.ireturn) 1 [] = true by decide +kernel) (by decide +kernel) c35 (by cases H; exact HY)
