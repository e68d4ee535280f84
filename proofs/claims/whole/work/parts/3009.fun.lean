/-! methods as functions -/
def yk_M_zeroes_L5 (T : jT) (xs : List Int) (d : Nat) (y : jV × jS)  (o0 : Nat) (v1 : Int) : ((Int × Int × jH) ⊕ (Int × jH)) → Prop
  | .inl (v3, v4, h) => jEv xs d (322, 5, [(2, Int.ofNat o0), (0, v1), (3, 0), (0, v3), (0, v4)], []) (T, h) y
  | .inr o => ykI T y o
set_option maxRecDepth 20000 in
noncomputable def M_zeroes_p27  (h : jH) (o0 : Nat) (v1 : Int) (v3 : Int) (v4 : Int) : Option ((Int × Int × jH) ⊕ (Int × jH)) := Option.bind (M_lands h o0 (wr ((wr (128 * v1)) + v4)) 0) (fun b5 => some (.inl (v3, (wr (v4 + 1)), b5)))
set_option maxRecDepth 20000 in
theorem t_M_zeroes_p27 {T : jT} {xs : List Int} {d : Nat} {y : jV × jS} (hd : 1 ≤ d) {h : jH}  {o0 : Nat} {v1 : Int} {v3 : Int} {v4 : Int} {out : ((Int × Int × jH) ⊕ (Int × jH))} (ho0 : isX12 T o0) (H : M_zeroes_p27 h o0 v1 v3 v4 = some out) (HY : yk_M_zeroes_L5 T xs d y o0 v1 out) : jEv xs d (322, 27, [(2, Int.ofNat o0), (0, v1), (3, 0), (0, v3), (0, v4)], []) (T, h) y := by
  unfold M_zeroes_p27 at H
  refine jEv.blk [(.aload_n 0, 1, []), (.sipush 128, 3, []), (.iload_n 1, 1, []), (.imul, 1, []), (.iload 4, 2, []), (.iadd, 1, []), (.iconst 0, 1, [])] (by decide +kernel) (pc' := 37) (ls' := [(2, Int.ofNat o0), (0, v1), (3, 0), (0, v3), (0, v4)]) (st' := [(0, 0), (0, (wr ((wr (128 * v1)) + v4))), (2, Int.ofNat o0)]) rfl ?_
  refine jbind H (fun b5 Hb5 H => ?_)
  refine jEv.calV (st' := []) (show jfI 322 37 (.invokevirtual 393) 3 [1, 246, 2, 9064] = true by decide +kernel) rfl (Or.inl rfl) rfl (Nat.le_of_ble_eq_true rfl) (by decide +kernel) (by decide) (isX12_L ho0) ((t_M_lands (T := T) (xs := xs) ho0 Hb5).mono (jKle 1 hd)) rfl ?_
  refine jEv.blk [(.iinc 4 1, 3, [])] (by decide +kernel) (pc' := 43) (ls' := [(2, Int.ofNat o0), (0, v1), (3, 0), (0, v3), (0, (wr (v4 + 1)))]) (st' := []) rfl ?_
  refine jEv.goto (t := 5) (show jfI 322 43 (.goto (-38)) 3 [] = true by decide +kernel) rfl ?_
  exact (by cases H; exact HY)
set_option maxRecDepth 20000 in
noncomputable def M_zeroes_B5  (h : jH) (o0 : Nat) (v1 : Int) (v3 : Int) (v4 : Int) : Option ((Int × Int × jH) ⊕ (Int × jH)) := Option.bind (M_length h o0) (fun b1 => (if v4 < b1 then Option.bind (M_diskAt h o0 v1 v4) (fun b3 => (if b3 = 0 then M_zeroes_p27 h o0 v1 v3 v4 else M_zeroes_p27 h o0 v1 (wr (v3 + 1)) v4)) else Option.map Sum.inr (some (v3, h))))
noncomputable def M_zeroes_L5  (h : jH) (o0 : Nat) (v1 : Int) (v3 : Int) (v4 : Int) : Option (Int × jH) := jloop (fun s : (Int × Int × jH) => M_zeroes_B5 s.2.2 o0 v1 s.1 s.2.1) (v3, v4, h)
set_option maxRecDepth 20000 in
theorem t_M_zeroes_B5 {T : jT} {xs : List Int} {d : Nat} {y : jV × jS} (hd : 1 ≤ d) {h : jH}  {o0 : Nat} {v1 : Int} {v3 : Int} {v4 : Int} {out : ((Int × Int × jH) ⊕ (Int × jH))} (ho0 : isX12 T o0) (H : M_zeroes_B5 h o0 v1 v3 v4 = some out) (HY : yk_M_zeroes_L5 T xs d y o0 v1 out) : jEv xs d (322, 5, [(2, Int.ofNat o0), (0, v1), (3, 0), (0, v3), (0, v4)], []) (T, h) y := by
  unfold M_zeroes_B5 at H
  refine jEv.blk [(.iload 4, 2, []), (.aload_n 0, 1, [])] (by decide +kernel) (pc' := 8) (ls' := [(2, Int.ofNat o0), (0, v1), (3, 0), (0, v3), (0, v4)]) (st' := [(2, Int.ofNat o0), (0, v4)]) rfl ?_
  refine jbind H (fun b1 Hb1 H => ?_)
  refine jEv.calV (st' := [(0, b1), (0, v4)]) (show jfI 322 8 (.invokevirtual 402) 3 [1, 249, 0, 9076] = true by decide +kernel) rfl (Or.inl rfl) rfl (Nat.le_of_ble_eq_true rfl) (by decide +kernel) (by decide) (isX12_L ho0) ((t_M_length (T := T) (xs := xs) ho0 Hb1).mono (jKle 1 hd)) rfl ?_
  refine jEv.ic_ge (t := 46) (show jfI 322 11 (.if_icmp .ge 35) 3 [] = true by decide +kernel) rfl H (fun c2 H => ?_) (fun c2 H => ?_)
  · refine jEv.blk [(.aload_n 0, 1, []), (.iload_n 1, 1, []), (.iload 4, 2, [])] (by decide +kernel) (pc' := 18) (ls' := [(2, Int.ofNat o0), (0, v1), (3, 0), (0, v3), (0, v4)]) (st' := [(0, v4), (0, v1), (2, Int.ofNat o0)]) rfl ?_
    refine jbind H (fun b3 Hb3 H => ?_)
    refine jEv.calV (st' := [(0, b3)]) (show jfI 322 18 (.invokevirtual 494) 3 [1, 259, 2, 9116] = true by decide +kernel) rfl (Or.inl rfl) rfl (Nat.le_of_ble_eq_true rfl) (by decide +kernel) (by decide) (isX12_L ho0) ((t_M_diskAt (T := T) (xs := xs) ho0 Hb3).mono (jKle 1 hd)) rfl ?_
    refine jEv.if_eq (t := 27) (show jfI 322 21 (.ifCond .eq 6) 3 [] = true by decide +kernel) rfl H (fun c4 H => ?_) (fun c4 H => ?_)
    · exact t_M_zeroes_p27 (T := T) (xs := xs) (y := y) hd ho0 H HY
    · refine jEv.blk [(.iinc 3 1, 3, [])] (by decide +kernel) (pc' := 27) (ls' := [(2, Int.ofNat o0), (0, v1), (3, 0), (0, (wr (v3 + 1))), (0, v4)]) (st' := []) rfl ?_
      exact t_M_zeroes_p27 (T := T) (xs := xs) (y := y) hd ho0 H HY
  · refine jmapr H HY (fun out H (HY : ykI T y out) => ?_)
    refine jEv.blk [(.iload_n 3, 1, [])] (by decide +kernel) (pc' := 47) (ls' := [(2, Int.ofNat o0), (0, v1), (3, 0), (0, v3), (0, v4)]) (st' := [(0, v3)]) rfl ?_
    exact jEv.retI (show jfI 322 47 (.ireturn) 1 [] = true by decide +kernel) (by decide +kernel) (by cases H; exact HY)
theorem t_M_zeroes_L5 {T : jT} {xs : List Int} {d : Nat} {y : jV × jS} (hd : 1 ≤ d) {h : jH}  {o0 : Nat} {v1 : Int} {v3 : Int} {v4 : Int} {out : (Int × jH)} (ho0 : isX12 T o0) (H : M_zeroes_L5 h o0 v1 v3 v4 = some out) (HY : ykI T y out) : jEv xs d (322, 5, [(2, Int.ofNat o0), (0, v1), (3, 0), (0, v3), (0, v4)], []) (T, h) y :=
  jloop_sound (G := fun s : (Int × Int × jH) => jEv xs d (322, 5, [(2, Int.ofNat o0), (0, v1), (3, 0), (0, s.1), (0, s.2.1)], []) (T, s.2.2) y) (K := yk_M_zeroes_L5 T xs d y o0 v1) (fun s out H HY => t_M_zeroes_B5 hd ho0 H HY) (fun s' hg => hg) (s := (v3, v4, h)) H HY
set_option maxRecDepth 20000 in
noncomputable def M_zeroes  (h : jH) (o0 : Nat) (v1 : Int) (v2 : Int) : Option (Int × jH) := M_zeroes_L5 h o0 v1 0 v2
set_option maxRecDepth 20000 in
theorem t_M_zeroes {T : jT} {xs : List Int} {h : jH}  {o0 : Nat} {v1 : Int} {v2 : Int} {out : (Int × jH)} (ho0 : isX12 T o0) (H : M_zeroes h o0 v1 v2 = some out) : jEm xs 2 322 [(2, Int.ofNat o0), (0, v1), (0, v2)] (T, h) ((0, out.1), (T, out.2)) := by
  have hd : 1 ≤ 1 := Nat.le_refl _
  obtain ⟨y, ey⟩ : ∃ y : jV × jS, y = ((0, out.1), (T, out.2)) := ⟨_, rfl⟩
  rw [← ey]
  have HY : ykI T y out := ey
  refine jEm.ent (n := 5) (by decide +kernel) (Nat.le_of_ble_eq_true rfl) ?_
  show jEv xs 1 (322, 0, [(2, Int.ofNat o0), (0, v1), (0, v2), (3, 0), (3, 0)], []) (T, h) y
  unfold M_zeroes at H
  refine jEv.blk [(.iconst 0, 1, []), (.istore_n 3, 1, []), (.iload_n 2, 1, []), (.istore 4, 2, [])] (by decide +kernel) (pc' := 5) (ls' := [(2, Int.ofNat o0), (0, v1), (0, v2), (0, 0), (0, v2)]) (st' := []) rfl ?_
  exact jEv.weak (a := [(2, Int.ofNat o0), (0, v1), (3, 0), (0, 0), (0, v2)]) (jles.c1 (jles.c1 (jles.c0 (jles.c1 (jles.c1 jles.nl))))) (t_M_zeroes_L5 (T := T) (xs := xs) (y := y) hd ho0 H HY)
def yk_M_recovering_L137 (T : jT) (xs : List Int) (d : Nat) (y : jV × jS)  (o0 : Nat) : ((Int × Int × jH) ⊕ jH) → Prop
  | .inl (v1, v2, h) => jEv xs d (316, 137, [(2, Int.ofNat o0), (0, v1), (0, v2)], []) (T, h) y
  | .inr o => ykV T y o
def yk_M_recovering_L60 (T : jT) (xs : List Int) (d : Nat) (y : jV × jS)  (o0 : Nat) : ((Int × jH) ⊕ jH) → Prop
  | .inl (v1, h) => jEv xs d (316, 60, [(2, Int.ofNat o0), (0, v1), (3, 0)], []) (T, h) y
  | .inr o => ykV T y o
def yk_M_recovering_L36 (T : jT) (xs : List Int) (d : Nat) (y : jV × jS)  (o0 : Nat) : ((Int × jH) ⊕ jH) → Prop
  | .inl (v1, h) => jEv xs d (316, 36, [(2, Int.ofNat o0), (0, v1), (3, 0)], []) (T, h) y
  | .inr o => ykV T y o
def yk_M_recovering_L2 (T : jT) (xs : List Int) (d : Nat) (y : jV × jS)  (o0 : Nat) : ((Int × jH) ⊕ jH) → Prop
  | .inl (v1, h) => jEv xs d (316, 2, [(2, Int.ofNat o0), (0, v1), (3, 0)], []) (T, h) y
  | .inr o => ykV T y o
set_option maxRecDepth 20000 in
noncomputable def M_recovering_p236  (h : jH) (o0 : Nat) : Option jH := (if (0 : Int) ≤ 1 ∧ (1 : Int).toNat < 2365 then (if (0 : Int) ≤ 2 ∧ (2 : Int).toNat < 2365 then some (jup (jup h (o0 + 33) (1 : Int).toNat (h o0 62)) (o0 + 33) (2 : Int).toNat ((jup h (o0 + 33) (1 : Int).toNat (h o0 62)) o0 62)) else none) else none)
set_option maxRecDepth 20000 in
theorem t_M_recovering_p236 {T : jT} {xs : List Int} {d : Nat} {y : jV × jS} (hd : 5 ≤ d) {h : jH}  {o0 : Nat} {out : jH} (ho0 : isX12 T o0) (H : M_recovering_p236 h o0 = some out) (HY : ykV T y out) : jEv xs d (316, 236, [(2, Int.ofNat o0), (3, 0), (3, 0)], []) (T, h) y := by
  unfold M_recovering_p236 at H
  refine jEv.blk [(.aload_n 0, 1, [])] (by decide +kernel) (pc' := 237) (ls' := [(2, Int.ofNat o0), (3, 0), (3, 0)]) (st' := [(2, Int.ofNat o0)]) rfl ?_
  refine jEv.gfR (o' := (o0 + 33)) (show jfI 316 237 (.getfield 111) 3 [12, 45, 5, 0, 7081] = true by decide +kernel) (isX12_L ho0) (by decide) (isX12_r45 ho0) ?_
  refine jEv.blk [(.iconst 1, 1, []), (.aload_n 0, 1, [])] (by decide +kernel) (pc' := 242) (ls' := [(2, Int.ofNat o0), (3, 0), (3, 0)]) (st' := [(2, Int.ofNat o0), (0, 1), (2, Int.ofNat (o0 + 33))]) rfl ?_
  refine jEv.gfI (show jfI 316 242 (.getfield 510) 3 [12, 62, 0, 0, 7098] = true by decide +kernel) (isX12_L ho0) (by decide) ?_
  refine jEv.ast (Or.inl ⟨rfl, rfl, rfl⟩) (show jfI 316 245 (.iastore) 1 [] = true by decide +kernel) (isX12_a45 ho0) rfl H (fun c28 H => ?_)
  refine jEv.blk [(.aload_n 0, 1, [])] (by decide +kernel) (pc' := 247) (ls' := [(2, Int.ofNat o0), (3, 0), (3, 0)]) (st' := [(2, Int.ofNat o0)]) rfl ?_
  refine jEv.gfR (o' := (o0 + 33)) (show jfI 316 247 (.getfield 111) 3 [12, 45, 5, 0, 7081] = true by decide +kernel) (isX12_L ho0) (by decide) (isX12_r45 ho0) ?_
  refine jEv.blk [(.iconst 2, 1, []), (.aload_n 0, 1, [])] (by decide +kernel) (pc' := 252) (ls' := [(2, Int.ofNat o0), (3, 0), (3, 0)]) (st' := [(2, Int.ofNat o0), (0, 2), (2, Int.ofNat (o0 + 33))]) rfl ?_
  refine jEv.gfI (show jfI 316 252 (.getfield 510) 3 [12, 62, 0, 0, 7098] = true by decide +kernel) (isX12_L ho0) (by decide) ?_
  refine jEv.ast (Or.inl ⟨rfl, rfl, rfl⟩) (show jfI 316 255 (.iastore) 1 [] = true by decide +kernel) (isX12_a45 ho0) rfl H (fun c29 H => ?_)
  exact jEv.retV (show jfI 316 256 (.return_) 1 [] = true by decide +kernel) (by decide +kernel) (by cases H; exact HY)
set_option maxRecDepth 20000 in
noncomputable def M_recovering_B137  (h : jH) (o0 : Nat) (v1 : Int) (v2 : Int) : Option ((Int × Int × jH) ⊕ jH) := (if v2 = (-1) then Option.map Sum.inr ((if (0 : Int) ≤ 9 ∧ (9 : Int).toNat < 2365 then (if (h o0 62) < (h (o0 + 33) (9 : Int).toNat) then Option.bind (M_endsWithoutGround h o0) (fun b17 => some b17) else (if (0 : Int) ≤ 5 ∧ (5 : Int).toNat < 2365 then (if (0 : Int) ≤ 6 ∧ (6 : Int).toNat < 2365 then Option.bind (M_serialOf (jup (jup h (o0 + 33) (5 : Int).toNat v1) (o0 + 33) (6 : Int).toNat ((jup h (o0 + 33) (5 : Int).toNat v1) o0 60)) o0 v1) (fun b20 => (if (0 : Int) ≤ 7 ∧ (7 : Int).toNat < 2365 then Option.bind (M_isDamaged (jup (jup (jup h (o0 + 33) (5 : Int).toNat v1) (o0 + 33) (6 : Int).toNat ((jup h (o0 + 33) (5 : Int).toNat v1) o0 60)) (o0 + 33) (7 : Int).toNat b20) o0 v1) (fun b22 => (if b22 = 0 then Option.bind (M_zeroes (jup (jup (jup h (o0 + 33) (5 : Int).toNat v1) (o0 + 33) (6 : Int).toNat ((jup h (o0 + 33) (5 : Int).toNat v1) o0 60)) (o0 + 33) (7 : Int).toNat b20) o0 v1 ((jup (jup (jup h (o0 + 33) (5 : Int).toNat v1) (o0 + 33) (6 : Int).toNat ((jup h (o0 + 33) (5 : Int).toNat v1) o0 60)) (o0 + 33) (7 : Int).toNat b20) o0 60)) (fun b24 => M_recovering_p236 b24.2 o0) else (if (0 : Int) ≤ 10 ∧ (10 : Int).toNat < 2365 then M_recovering_p236 (jup (jup (jup (jup h (o0 + 33) (5 : Int).toNat v1) (o0 + 33) (6 : Int).toNat ((jup h (o0 + 33) (5 : Int).toNat v1) o0 60)) (o0 + 33) (7 : Int).toNat b20) (o0 + 33) (10 : Int).toNat 1) o0 else none))) else none)) else none) else none)) else none)) else Option.bind (M_walks h o0 v2) (fun b26 => Option.bind (M_follower b26 o0 v2) (fun b27 => some (.inl (v2, b27, b26)))))
noncomputable def M_recovering_L137  (h : jH) (o0 : Nat) (v1 : Int) (v2 : Int) : Option jH := jloop (fun s : (Int × Int × jH) => M_recovering_B137 s.2.2 o0 s.1 s.2.1) (v1, v2, h)
set_option maxRecDepth 20000 in
theorem t_M_recovering_B137 {T : jT} {xs : List Int} {d : Nat} {y : jV × jS} (hd : 5 ≤ d) {h : jH}  {o0 : Nat} {v1 : Int} {v2 : Int} {out : ((Int × Int × jH) ⊕ jH)} (ho0 : isX12 T o0) (H : M_recovering_B137 h o0 v1 v2 = some out) (HY : yk_M_recovering_L137 T xs d y o0 out) : jEv xs d (316, 137, [(2, Int.ofNat o0), (0, v1), (0, v2)], []) (T, h) y := by
  unfold M_recovering_B137 at H
  refine jEv.blk [(.iload_n 2, 1, []), (.iconst (-1), 1, [])] (by decide +kernel) (pc' := 139) (ls' := [(2, Int.ofNat o0), (0, v1), (0, v2)]) (st' := [(0, (-1)), (0, v2)]) rfl ?_
  refine jEv.ic_eq (t := 158) (show jfI 316 139 (.if_icmp .eq 19) 3 [] = true by decide +kernel) rfl H (fun c14 H => ?_) (fun c14 H => ?_)
  · refine jmapr H HY (fun out H (HY : ykV T y out) => ?_)
    refine jEv.blk [(.aload_n 0, 1, [])] (by decide +kernel) (pc' := 159) (ls' := [(2, Int.ofNat o0), (0, v1), (0, v2)]) (st' := [(2, Int.ofNat o0)]) rfl ?_
    refine jEv.gfI (show jfI 316 159 (.getfield 510) 3 [12, 62, 0, 0, 7098] = true by decide +kernel) (isX12_L ho0) (by decide) ?_
    refine jEv.blk [(.aload_n 0, 1, [])] (by decide +kernel) (pc' := 163) (ls' := [(2, Int.ofNat o0), (0, v1), (0, v2)]) (st' := [(2, Int.ofNat o0), (0, (h o0 62))]) rfl ?_
    refine jEv.gfR (o' := (o0 + 33)) (show jfI 316 163 (.getfield 111) 3 [12, 45, 5, 0, 7081] = true by decide +kernel) (isX12_L ho0) (by decide) (isX12_r45 ho0) ?_
    refine jEv.blk [(.bipush 9, 2, [])] (by decide +kernel) (pc' := 168) (ls' := [(2, Int.ofNat o0), (0, v1), (0, v2)]) (st' := [(0, 9), (2, Int.ofNat (o0 + 33)), (0, (h o0 62))]) rfl ?_
    refine jEv.ald (Or.inl ⟨rfl, rfl, rfl⟩) (show jfI 316 168 (.iaload) 1 [] = true by decide +kernel) (isX12_a45 ho0) H (fun c15 H => ?_)
    refine jEv.ic_ge (t := 177) (show jfI 316 169 (.if_icmp .ge 8) 3 [] = true by decide +kernel) rfl H (fun c16 H => ?_) (fun c16 H => ?_)
    · refine jEv.blk [(.aload_n 0, 1, [])] (by decide +kernel) (pc' := 173) (ls' := [(2, Int.ofNat o0), (0, v1), (0, v2)]) (st' := [(2, Int.ofNat o0)]) rfl ?_
      refine jbind H (fun b17 Hb17 H => ?_)
      refine jEv.calV (st' := []) (show jfI 316 173 (.invokevirtual 555) 3 [1, 320, 0, 10131] = true by decide +kernel) rfl (Or.inl rfl) rfl (Nat.le_of_ble_eq_true rfl) (by decide +kernel) (by decide) (isX12_L ho0) ((t_M_endsWithoutGround (T := T) (xs := xs) ho0 Hb17).mono (jKle 1 hd)) rfl ?_
      exact jEv.retV (show jfI 316 176 (.return_) 1 [] = true by decide +kernel) (by decide +kernel) (by cases H; exact HY)
    · refine jEv.blk [(.aload_n 0, 1, [])] (by decide +kernel) (pc' := 178) (ls' := [(2, Int.ofNat o0), (0, v1), (0, v2)]) (st' := [(2, Int.ofNat o0)]) rfl ?_
      refine jEv.gfR (o' := (o0 + 33)) (show jfI 316 178 (.getfield 111) 3 [12, 45, 5, 0, 7081] = true by decide +kernel) (isX12_L ho0) (by decide) (isX12_r45 ho0) ?_
      refine jEv.blk [(.iconst 5, 1, []), (.iload_n 1, 1, [])] (by decide +kernel) (pc' := 183) (ls' := [(2, Int.ofNat o0), (0, v1), (0, v2)]) (st' := [(0, v1), (0, 5), (2, Int.ofNat (o0 + 33))]) rfl ?_
      refine jEv.ast (Or.inl ⟨rfl, rfl, rfl⟩) (show jfI 316 183 (.iastore) 1 [] = true by decide +kernel) (isX12_a45 ho0) rfl H (fun c18 H => ?_)
      refine jEv.blk [(.aload_n 0, 1, [])] (by decide +kernel) (pc' := 185) (ls' := [(2, Int.ofNat o0), (0, v1), (0, v2)]) (st' := [(2, Int.ofNat o0)]) rfl ?_
      refine jEv.gfR (o' := (o0 + 33)) (show jfI 316 185 (.getfield 111) 3 [12, 45, 5, 0, 7081] = true by decide +kernel) (isX12_L ho0) (by decide) (isX12_r45 ho0) ?_
      refine jEv.blk [(.bipush 6, 2, []), (.aload_n 0, 1, [])] (by decide +kernel) (pc' := 191) (ls' := [(2, Int.ofNat o0), (0, v1), (0, v2)]) (st' := [(2, Int.ofNat o0), (0, 6), (2, Int.ofNat (o0 + 33))]) rfl ?_
      refine jEv.gfI (show jfI 316 191 (.getfield 516) 3 [12, 60, 0, 0, 7096] = true by decide +kernel) (isX12_L ho0) (by decide) ?_
      refine jEv.ast (Or.inl ⟨rfl, rfl, rfl⟩) (show jfI 316 194 (.iastore) 1 [] = true by decide +kernel) (isX12_a45 ho0) rfl H (fun c19 H => ?_)
      refine jEv.blk [(.aload_n 0, 1, [])] (by decide +kernel) (pc' := 196) (ls' := [(2, Int.ofNat o0), (0, v1), (0, v2)]) (st' := [(2, Int.ofNat o0)]) rfl ?_
      refine jEv.gfR (o' := (o0 + 33)) (show jfI 316 196 (.getfield 111) 3 [12, 45, 5, 0, 7081] = true by decide +kernel) (isX12_L ho0) (by decide) (isX12_r45 ho0) ?_
      refine jEv.blk [(.bipush 7, 2, []), (.aload_n 0, 1, []), (.iload_n 1, 1, [])] (by decide +kernel) (pc' := 203) (ls' := [(2, Int.ofNat o0), (0, v1), (0, v2)]) (st' := [(0, v1), (2, Int.ofNat o0), (0, 7), (2, Int.ofNat (o0 + 33))]) rfl ?_
      refine jbind H (fun b20 Hb20 H => ?_)
      refine jEv.calV (st' := [(0, b20), (0, 7), (2, Int.ofNat (o0 + 33))]) (show jfI 316 203 (.invokevirtual 497) 3 [1, 260, 1, 9120] = true by decide +kernel) rfl (Or.inl rfl) rfl (Nat.le_of_ble_eq_true rfl) (by decide +kernel) (by decide) (isX12_L ho0) ((t_M_serialOf (T := T) (xs := xs) ho0 Hb20).mono (jKle 2 hd)) rfl ?_
      refine jEv.ast (Or.inl ⟨rfl, rfl, rfl⟩) (show jfI 316 206 (.iastore) 1 [] = true by decide +kernel) (isX12_a45 ho0) rfl H (fun c21 H => ?_)
      refine jEv.blk [(.aload_n 0, 1, []), (.iload_n 1, 1, [])] (by decide +kernel) (pc' := 209) (ls' := [(2, Int.ofNat o0), (0, v1), (0, v2)]) (st' := [(0, v1), (2, Int.ofNat o0)]) rfl ?_
      refine jbind H (fun b22 Hb22 H => ?_)
      refine jEv.calV (st' := [(0, b22)]) (show jfI 316 209 (.invokevirtual 558) 3 [1, 321, 1, 10135] = true by decide +kernel) rfl (Or.inl rfl) rfl (Nat.le_of_ble_eq_true rfl) (by decide +kernel) (by decide) (isX12_L ho0) ((t_M_isDamaged (T := T) (xs := xs) ho0 Hb22).mono (jKle 5 hd)) rfl ?_
      refine jEv.if_eq (t := 226) (show jfI 316 212 (.ifCond .eq 14) 3 [] = true by decide +kernel) rfl H (fun c23 H => ?_) (fun c23 H => ?_)
      · refine jEv.blk [(.aload_n 0, 1, []), (.iload_n 1, 1, []), (.aload_n 0, 1, [])] (by decide +kernel) (pc' := 229) (ls' := [(2, Int.ofNat o0), (0, v1), (0, v2)]) (st' := [(2, Int.ofNat o0), (0, v1), (2, Int.ofNat o0)]) rfl ?_
        refine jEv.gfI (show jfI 316 229 (.getfield 516) 3 [12, 60, 0, 0, 7096] = true by decide +kernel) (isX12_L ho0) (by decide) ?_
        refine jbind H (fun b24 Hb24 H => ?_)
        refine jEv.calV (st' := [(0, b24.1)]) (show jfI 316 232 (.invokevirtual 561) 3 [1, 322, 2, 10139] = true by decide +kernel) rfl (Or.inl rfl) rfl (Nat.le_of_ble_eq_true rfl) (by decide +kernel) (by decide) (isX12_L ho0) ((t_M_zeroes (T := T) (xs := xs) ho0 Hb24).mono (jKle 2 hd)) rfl ?_
        refine jEv.blk [(.pop, 1, [])] (by decide +kernel) (pc' := 236) (ls' := [(2, Int.ofNat o0), (0, v1), (0, v2)]) (st' := []) rfl ?_
        exact jEv.weak (a := [(2, Int.ofNat o0), (3, 0), (3, 0)]) (jles.c1 (jles.c0 (jles.c0 jles.nl))) (t_M_recovering_p236 (T := T) (xs := xs) (y := y) hd ho0 H HY)
      · refine jEv.blk [(.aload_n 0, 1, [])] (by decide +kernel) (pc' := 216) (ls' := [(2, Int.ofNat o0), (0, v1), (0, v2)]) (st' := [(2, Int.ofNat o0)]) rfl ?_
        refine jEv.gfR (o' := (o0 + 33)) (show jfI 316 216 (.getfield 111) 3 [12, 45, 5, 0, 7081] = true by decide +kernel) (isX12_L ho0) (by decide) (isX12_r45 ho0) ?_
        refine jEv.blk [(.bipush 10, 2, []), (.iconst 1, 1, [])] (by decide +kernel) (pc' := 222) (ls' := [(2, Int.ofNat o0), (0, v1), (0, v2)]) (st' := [(0, 1), (0, 10), (2, Int.ofNat (o0 + 33))]) rfl ?_
        refine jEv.ast (Or.inl ⟨rfl, rfl, rfl⟩) (show jfI 316 222 (.iastore) 1 [] = true by decide +kernel) (isX12_a45 ho0) rfl H (fun c25 H => ?_)
        refine jEv.goto (t := 236) (show jfI 316 223 (.goto 13) 3 [] = true by decide +kernel) rfl ?_
        exact jEv.weak (a := [(2, Int.ofNat o0), (3, 0), (3, 0)]) (jles.c1 (jles.c0 (jles.c0 jles.nl))) (t_M_recovering_p236 (T := T) (xs := xs) (y := y) hd ho0 H HY)
  · refine jEv.blk [(.iload_n 2, 1, []), (.istore_n 1, 1, []), (.aload_n 0, 1, []), (.iload_n 1, 1, [])] (by decide +kernel) (pc' := 146) (ls' := [(2, Int.ofNat o0), (0, v2), (0, v2)]) (st' := [(0, v2), (2, Int.ofNat o0)]) rfl ?_
    refine jbind H (fun b26 Hb26 H => ?_)
    refine jEv.calV (st' := []) (show jfI 316 146 (.invokevirtual 538) 3 [1, 265, 1, 9140] = true by decide +kernel) rfl (Or.inl rfl) rfl (Nat.le_of_ble_eq_true rfl) (by decide +kernel) (by decide) (isX12_L ho0) ((t_M_walks (T := T) (xs := xs) ho0 Hb26).mono (jKle 4 hd)) rfl ?_
    refine jEv.blk [(.aload_n 0, 1, []), (.iload_n 1, 1, [])] (by decide +kernel) (pc' := 151) (ls' := [(2, Int.ofNat o0), (0, v2), (0, v2)]) (st' := [(0, v2), (2, Int.ofNat o0)]) rfl ?_
    refine jbind H (fun b27 Hb27 H => ?_)
    refine jEv.calV (st' := [(0, b27)]) (show jfI 316 151 (.invokevirtual 552) 3 [1, 318, 1, 10123] = true by decide +kernel) rfl (Or.inl rfl) rfl (Nat.le_of_ble_eq_true rfl) (by decide +kernel) (by decide) (isX12_L ho0) ((t_M_follower (T := T) (xs := xs) ho0 Hb27).mono (jKle 5 hd)) rfl ?_
    refine jEv.blk [(.istore_n 2, 1, [])] (by decide +kernel) (pc' := 155) (ls' := [(2, Int.ofNat o0), (0, v2), (0, b27)]) (st' := []) rfl ?_
    refine jEv.goto (t := 137) (show jfI 316 155 (.goto (-18)) 3 [] = true by decide +kernel) rfl ?_
    exact (by cases H; exact HY)
theorem t_M_recovering_L137 {T : jT} {xs : List Int} {d : Nat} {y : jV × jS} (hd : 5 ≤ d) {h : jH}  {o0 : Nat} {v1 : Int} {v2 : Int} {out : jH} (ho0 : isX12 T o0) (H : M_recovering_L137 h o0 v1 v2 = some out) (HY : ykV T y out) : jEv xs d (316, 137, [(2, Int.ofNat o0), (0, v1), (0, v2)], []) (T, h) y :=
  jloop_sound (G := fun s : (Int × Int × jH) => jEv xs d (316, 137, [(2, Int.ofNat o0), (0, s.1), (0, s.2.1)], []) (T, s.2.2) y) (K := yk_M_recovering_L137 T xs d y o0) (fun s out H HY => t_M_recovering_B137 hd ho0 H HY) (fun s' hg => hg) (s := (v1, v2, h)) H HY
set_option maxRecDepth 20000 in
noncomputable def M_recovering_p127  (h : jH) (o0 : Nat) (v1 : Int) (os0 : Nat) (vs1 : Int) : Option jH := M_recovering_L137 (jup (jup h os0 62 vs1) o0 65 1) o0 v1 v1
set_option maxRecDepth 20000 in
theorem t_M_recovering_p127 {T : jT} {xs : List Int} {d : Nat} {y : jV × jS} (hd : 5 ≤ d) {h : jH}  {o0 : Nat} {v1 : Int} {os0 : Nat} {vs1 : Int} {out : jH} (ho0 : isX12 T o0) (hos0 : isX12 T os0) (H : M_recovering_p127 h o0 v1 os0 vs1 = some out) (HY : ykV T y out) : jEv xs d (316, 127, [(2, Int.ofNat o0), (0, v1), (3, 0)], [(0, vs1), (2, Int.ofNat os0)]) (T, h) y := by
  unfold M_recovering_p127 at H
  refine jEv.pfI (show jfI 316 127 (.putfield 510) 3 [12, 62, 0, 0, 7098] = true by decide +kernel) (isX12_L hos0) (by decide) ?_
  refine jEv.blk [(.aload_n 0, 1, []), (.iconst 1, 1, [])] (by decide +kernel) (pc' := 132) (ls' := [(2, Int.ofNat o0), (0, v1), (3, 0)]) (st' := [(0, 1), (2, Int.ofNat o0)]) rfl ?_
  refine jEv.pfZ (show jfI 316 132 (.putfield 507) 3 [12, 65, 0, 1, 7101] = true by decide +kernel) (isX12_L ho0) (by decide) (by decide) ?_
  refine jEv.blk [(.iload_n 1, 1, []), (.istore_n 2, 1, [])] (by decide +kernel) (pc' := 137) (ls' := [(2, Int.ofNat o0), (0, v1), (0, v1)]) (st' := []) rfl ?_
  exact t_M_recovering_L137 (T := T) (xs := xs) (y := y) hd ho0 H HY
set_option maxRecDepth 20000 in
noncomputable def M_recovering_B60  (h : jH) (o0 : Nat) (v1 : Int) : Option ((Int × jH) ⊕ jH) := (if v1 < 8 then (if (0 : Int) ≤ (wr (184 + v1)) ∧ ((wr (184 + v1)) : Int).toNat < 2365 then some (.inl ((wr (v1 + 1)), (jup h (o0 + 33) ((wr (184 + v1)) : Int).toNat (-1)))) else none) else Option.map Sum.inr ((if (0 : Int) ≤ 11 ∧ (11 : Int).toNat < 2365 then (if (0 : Int) ≤ 12 ∧ (12 : Int).toNat < 2365 then Option.bind (M_beginner (jup (jup h (o0 + 33) (11 : Int).toNat 0) (o0 + 33) (12 : Int).toNat 0) o0) (fun b10 => (if (0 : Int) ≤ 10 ∧ (10 : Int).toNat < 2365 then (if b10 = (-1) then M_recovering_p127 (jup (jup (jup h (o0 + 33) (11 : Int).toNat 0) (o0 + 33) (12 : Int).toNat 0) (o0 + 33) (10 : Int).toNat 0) o0 b10 o0 (-1) else Option.bind (M_firstOf (jup (jup (jup h (o0 + 33) (11 : Int).toNat 0) (o0 + 33) (12 : Int).toNat 0) (o0 + 33) (10 : Int).toNat 0) o0 b10) (fun b13 => M_recovering_p127 (jup (jup (jup h (o0 + 33) (11 : Int).toNat 0) (o0 + 33) (12 : Int).toNat 0) (o0 + 33) (10 : Int).toNat 0) o0 b10 o0 b13)) else none)) else none) else none)))
noncomputable def M_recovering_L60  (h : jH) (o0 : Nat) (v1 : Int) : Option jH := jloop (fun s : (Int × jH) => M_recovering_B60 s.2 o0 s.1) (v1, h)
set_option maxRecDepth 20000 in
theorem t_M_recovering_B60 {T : jT} {xs : List Int} {d : Nat} {y : jV × jS} (hd : 5 ≤ d) {h : jH}  {o0 : Nat} {v1 : Int} {out : ((Int × jH) ⊕ jH)} (ho0 : isX12 T o0) (H : M_recovering_B60 h o0 v1 = some out) (HY : yk_M_recovering_L60 T xs d y o0 out) : jEv xs d (316, 60, [(2, Int.ofNat o0), (0, v1), (3, 0)], []) (T, h) y := by
  unfold M_recovering_B60 at H
  refine jEv.blk [(.iload_n 1, 1, []), (.bipush 8, 2, [])] (by decide +kernel) (pc' := 63) (ls' := [(2, Int.ofNat o0), (0, v1), (3, 0)]) (st' := [(0, 8), (0, v1)]) rfl ?_
  refine jEv.ic_ge (t := 83) (show jfI 316 63 (.if_icmp .ge 20) 3 [] = true by decide +kernel) rfl H (fun c6 H => ?_) (fun c6 H => ?_)
  · refine jEv.blk [(.aload_n 0, 1, [])] (by decide +kernel) (pc' := 67) (ls' := [(2, Int.ofNat o0), (0, v1), (3, 0)]) (st' := [(2, Int.ofNat o0)]) rfl ?_
    refine jEv.gfR (o' := (o0 + 33)) (show jfI 316 67 (.getfield 111) 3 [12, 45, 5, 0, 7081] = true by decide +kernel) (isX12_L ho0) (by decide) (isX12_r45 ho0) ?_
    refine jEv.blk [(.sipush 184, 3, []), (.iload_n 1, 1, []), (.iadd, 1, []), (.iconst (-1), 1, [])] (by decide +kernel) (pc' := 76) (ls' := [(2, Int.ofNat o0), (0, v1), (3, 0)]) (st' := [(0, (-1)), (0, (wr (184 + v1))), (2, Int.ofNat (o0 + 33))]) rfl ?_
    refine jEv.ast (Or.inl ⟨rfl, rfl, rfl⟩) (show jfI 316 76 (.iastore) 1 [] = true by decide +kernel) (isX12_a45 ho0) rfl H (fun c7 H => ?_)
    refine jEv.blk [(.iinc 1 1, 3, [])] (by decide +kernel) (pc' := 80) (ls' := [(2, Int.ofNat o0), (0, (wr (v1 + 1))), (3, 0)]) (st' := []) rfl ?_
    refine jEv.goto (t := 60) (show jfI 316 80 (.goto (-20)) 3 [] = true by decide +kernel) rfl ?_
    exact (by cases H; exact HY)
  · refine jmapr H HY (fun out H (HY : ykV T y out) => ?_)
    refine jEv.blk [(.aload_n 0, 1, [])] (by decide +kernel) (pc' := 84) (ls' := [(2, Int.ofNat o0), (0, v1), (3, 0)]) (st' := [(2, Int.ofNat o0)]) rfl ?_
    refine jEv.gfR (o' := (o0 + 33)) (show jfI 316 84 (.getfield 111) 3 [12, 45, 5, 0, 7081] = true by decide +kernel) (isX12_L ho0) (by decide) (isX12_r45 ho0) ?_
    refine jEv.blk [(.bipush 11, 2, []), (.iconst 0, 1, [])] (by decide +kernel) (pc' := 90) (ls' := [(2, Int.ofNat o0), (0, v1), (3, 0)]) (st' := [(0, 0), (0, 11), (2, Int.ofNat (o0 + 33))]) rfl ?_
    refine jEv.ast (Or.inl ⟨rfl, rfl, rfl⟩) (show jfI 316 90 (.iastore) 1 [] = true by decide +kernel) (isX12_a45 ho0) rfl H (fun c8 H => ?_)
    refine jEv.blk [(.aload_n 0, 1, [])] (by decide +kernel) (pc' := 92) (ls' := [(2, Int.ofNat o0), (0, v1), (3, 0)]) (st' := [(2, Int.ofNat o0)]) rfl ?_
    refine jEv.gfR (o' := (o0 + 33)) (show jfI 316 92 (.getfield 111) 3 [12, 45, 5, 0, 7081] = true by decide +kernel) (isX12_L ho0) (by decide) (isX12_r45 ho0) ?_
    refine jEv.blk [(.bipush 12, 2, []), (.iconst 0, 1, [])] (by decide +kernel) (pc' := 98) (ls' := [(2, Int.ofNat o0), (0, v1), (3, 0)]) (st' := [(0, 0), (0, 12), (2, Int.ofNat (o0 + 33))]) rfl ?_
    refine jEv.ast (Or.inl ⟨rfl, rfl, rfl⟩) (show jfI 316 98 (.iastore) 1 [] = true by decide +kernel) (isX12_a45 ho0) rfl H (fun c9 H => ?_)
    refine jEv.blk [(.aload_n 0, 1, [])] (by decide +kernel) (pc' := 100) (ls' := [(2, Int.ofNat o0), (0, v1), (3, 0)]) (st' := [(2, Int.ofNat o0)]) rfl ?_
    refine jbind H (fun b10 Hb10 H => ?_)
    refine jEv.calV (st' := [(0, b10)]) (show jfI 316 100 (.invokevirtual 549) 3 [1, 317, 0, 10119] = true by decide +kernel) rfl (Or.inl rfl) rfl (Nat.le_of_ble_eq_true rfl) (by decide +kernel) (by decide) (isX12_L ho0) ((t_M_beginner (T := T) (xs := xs) ho0 Hb10).mono (jKle 4 hd)) rfl ?_
    refine jEv.blk [(.istore_n 1, 1, []), (.aload_n 0, 1, [])] (by decide +kernel) (pc' := 105) (ls' := [(2, Int.ofNat o0), (0, b10), (3, 0)]) (st' := [(2, Int.ofNat o0)]) rfl ?_
    refine jEv.gfR (o' := (o0 + 33)) (show jfI 316 105 (.getfield 111) 3 [12, 45, 5, 0, 7081] = true by decide +kernel) (isX12_L ho0) (by decide) (isX12_r45 ho0) ?_
    refine jEv.blk [(.bipush 10, 2, []), (.iconst 0, 1, [])] (by decide +kernel) (pc' := 111) (ls' := [(2, Int.ofNat o0), (0, b10), (3, 0)]) (st' := [(0, 0), (0, 10), (2, Int.ofNat (o0 + 33))]) rfl ?_
    refine jEv.ast (Or.inl ⟨rfl, rfl, rfl⟩) (show jfI 316 111 (.iastore) 1 [] = true by decide +kernel) (isX12_a45 ho0) rfl H (fun c11 H => ?_)
    refine jEv.blk [(.aload_n 0, 1, []), (.iload_n 1, 1, []), (.iconst (-1), 1, [])] (by decide +kernel) (pc' := 115) (ls' := [(2, Int.ofNat o0), (0, b10), (3, 0)]) (st' := [(0, (-1)), (0, b10), (2, Int.ofNat o0)]) rfl ?_
    refine jEv.ic_ne (t := 122) (show jfI 316 115 (.if_icmp .ne 7) 3 [] = true by decide +kernel) rfl H (fun c12 H => ?_) (fun c12 H => ?_)
    · refine jEv.blk [(.iconst (-1), 1, [])] (by decide +kernel) (pc' := 119) (ls' := [(2, Int.ofNat o0), (0, b10), (3, 0)]) (st' := [(0, (-1)), (2, Int.ofNat o0)]) rfl ?_
      refine jEv.goto (t := 127) (show jfI 316 119 (.goto 8) 3 [] = true by decide +kernel) rfl ?_
      exact t_M_recovering_p127 (T := T) (xs := xs) (y := y) hd ho0 ho0 H HY
    · refine jEv.blk [(.aload_n 0, 1, []), (.iload_n 1, 1, [])] (by decide +kernel) (pc' := 124) (ls' := [(2, Int.ofNat o0), (0, b10), (3, 0)]) (st' := [(0, b10), (2, Int.ofNat o0), (2, Int.ofNat o0)]) rfl ?_
      refine jbind H (fun b13 Hb13 H => ?_)
      refine jEv.calV (st' := [(0, b13), (2, Int.ofNat o0)]) (show jfI 316 124 (.invokevirtual 541) 3 [1, 261, 1, 9124] = true by decide +kernel) rfl (Or.inl rfl) rfl (Nat.le_of_ble_eq_true rfl) (by decide +kernel) (by decide) (isX12_L ho0) ((t_M_firstOf (T := T) (xs := xs) ho0 Hb13).mono (jKle 2 hd)) rfl ?_
      exact t_M_recovering_p127 (T := T) (xs := xs) (y := y) hd ho0 ho0 H HY
theorem t_M_recovering_L60 {T : jT} {xs : List Int} {d : Nat} {y : jV × jS} (hd : 5 ≤ d) {h : jH}  {o0 : Nat} {v1 : Int} {out : jH} (ho0 : isX12 T o0) (H : M_recovering_L60 h o0 v1 = some out) (HY : ykV T y out) : jEv xs d (316, 60, [(2, Int.ofNat o0), (0, v1), (3, 0)], []) (T, h) y :=
  jloop_sound (G := fun s : (Int × jH) => jEv xs d (316, 60, [(2, Int.ofNat o0), (0, s.1), (3, 0)], []) (T, s.2) y) (K := yk_M_recovering_L60 T xs d y o0) (fun s out H HY => t_M_recovering_B60 hd ho0 H HY) (fun s' hg => hg) (s := (v1, h)) H HY
set_option maxRecDepth 20000 in
noncomputable def M_recovering_B36  (h : jH) (o0 : Nat) (v1 : Int) : Option ((Int × jH) ⊕ jH) := (if v1 < 4 then (if (0 : Int) ≤ (wr (192 + v1)) ∧ ((wr (192 + v1)) : Int).toNat < 2365 then some (.inl ((wr (v1 + 1)), (jup h (o0 + 33) ((wr (192 + v1)) : Int).toNat (-1)))) else none) else Option.map Sum.inr (M_recovering_L60 h o0 0))
noncomputable def M_recovering_L36  (h : jH) (o0 : Nat) (v1 : Int) : Option jH := jloop (fun s : (Int × jH) => M_recovering_B36 s.2 o0 s.1) (v1, h)
set_option maxRecDepth 20000 in
theorem t_M_recovering_B36 {T : jT} {xs : List Int} {d : Nat} {y : jV × jS} (hd : 5 ≤ d) {h : jH}  {o0 : Nat} {v1 : Int} {out : ((Int × jH) ⊕ jH)} (ho0 : isX12 T o0) (H : M_recovering_B36 h o0 v1 = some out) (HY : yk_M_recovering_L36 T xs d y o0 out) : jEv xs d (316, 36, [(2, Int.ofNat o0), (0, v1), (3, 0)], []) (T, h) y := by
  unfold M_recovering_B36 at H
  refine jEv.blk [(.iload_n 1, 1, []), (.iconst 4, 1, [])] (by decide +kernel) (pc' := 38) (ls' := [(2, Int.ofNat o0), (0, v1), (3, 0)]) (st' := [(0, 4), (0, v1)]) rfl ?_
  refine jEv.ic_ge (t := 58) (show jfI 316 38 (.if_icmp .ge 20) 3 [] = true by decide +kernel) rfl H (fun c4 H => ?_) (fun c4 H => ?_)
  · refine jEv.blk [(.aload_n 0, 1, [])] (by decide +kernel) (pc' := 42) (ls' := [(2, Int.ofNat o0), (0, v1), (3, 0)]) (st' := [(2, Int.ofNat o0)]) rfl ?_
    refine jEv.gfR (o' := (o0 + 33)) (show jfI 316 42 (.getfield 111) 3 [12, 45, 5, 0, 7081] = true by decide +kernel) (isX12_L ho0) (by decide) (isX12_r45 ho0) ?_
    refine jEv.blk [(.sipush 192, 3, []), (.iload_n 1, 1, []), (.iadd, 1, []), (.iconst (-1), 1, [])] (by decide +kernel) (pc' := 51) (ls' := [(2, Int.ofNat o0), (0, v1), (3, 0)]) (st' := [(0, (-1)), (0, (wr (192 + v1))), (2, Int.ofNat (o0 + 33))]) rfl ?_
    refine jEv.ast (Or.inl ⟨rfl, rfl, rfl⟩) (show jfI 316 51 (.iastore) 1 [] = true by decide +kernel) (isX12_a45 ho0) rfl H (fun c5 H => ?_)
    refine jEv.blk [(.iinc 1 1, 3, [])] (by decide +kernel) (pc' := 55) (ls' := [(2, Int.ofNat o0), (0, (wr (v1 + 1))), (3, 0)]) (st' := []) rfl ?_
    refine jEv.goto (t := 36) (show jfI 316 55 (.goto (-19)) 3 [] = true by decide +kernel) rfl ?_
    exact (by cases H; exact HY)
  · refine jmapr H HY (fun out H (HY : ykV T y out) => ?_)
    refine jEv.blk [(.iconst 0, 1, []), (.istore_n 1, 1, [])] (by decide +kernel) (pc' := 60) (ls' := [(2, Int.ofNat o0), (0, 0), (3, 0)]) (st' := []) rfl ?_
    exact t_M_recovering_L60 (T := T) (xs := xs) (y := y) hd ho0 H HY
theorem t_M_recovering_L36 {T : jT} {xs : List Int} {d : Nat} {y : jV × jS} (hd : 5 ≤ d) {h : jH}  {o0 : Nat} {v1 : Int} {out : jH} (ho0 : isX12 T o0) (H : M_recovering_L36 h o0 v1 = some out) (HY : ykV T y out) : jEv xs d (316, 36, [(2, Int.ofNat o0), (0, v1), (3, 0)], []) (T, h) y :=
  jloop_sound (G := fun s : (Int × jH) => jEv xs d (316, 36, [(2, Int.ofNat o0), (0, s.1), (3, 0)], []) (T, s.2) y) (K := yk_M_recovering_L36 T xs d y o0) (fun s out H HY => t_M_recovering_B36 hd ho0 H HY) (fun s' hg => hg) (s := (v1, h)) H HY
set_option maxRecDepth 20000 in
noncomputable def M_recovering_B2  (h : jH) (o0 : Nat) (v1 : Int) : Option ((Int × jH) ⊕ jH) := (if v1 < 16 then (if (0 : Int) ≤ (wr (160 + v1)) ∧ ((wr (160 + v1)) : Int).toNat < 2365 then (if (0 : Int) ≤ (wr (144 + v1)) ∧ ((wr (144 + v1)) : Int).toNat < 2365 then some (.inl ((wr (v1 + 1)), (jup h (o0 + 33) ((wr (144 + v1)) : Int).toNat (h (o0 + 33) ((wr (160 + v1)) : Int).toNat)))) else none) else none) else Option.map Sum.inr (M_recovering_L36 h o0 0))
noncomputable def M_recovering_L2  (h : jH) (o0 : Nat) (v1 : Int) : Option jH := jloop (fun s : (Int × jH) => M_recovering_B2 s.2 o0 s.1) (v1, h)
set_option maxRecDepth 20000 in
theorem t_M_recovering_B2 {T : jT} {xs : List Int} {d : Nat} {y : jV × jS} (hd : 5 ≤ d) {h : jH}  {o0 : Nat} {v1 : Int} {out : ((Int × jH) ⊕ jH)} (ho0 : isX12 T o0) (H : M_recovering_B2 h o0 v1 = some out) (HY : yk_M_recovering_L2 T xs d y o0 out) : jEv xs d (316, 2, [(2, Int.ofNat o0), (0, v1), (3, 0)], []) (T, h) y := by
  unfold M_recovering_B2 at H
  refine jEv.blk [(.iload_n 1, 1, []), (.bipush 16, 2, [])] (by decide +kernel) (pc' := 5) (ls' := [(2, Int.ofNat o0), (0, v1), (3, 0)]) (st' := [(0, 16), (0, v1)]) rfl ?_
  refine jEv.ic_ge (t := 34) (show jfI 316 5 (.if_icmp .ge 29) 3 [] = true by decide +kernel) rfl H (fun c1 H => ?_) (fun c1 H => ?_)
  · refine jEv.blk [(.aload_n 0, 1, [])] (by decide +kernel) (pc' := 9) (ls' := [(2, Int.ofNat o0), (0, v1), (3, 0)]) (st' := [(2, Int.ofNat o0)]) rfl ?_
    refine jEv.gfR (o' := (o0 + 33)) (show jfI 316 9 (.getfield 111) 3 [12, 45, 5, 0, 7081] = true by decide +kernel) (isX12_L ho0) (by decide) (isX12_r45 ho0) ?_
    refine jEv.blk [(.sipush 144, 3, []), (.iload_n 1, 1, []), (.iadd, 1, []), (.aload_n 0, 1, [])] (by decide +kernel) (pc' := 18) (ls' := [(2, Int.ofNat o0), (0, v1), (3, 0)]) (st' := [(2, Int.ofNat o0), (0, (wr (144 + v1))), (2, Int.ofNat (o0 + 33))]) rfl ?_
    refine jEv.gfR (o' := (o0 + 33)) (show jfI 316 18 (.getfield 111) 3 [12, 45, 5, 0, 7081] = true by decide +kernel) (isX12_L ho0) (by decide) (isX12_r45 ho0) ?_
    refine jEv.blk [(.sipush 160, 3, []), (.iload_n 1, 1, []), (.iadd, 1, [])] (by decide +kernel) (pc' := 26) (ls' := [(2, Int.ofNat o0), (0, v1), (3, 0)]) (st' := [(0, (wr (160 + v1))), (2, Int.ofNat (o0 + 33)), (0, (wr (144 + v1))), (2, Int.ofNat (o0 + 33))]) rfl ?_
    refine jEv.ald (Or.inl ⟨rfl, rfl, rfl⟩) (show jfI 316 26 (.iaload) 1 [] = true by decide +kernel) (isX12_a45 ho0) H (fun c2 H => ?_)
    refine jEv.ast (Or.inl ⟨rfl, rfl, rfl⟩) (show jfI 316 27 (.iastore) 1 [] = true by decide +kernel) (isX12_a45 ho0) rfl H (fun c3 H => ?_)
    refine jEv.blk [(.iinc 1 1, 3, [])] (by decide +kernel) (pc' := 31) (ls' := [(2, Int.ofNat o0), (0, (wr (v1 + 1))), (3, 0)]) (st' := []) rfl ?_
    refine jEv.goto (t := 2) (show jfI 316 31 (.goto (-29)) 3 [] = true by decide +kernel) rfl ?_
    exact (by cases H; exact HY)
  · refine jmapr H HY (fun out H (HY : ykV T y out) => ?_)
    refine jEv.blk [(.iconst 0, 1, []), (.istore_n 1, 1, [])] (by decide +kernel) (pc' := 36) (ls' := [(2, Int.ofNat o0), (0, 0), (3, 0)]) (st' := []) rfl ?_
    exact t_M_recovering_L36 (T := T) (xs := xs) (y := y) hd ho0 H HY
theorem t_M_recovering_L2 {T : jT} {xs : List Int} {d : Nat} {y : jV × jS} (hd : 5 ≤ d) {h : jH}  {o0 : Nat} {v1 : Int} {out : jH} (ho0 : isX12 T o0) (H : M_recovering_L2 h o0 v1 = some out) (HY : ykV T y out) : jEv xs d (316, 2, [(2, Int.ofNat o0), (0, v1), (3, 0)], []) (T, h) y :=
  jloop_sound (G := fun s : (Int × jH) => jEv xs d (316, 2, [(2, Int.ofNat o0), (0, s.1), (3, 0)], []) (T, s.2) y) (K := yk_M_recovering_L2 T xs d y o0) (fun s out H HY => t_M_recovering_B2 hd ho0 H HY) (fun s' hg => hg) (s := (v1, h)) H HY
set_option maxRecDepth 20000 in
noncomputable def M_recovering  (h : jH) (o0 : Nat) : Option jH := M_recovering_L2 h o0 0
set_option maxRecDepth 20000 in
theorem t_M_recovering {T : jT} {xs : List Int} {h : jH}  {o0 : Nat} {out : jH} (ho0 : isX12 T o0) (H : M_recovering h o0 = some out) : jEm xs 6 316 [(2, Int.ofNat o0)] (T, h) ((3, 0), (T, out)) := by
  have hd : 5 ≤ 5 := Nat.le_refl _
  obtain ⟨y, ey⟩ : ∃ y : jV × jS, y = ((3, 0), (T, out)) := ⟨_, rfl⟩
  rw [← ey]
  have HY : ykV T y out := ey
  refine jEm.ent (n := 3) (by decide +kernel) (Nat.le_of_ble_eq_true rfl) ?_
  show jEv xs 5 (316, 0, [(2, Int.ofNat o0), (3, 0), (3, 0)], []) (T, h) y
  unfold M_recovering at H
  refine jEv.blk [(.iconst 0, 1, []), (.istore_n 1, 1, [])] (by decide +kernel) (pc' := 2) (ls' := [(2, Int.ofNat o0), (0, 0), (3, 0)]) (st' := []) rfl ?_
  exact t_M_recovering_L2 (T := T) (xs := xs) (y := y) hd ho0 H HY
set_option maxRecDepth 20000 in
noncomputable def M_crashes  (h : jH) (o0 : Nat) (v1 : Int) : Option jH := Option.bind (M_arrives h o0 v1) (fun b1 => Option.bind (M_recovering b1 o0) (fun b2 => some b2))
set_option maxRecDepth 20000 in
theorem t_M_crashes {T : jT} {xs : List Int} {h : jH}  {o0 : Nat} {v1 : Int} {out : jH} (ho0 : isX12 T o0) (H : M_crashes h o0 v1 = some out) : jEm xs 7 315 [(2, Int.ofNat o0), (0, v1)] (T, h) ((3, 0), (T, out)) := by
  have hd : 6 ≤ 6 := Nat.le_refl _
  obtain ⟨y, ey⟩ : ∃ y : jV × jS, y = ((3, 0), (T, out)) := ⟨_, rfl⟩
  rw [← ey]
  have HY : ykV T y out := ey
  refine jEm.ent (n := 2) (by decide +kernel) (Nat.le_of_ble_eq_true rfl) ?_
  show jEv xs 6 (315, 0, [(2, Int.ofNat o0), (0, v1)], []) (T, h) y
  unfold M_crashes at H
  refine jEv.blk [(.aload_n 0, 1, []), (.iload_n 1, 1, [])] (by decide +kernel) (pc' := 2) (ls' := [(2, Int.ofNat o0), (0, v1)]) (st' := [(0, v1), (2, Int.ofNat o0)]) rfl ?_
  refine jbind H (fun b1 Hb1 H => ?_)
  refine jEv.calV (st' := []) (show jfI 315 2 (.invokevirtual 476) 3 [1, 284, 1, 9222] = true by decide +kernel) rfl (Or.inl rfl) rfl (Nat.le_of_ble_eq_true rfl) (by decide +kernel) (by decide) (isX12_L ho0) ((t_M_arrives (T := T) (xs := xs) ho0 Hb1).mono (jKle 2 hd)) rfl ?_
  refine jEv.blk [(.aload_n 0, 1, [])] (by decide +kernel) (pc' := 6) (ls' := [(2, Int.ofNat o0), (0, v1)]) (st' := [(2, Int.ofNat o0)]) rfl ?_
  refine jbind H (fun b2 Hb2 H => ?_)
  refine jEv.calV (st' := []) (show jfI 315 6 (.invokevirtual 564) 3 [1, 316, 0, 10115] = true by decide +kernel) rfl (Or.inl rfl) rfl (Nat.le_of_ble_eq_true rfl) (by decide +kernel) (by decide) (isX12_L ho0) ((t_M_recovering (T := T) (xs := xs) ho0 Hb2).mono (jKle 6 hd)) rfl ?_
  exact jEv.retV (show jfI 315 9 (.return_) 1 [] = true by decide +kernel) (by decide +kernel) (by cases H; exact HY)
def yk_M_keyMany_L4 (T : jT) (xs : List Int) (d : Nat) (y : jV × jS) (h : jH)  (o0 : Nat) : ((Int × Int) ⊕ Int) → Prop
  | .inl (v1, v2) => jEv xs d (323, 4, [(2, Int.ofNat o0), (0, v1), (0, v2)], []) (T, h) y
  | .inr o => ykIp T h y o
set_option maxRecDepth 20000 in
noncomputable def M_keyMany_B4  (h : jH) (o0 : Nat) (v1 : Int) (v2 : Int) : Option ((Int × Int) ⊕ Int) := (if v2 < 16 then (if (0 : Int) ≤ (wr (144 + v2)) ∧ ((wr (144 + v2)) : Int).toNat < 2365 then (if (h (o0 + 33) ((wr (144 + v2)) : Int).toNat) = (-1) then some (.inl (v1, (wr (v2 + 1)))) else some (.inl ((wr (v1 + 1)), (wr (v2 + 1))))) else none) else Option.map Sum.inr (some v1))
noncomputable def M_keyMany_L4  (h : jH) (o0 : Nat) (v1 : Int) (v2 : Int) : Option Int := jloop (fun s : (Int × Int) => M_keyMany_B4 h o0 s.1 s.2) (v1, v2)
set_option maxRecDepth 20000 in
theorem t_M_keyMany_B4 {T : jT} {xs : List Int} {d : Nat} {y : jV × jS} (hd : 0 ≤ d) {h : jH}  {o0 : Nat} {v1 : Int} {v2 : Int} {out : ((Int × Int) ⊕ Int)} (ho0 : isX12 T o0) (H : M_keyMany_B4 h o0 v1 v2 = some out) (HY : yk_M_keyMany_L4 T xs d y h o0 out) : jEv xs d (323, 4, [(2, Int.ofNat o0), (0, v1), (0, v2)], []) (T, h) y := by
  unfold M_keyMany_B4 at H
  refine jEv.blk [(.iload_n 2, 1, []), (.bipush 16, 2, [])] (by decide +kernel) (pc' := 7) (ls' := [(2, Int.ofNat o0), (0, v1), (0, v2)]) (st' := [(0, 16), (0, v2)]) rfl ?_
  refine jEv.ic_ge (t := 33) (show jfI 323 7 (.if_icmp .ge 26) 3 [] = true by decide +kernel) rfl H (fun c1 H => ?_) (fun c1 H => ?_)
  · refine jEv.blk [(.aload_n 0, 1, [])] (by decide +kernel) (pc' := 11) (ls' := [(2, Int.ofNat o0), (0, v1), (0, v2)]) (st' := [(2, Int.ofNat o0)]) rfl ?_
    refine jEv.gfR (o' := (o0 + 33)) (show jfI 323 11 (.getfield 111) 3 [12, 45, 5, 0, 7081] = true by decide +kernel) (isX12_L ho0) (by decide) (isX12_r45 ho0) ?_
    refine jEv.blk [(.sipush 144, 3, []), (.iload_n 2, 1, []), (.iadd, 1, [])] (by decide +kernel) (pc' := 19) (ls' := [(2, Int.ofNat o0), (0, v1), (0, v2)]) (st' := [(0, (wr (144 + v2))), (2, Int.ofNat (o0 + 33))]) rfl ?_
    refine jEv.ald (Or.inl ⟨rfl, rfl, rfl⟩) (show jfI 323 19 (.iaload) 1 [] = true by decide +kernel) (isX12_a45 ho0) H (fun c2 H => ?_)
    refine jEv.blk [(.iconst (-1), 1, [])] (by decide +kernel) (pc' := 21) (ls' := [(2, Int.ofNat o0), (0, v1), (0, v2)]) (st' := [(0, (-1)), (0, (h (o0 + 33) ((wr (144 + v2)) : Int).toNat))]) rfl ?_
    refine jEv.ic_eq (t := 27) (show jfI 323 21 (.if_icmp .eq 6) 3 [] = true by decide +kernel) rfl H (fun c3 H => ?_) (fun c3 H => ?_)
    · refine jEv.blk [(.iinc 2 1, 3, [])] (by decide +kernel) (pc' := 30) (ls' := [(2, Int.ofNat o0), (0, v1), (0, (wr (v2 + 1)))]) (st' := []) rfl ?_
      refine jEv.goto (t := 4) (show jfI 323 30 (.goto (-26)) 3 [] = true by decide +kernel) rfl ?_
      exact (by cases H; exact HY)
    · refine jEv.blk [(.iinc 1 1, 3, [])] (by decide +kernel) (pc' := 27) (ls' := [(2, Int.ofNat o0), (0, (wr (v1 + 1))), (0, v2)]) (st' := []) rfl ?_
      refine jEv.blk [(.iinc 2 1, 3, [])] (by decide +kernel) (pc' := 30) (ls' := [(2, Int.ofNat o0), (0, (wr (v1 + 1))), (0, (wr (v2 + 1)))]) (st' := []) rfl ?_
      refine jEv.goto (t := 4) (show jfI 323 30 (.goto (-26)) 3 [] = true by decide +kernel) rfl ?_
      exact (by cases H; exact HY)
  · refine jmapr H HY (fun out H (HY : ykIp T h y out) => ?_)
    refine jEv.blk [(.iload_n 1, 1, [])] (by decide +kernel) (pc' := 34) (ls' := [(2, Int.ofNat o0), (0, v1), (0, v2)]) (st' := [(0, v1)]) rfl ?_
    exact jEv.retI (show jfI 323 34 (.ireturn) 1 [] = true by decide +kernel) (by decide +kernel) (by cases H; exact HY)
theorem t_M_keyMany_L4 {T : jT} {xs : List Int} {d : Nat} {y : jV × jS} (hd : 0 ≤ d) {h : jH}  {o0 : Nat} {v1 : Int} {v2 : Int} {out : Int} (ho0 : isX12 T o0) (H : M_keyMany_L4 h o0 v1 v2 = some out) (HY : ykIp T h y out) : jEv xs d (323, 4, [(2, Int.ofNat o0), (0, v1), (0, v2)], []) (T, h) y :=
  jloop_sound (G := fun s : (Int × Int) => jEv xs d (323, 4, [(2, Int.ofNat o0), (0, s.1), (0, s.2)], []) (T, h) y) (K := yk_M_keyMany_L4 T xs d y h o0) (fun s out H HY => t_M_keyMany_B4 hd ho0 H HY) (fun s' hg => hg) (s := (v1, v2)) H HY
set_option maxRecDepth 20000 in
noncomputable def M_keyMany  (h : jH) (o0 : Nat) : Option Int := M_keyMany_L4 h o0 0 0
set_option maxRecDepth 20000 in
theorem t_M_keyMany {T : jT} {xs : List Int} {h : jH}  {o0 : Nat} {out : Int} (ho0 : isX12 T o0) (H : M_keyMany h o0 = some out) : jEm xs 1 323 [(2, Int.ofNat o0)] (T, h) ((0, out), (T, h)) := by
  have hd : 0 ≤ 0 := Nat.le_refl _
  obtain ⟨y, ey⟩ : ∃ y : jV × jS, y = ((0, out), (T, h)) := ⟨_, rfl⟩
  rw [← ey]
  have HY : ykIp T h y out := ey
  refine jEm.ent (n := 3) (by decide +kernel) (Nat.le_of_ble_eq_true rfl) ?_
  show jEv xs 0 (323, 0, [(2, Int.ofNat o0), (3, 0), (3, 0)], []) (T, h) y
  unfold M_keyMany at H
  refine jEv.blk [(.iconst 0, 1, []), (.istore_n 1, 1, []), (.iconst 0, 1, []), (.istore_n 2, 1, [])] (by decide +kernel) (pc' := 4) (ls' := [(2, Int.ofNat o0), (0, 0), (0, 0)]) (st' := []) rfl ?_
  exact t_M_keyMany_L4 (T := T) (xs := xs) (y := y) hd ho0 H HY
set_option maxRecDepth 20000 in
noncomputable def M_recovers_p96  (h : jH) (o0 : Nat) (vs0 : Int) : Option (Int × jH) := Option.bind (M_takesBack h o0) (fun b16 => some (vs0, b16))
set_option maxRecDepth 20000 in
theorem t_M_recovers_p96 {T : jT} {xs : List Int} {d : Nat} {y : jV × jS} (hd : 7 ≤ d) {h : jH}  {o0 : Nat} {vs0 : Int} {out : (Int × jH)} (ho0 : isX12 T o0) (H : M_recovers_p96 h o0 vs0 = some out) (HY : ykI T y out) : jEv xs d (314, 96, [(2, Int.ofNat o0), (3, 0), (3, 0), (3, 0)], [(0, vs0)]) (T, h) y := by
  unfold M_recovers_p96 at H
  refine jEv.blk [(.istore_n 3, 1, []), (.aload_n 0, 1, [])] (by decide +kernel) (pc' := 98) (ls' := [(2, Int.ofNat o0), (3, 0), (3, 0), (0, vs0)]) (st' := [(2, Int.ofNat o0)]) rfl ?_
  refine jbind H (fun b16 Hb16 H => ?_)
  refine jEv.calV (st' := []) (show jfI 314 98 (.invokevirtual 597) 3 [1, 306, 0, 10071] = true by decide +kernel) rfl (Or.inl rfl) rfl (Nat.le_of_ble_eq_true rfl) (by decide +kernel) (by decide) (isX12_L ho0) ((t_M_takesBack (T := T) (xs := xs) ho0 Hb16).mono (jKle 2 hd)) rfl ?_
  refine jEv.blk [(.iload_n 3, 1, [])] (by decide +kernel) (pc' := 102) (ls' := [(2, Int.ofNat o0), (3, 0), (3, 0), (0, vs0)]) (st' := [(0, vs0)]) rfl ?_
  exact jEv.retI (show jfI 314 102 (.ireturn) 1 [] = true by decide +kernel) (by decide +kernel) (by cases H; exact HY)
set_option maxRecDepth 20000 in
noncomputable def M_recovers  (h : jH) (o0 : Nat) (v1 : Int) (v2 : Int) : Option (Int × jH) := (if (h o0 43) = 0 then some ((-1), h) else (if (0 : Int) ≤ 4 ∧ (4 : Int).toNat < 2365 then Option.bind (M_isIn v1 0 (h (o0 + 33) (4 : Int).toNat)) (fun b3 => (if b3 = 0 then some ((-1), h) else Option.bind (M_isIn v2 0 4) (fun b5 => (if b5 = 0 then some ((-1), h) else Option.bind (M_putsAside h o0) (fun b7 => Option.bind (M_crashes b7 o0 v1) (fun b8 => (if v2 = 0 then (if (0 : Int) ≤ 1 ∧ (1 : Int).toNat < 2365 then M_recovers_p96 b8 o0 (b8 (o0 + 33) (1 : Int).toNat) else none) else (if v2 = 1 then (if (0 : Int) ≤ 10 ∧ (10 : Int).toNat < 2365 then M_recovers_p96 b8 o0 (b8 (o0 + 33) (10 : Int).toNat) else none) else (if v2 < 4 then (if (0 : Int) ≤ (wr ((wr (5 + v2)) - 2)) ∧ ((wr ((wr (5 + v2)) - 2)) : Int).toNat < 2365 then M_recovers_p96 b8 o0 (b8 (o0 + 33) ((wr ((wr (5 + v2)) - 2)) : Int).toNat) else none) else Option.bind (M_keyMany b8 o0) (fun b15 => M_recovers_p96 b8 o0 b15)))))))))) else none))
set_option maxRecDepth 20000 in
theorem t_M_recovers {T : jT} {xs : List Int} {h : jH}  {o0 : Nat} {v1 : Int} {v2 : Int} {out : (Int × jH)} (ho0 : isX12 T o0) (H : M_recovers h o0 v1 v2 = some out) : jEm xs 8 314 [(2, Int.ofNat o0), (0, v1), (0, v2)] (T, h) ((0, out.1), (T, out.2)) := by
  have hd : 7 ≤ 7 := Nat.le_refl _
  obtain ⟨y, ey⟩ : ∃ y : jV × jS, y = ((0, out.1), (T, out.2)) := ⟨_, rfl⟩
  rw [← ey]
  have HY : ykI T y out := ey
  refine jEm.ent (n := 4) (by decide +kernel) (Nat.le_of_ble_eq_true rfl) ?_
  show jEv xs 7 (314, 0, [(2, Int.ofNat o0), (0, v1), (0, v2), (3, 0)], []) (T, h) y
  unfold M_recovers at H
  refine jEv.blk [(.aload_n 0, 1, [])] (by decide +kernel) (pc' := 1) (ls' := [(2, Int.ofNat o0), (0, v1), (0, v2), (3, 0)]) (st' := [(2, Int.ofNat o0)]) rfl ?_
  refine jEv.gfI (show jfI 314 1 (.getfield 340) 3 [12, 43, 0, 1, 7079] = true by decide +kernel) (isX12_L ho0) (by decide) ?_
  refine jEv.if_eq (t := 35) (show jfI 314 4 (.ifCond .eq 31) 3 [] = true by decide +kernel) rfl H (fun c1 H => ?_) (fun c1 H => ?_)
  · refine jEv.blk [(.iconst (-1), 1, [])] (by decide +kernel) (pc' := 36) (ls' := [(2, Int.ofNat o0), (0, v1), (0, v2), (3, 0)]) (st' := [(0, (-1))]) rfl ?_
    exact jEv.retI (show jfI 314 36 (.ireturn) 1 [] = true by decide +kernel) (by decide +kernel) (by cases H; exact HY)
  · refine jEv.blk [(.iload_n 1, 1, []), (.i2l, 1, []), (.lconst 0, 1, []), (.aload_n 0, 1, [])] (by decide +kernel) (pc' := 11) (ls' := [(2, Int.ofNat o0), (0, v1), (0, v2), (3, 0)]) (st' := [(2, Int.ofNat o0), (1, 0), (1, v1)]) rfl ?_
    refine jEv.gfR (o' := (o0 + 33)) (show jfI 314 11 (.getfield 111) 3 [12, 45, 5, 0, 7081] = true by decide +kernel) (isX12_L ho0) (by decide) (isX12_r45 ho0) ?_
    refine jEv.blk [(.iconst 4, 1, [])] (by decide +kernel) (pc' := 15) (ls' := [(2, Int.ofNat o0), (0, v1), (0, v2), (3, 0)]) (st' := [(0, 4), (2, Int.ofNat (o0 + 33)), (1, 0), (1, v1)]) rfl ?_
    refine jEv.ald (Or.inl ⟨rfl, rfl, rfl⟩) (show jfI 314 15 (.iaload) 1 [] = true by decide +kernel) (isX12_a45 ho0) H (fun c2 H => ?_)
    refine jEv.blk [(.i2l, 1, [])] (by decide +kernel) (pc' := 17) (ls' := [(2, Int.ofNat o0), (0, v1), (0, v2), (3, 0)]) (st' := [(1, (h (o0 + 33) (4 : Int).toNat)), (1, 0), (1, v1)]) rfl ?_
    refine jbind H (fun b3 Hb3 H => ?_)
    refine jEv.calS (st' := [(0, b3)]) (show jfI 314 17 (.invokestatic 275) 3 [3, 213, 3, 8176] = true by decide +kernel) rfl (Or.inl rfl) rfl (Nat.le_of_ble_eq_true rfl) ((t_M_isIn (T := T) (xs := xs)  Hb3).mono (jKle 1 hd)) rfl ?_
    refine jEv.if_eq (t := 35) (show jfI 314 20 (.ifCond .eq 15) 3 [] = true by decide +kernel) rfl H (fun c4 H => ?_) (fun c4 H => ?_)
    · refine jEv.blk [(.iconst (-1), 1, [])] (by decide +kernel) (pc' := 36) (ls' := [(2, Int.ofNat o0), (0, v1), (0, v2), (3, 0)]) (st' := [(0, (-1))]) rfl ?_
      exact jEv.retI (show jfI 314 36 (.ireturn) 1 [] = true by decide +kernel) (by decide +kernel) (by cases H; exact HY)
    · refine jEv.blk [(.iload_n 2, 1, []), (.i2l, 1, []), (.lconst 0, 1, []), (.ldc2_w 547, 3, [1, 0, 4, 10110])] (by decide +kernel) (pc' := 29) (ls' := [(2, Int.ofNat o0), (0, v1), (0, v2), (3, 0)]) (st' := [(1, 4), (1, 0), (1, v2)]) rfl ?_
      refine jbind H (fun b5 Hb5 H => ?_)
      refine jEv.calS (st' := [(0, b5)]) (show jfI 314 29 (.invokestatic 275) 3 [3, 213, 3, 8176] = true by decide +kernel) rfl (Or.inl rfl) rfl (Nat.le_of_ble_eq_true rfl) ((t_M_isIn (T := T) (xs := xs)  Hb5).mono (jKle 1 hd)) rfl ?_
      refine jEv.if_ne (t := 37) (show jfI 314 32 (.ifCond .ne 5) 3 [] = true by decide +kernel) rfl H (fun c6 H => ?_) (fun c6 H => ?_)
      · refine jEv.blk [(.iconst (-1), 1, [])] (by decide +kernel) (pc' := 36) (ls' := [(2, Int.ofNat o0), (0, v1), (0, v2), (3, 0)]) (st' := [(0, (-1))]) rfl ?_
        exact jEv.retI (show jfI 314 36 (.ireturn) 1 [] = true by decide +kernel) (by decide +kernel) (by cases H; exact HY)
      · refine jEv.blk [(.aload_n 0, 1, [])] (by decide +kernel) (pc' := 38) (ls' := [(2, Int.ofNat o0), (0, v1), (0, v2), (3, 0)]) (st' := [(2, Int.ofNat o0)]) rfl ?_
        refine jbind H (fun b7 Hb7 H => ?_)
        refine jEv.calV (st' := []) (show jfI 314 38 (.invokevirtual 591) 3 [1, 281, 0, 9210] = true by decide +kernel) rfl (Or.inl rfl) rfl (Nat.le_of_ble_eq_true rfl) (by decide +kernel) (by decide) (isX12_L ho0) ((t_M_putsAside (T := T) (xs := xs) ho0 Hb7).mono (jKle 1 hd)) rfl ?_
        refine jEv.blk [(.aload_n 0, 1, []), (.iload_n 1, 1, [])] (by decide +kernel) (pc' := 43) (ls' := [(2, Int.ofNat o0), (0, v1), (0, v2), (3, 0)]) (st' := [(0, v1), (2, Int.ofNat o0)]) rfl ?_
        refine jbind H (fun b8 Hb8 H => ?_)
        refine jEv.calV (st' := []) (show jfI 314 43 (.invokevirtual 613) 3 [1, 315, 1, 10111] = true by decide +kernel) rfl (Or.inl rfl) rfl (Nat.le_of_ble_eq_true rfl) (by decide +kernel) (by decide) (isX12_L ho0) ((t_M_crashes (T := T) (xs := xs) ho0 Hb8).mono (jKle 7 hd)) rfl ?_
        refine jEv.blk [(.iload_n 2, 1, [])] (by decide +kernel) (pc' := 47) (ls' := [(2, Int.ofNat o0), (0, v1), (0, v2), (3, 0)]) (st' := [(0, v2)]) rfl ?_
        refine jEv.if_ne (t := 59) (show jfI 314 47 (.ifCond .ne 12) 3 [] = true by decide +kernel) rfl H (fun c9 H => ?_) (fun c9 H => ?_)
        · refine jEv.blk [(.aload_n 0, 1, [])] (by decide +kernel) (pc' := 51) (ls' := [(2, Int.ofNat o0), (0, v1), (0, v2), (3, 0)]) (st' := [(2, Int.ofNat o0)]) rfl ?_
          refine jEv.gfR (o' := (o0 + 33)) (show jfI 314 51 (.getfield 111) 3 [12, 45, 5, 0, 7081] = true by decide +kernel) (isX12_L ho0) (by decide) (isX12_r45 ho0) ?_
          refine jEv.blk [(.iconst 1, 1, [])] (by decide +kernel) (pc' := 55) (ls' := [(2, Int.ofNat o0), (0, v1), (0, v2), (3, 0)]) (st' := [(0, 1), (2, Int.ofNat (o0 + 33))]) rfl ?_
          refine jEv.ald (Or.inl ⟨rfl, rfl, rfl⟩) (show jfI 314 55 (.iaload) 1 [] = true by decide +kernel) (isX12_a45 ho0) H (fun c10 H => ?_)
          refine jEv.goto (t := 96) (show jfI 314 56 (.goto 40) 3 [] = true by decide +kernel) rfl ?_
          exact jEv.weak (a := [(2, Int.ofNat o0), (3, 0), (3, 0), (3, 0)]) (jles.c1 (jles.c0 (jles.c0 (jles.c0 jles.nl)))) (t_M_recovers_p96 (T := T) (xs := xs) (y := y) hd ho0 H HY)
        · refine jEv.blk [(.iload_n 2, 1, []), (.iconst 1, 1, [])] (by decide +kernel) (pc' := 61) (ls' := [(2, Int.ofNat o0), (0, v1), (0, v2), (3, 0)]) (st' := [(0, 1), (0, v2)]) rfl ?_
          refine jEv.ic_ne (t := 74) (show jfI 314 61 (.if_icmp .ne 13) 3 [] = true by decide +kernel) rfl H (fun c11 H => ?_) (fun c11 H => ?_)
          · refine jEv.blk [(.aload_n 0, 1, [])] (by decide +kernel) (pc' := 65) (ls' := [(2, Int.ofNat o0), (0, v1), (0, v2), (3, 0)]) (st' := [(2, Int.ofNat o0)]) rfl ?_
            refine jEv.gfR (o' := (o0 + 33)) (show jfI 314 65 (.getfield 111) 3 [12, 45, 5, 0, 7081] = true by decide +kernel) (isX12_L ho0) (by decide) (isX12_r45 ho0) ?_
            refine jEv.blk [(.bipush 10, 2, [])] (by decide +kernel) (pc' := 70) (ls' := [(2, Int.ofNat o0), (0, v1), (0, v2), (3, 0)]) (st' := [(0, 10), (2, Int.ofNat (o0 + 33))]) rfl ?_
            refine jEv.ald (Or.inl ⟨rfl, rfl, rfl⟩) (show jfI 314 70 (.iaload) 1 [] = true by decide +kernel) (isX12_a45 ho0) H (fun c12 H => ?_)
            refine jEv.goto (t := 96) (show jfI 314 71 (.goto 25) 3 [] = true by decide +kernel) rfl ?_
            exact jEv.weak (a := [(2, Int.ofNat o0), (3, 0), (3, 0), (3, 0)]) (jles.c1 (jles.c0 (jles.c0 (jles.c0 jles.nl)))) (t_M_recovers_p96 (T := T) (xs := xs) (y := y) hd ho0 H HY)
          · refine jEv.blk [(.iload_n 2, 1, []), (.iconst 4, 1, [])] (by decide +kernel) (pc' := 76) (ls' := [(2, Int.ofNat o0), (0, v1), (0, v2), (3, 0)]) (st' := [(0, 4), (0, v2)]) rfl ?_
            refine jEv.ic_ge (t := 92) (show jfI 314 76 (.if_icmp .ge 16) 3 [] = true by decide +kernel) rfl H (fun c13 H => ?_) (fun c13 H => ?_)
            · refine jEv.blk [(.aload_n 0, 1, [])] (by decide +kernel) (pc' := 80) (ls' := [(2, Int.ofNat o0), (0, v1), (0, v2), (3, 0)]) (st' := [(2, Int.ofNat o0)]) rfl ?_
              refine jEv.gfR (o' := (o0 + 33)) (show jfI 314 80 (.getfield 111) 3 [12, 45, 5, 0, 7081] = true by decide +kernel) (isX12_L ho0) (by decide) (isX12_r45 ho0) ?_
              refine jEv.blk [(.iconst 5, 1, []), (.iload_n 2, 1, []), (.iadd, 1, []), (.iconst 2, 1, []), (.isub, 1, [])] (by decide +kernel) (pc' := 88) (ls' := [(2, Int.ofNat o0), (0, v1), (0, v2), (3, 0)]) (st' := [(0, (wr ((wr (5 + v2)) - 2))), (2, Int.ofNat (o0 + 33))]) rfl ?_
              refine jEv.ald (Or.inl ⟨rfl, rfl, rfl⟩) (show jfI 314 88 (.iaload) 1 [] = true by decide +kernel) (isX12_a45 ho0) H (fun c14 H => ?_)
              refine jEv.goto (t := 96) (show jfI 314 89 (.goto 7) 3 [] = true by decide +kernel) rfl ?_
              exact jEv.weak (a := [(2, Int.ofNat o0), (3, 0), (3, 0), (3, 0)]) (jles.c1 (jles.c0 (jles.c0 (jles.c0 jles.nl)))) (t_M_recovers_p96 (T := T) (xs := xs) (y := y) hd ho0 H HY)
            · refine jEv.blk [(.aload_n 0, 1, [])] (by decide +kernel) (pc' := 93) (ls' := [(2, Int.ofNat o0), (0, v1), (0, v2), (3, 0)]) (st' := [(2, Int.ofNat o0)]) rfl ?_
              refine jbind H (fun b15 Hb15 H => ?_)
              refine jEv.calV (st' := [(0, b15)]) (show jfI 314 93 (.invokevirtual 616) 3 [1, 323, 0, 10143] = true by decide +kernel) rfl (Or.inl rfl) rfl (Nat.le_of_ble_eq_true rfl) (by decide +kernel) (by decide) (isX12_L ho0) ((t_M_keyMany (T := T) (xs := xs) ho0 Hb15).mono (jKle 1 hd)) rfl ?_
              exact jEv.weak (a := [(2, Int.ofNat o0), (3, 0), (3, 0), (3, 0)]) (jles.c1 (jles.c0 (jles.c0 (jles.c0 jles.nl)))) (t_M_recovers_p96 (T := T) (xs := xs) (y := y) hd ho0 H HY)
set_option maxRecDepth 20000 in
noncomputable def M_turns  (h : jH) (o0 : Nat) (v1 : Int) : Option jH := (if (0 : Int) ≤ (wr (708 + v1)) ∧ ((wr (708 + v1)) : Int).toNat < 2365 then (if (0 : Int) ≤ (wr (708 + v1)) ∧ ((wr (708 + v1)) : Int).toNat < 2365 then (if (0 : Int) ≤ (wr (196 + v1)) ∧ ((wr (196 + v1)) : Int).toNat < 2365 then (if (0 : Int) ≤ (wr (196 + v1)) ∧ ((wr (196 + v1)) : Int).toNat < 2365 then some (jup (jup h (o0 + 33) ((wr (708 + v1)) : Int).toNat (wr (255 - (h (o0 + 33) ((wr (708 + v1)) : Int).toNat)))) (o0 + 33) ((wr (196 + v1)) : Int).toNat (wr (1 - ((jup h (o0 + 33) ((wr (708 + v1)) : Int).toNat (wr (255 - (h (o0 + 33) ((wr (708 + v1)) : Int).toNat)))) (o0 + 33) ((wr (196 + v1)) : Int).toNat)))) else none) else none) else none) else none)
set_option maxRecDepth 20000 in
theorem t_M_turns {T : jT} {xs : List Int} {h : jH}  {o0 : Nat} {v1 : Int} {out : jH} (ho0 : isX12 T o0) (H : M_turns h o0 v1 = some out) : jEm xs 1 325 [(2, Int.ofNat o0), (0, v1)] (T, h) ((3, 0), (T, out)) := by
  have hd : 0 ≤ 0 := Nat.le_refl _
  obtain ⟨y, ey⟩ : ∃ y : jV × jS, y = ((3, 0), (T, out)) := ⟨_, rfl⟩
  rw [← ey]
  have HY : ykV T y out := ey
  refine jEm.ent (n := 2) (by decide +kernel) (Nat.le_of_ble_eq_true rfl) ?_
  show jEv xs 0 (325, 0, [(2, Int.ofNat o0), (0, v1)], []) (T, h) y
  unfold M_turns at H
  refine jEv.blk [(.aload_n 0, 1, [])] (by decide +kernel) (pc' := 1) (ls' := [(2, Int.ofNat o0), (0, v1)]) (st' := [(2, Int.ofNat o0)]) rfl ?_
  refine jEv.gfR (o' := (o0 + 33)) (show jfI 325 1 (.getfield 111) 3 [12, 45, 5, 0, 7081] = true by decide +kernel) (isX12_L ho0) (by decide) (isX12_r45 ho0) ?_
  refine jEv.blk [(.sipush 708, 3, []), (.iload_n 1, 1, []), (.iadd, 1, []), (.sipush 255, 3, []), (.aload_n 0, 1, [])] (by decide +kernel) (pc' := 13) (ls' := [(2, Int.ofNat o0), (0, v1)]) (st' := [(2, Int.ofNat o0), (0, 255), (0, (wr (708 + v1))), (2, Int.ofNat (o0 + 33))]) rfl ?_
  refine jEv.gfR (o' := (o0 + 33)) (show jfI 325 13 (.getfield 111) 3 [12, 45, 5, 0, 7081] = true by decide +kernel) (isX12_L ho0) (by decide) (isX12_r45 ho0) ?_
  refine jEv.blk [(.sipush 708, 3, []), (.iload_n 1, 1, []), (.iadd, 1, [])] (by decide +kernel) (pc' := 21) (ls' := [(2, Int.ofNat o0), (0, v1)]) (st' := [(0, (wr (708 + v1))), (2, Int.ofNat (o0 + 33)), (0, 255), (0, (wr (708 + v1))), (2, Int.ofNat (o0 + 33))]) rfl ?_
  refine jEv.ald (Or.inl ⟨rfl, rfl, rfl⟩) (show jfI 325 21 (.iaload) 1 [] = true by decide +kernel) (isX12_a45 ho0) H (fun c1 H => ?_)
  refine jEv.blk [(.isub, 1, [])] (by decide +kernel) (pc' := 23) (ls' := [(2, Int.ofNat o0), (0, v1)]) (st' := [(0, (wr (255 - (h (o0 + 33) ((wr (708 + v1)) : Int).toNat)))), (0, (wr (708 + v1))), (2, Int.ofNat (o0 + 33))]) rfl ?_
  refine jEv.ast (Or.inl ⟨rfl, rfl, rfl⟩) (show jfI 325 23 (.iastore) 1 [] = true by decide +kernel) (isX12_a45 ho0) rfl H (fun c2 H => ?_)
  refine jEv.blk [(.aload_n 0, 1, [])] (by decide +kernel) (pc' := 25) (ls' := [(2, Int.ofNat o0), (0, v1)]) (st' := [(2, Int.ofNat o0)]) rfl ?_
  refine jEv.gfR (o' := (o0 + 33)) (show jfI 325 25 (.getfield 111) 3 [12, 45, 5, 0, 7081] = true by decide +kernel) (isX12_L ho0) (by decide) (isX12_r45 ho0) ?_
  refine jEv.blk [(.sipush 196, 3, []), (.iload_n 1, 1, []), (.iadd, 1, []), (.iconst 1, 1, []), (.aload_n 0, 1, [])] (by decide +kernel) (pc' := 35) (ls' := [(2, Int.ofNat o0), (0, v1)]) (st' := [(2, Int.ofNat o0), (0, 1), (0, (wr (196 + v1))), (2, Int.ofNat (o0 + 33))]) rfl ?_
  refine jEv.gfR (o' := (o0 + 33)) (show jfI 325 35 (.getfield 111) 3 [12, 45, 5, 0, 7081] = true by decide +kernel) (isX12_L ho0) (by decide) (isX12_r45 ho0) ?_
  refine jEv.blk [(.sipush 196, 3, []), (.iload_n 1, 1, []), (.iadd, 1, [])] (by decide +kernel) (pc' := 43) (ls' := [(2, Int.ofNat o0), (0, v1)]) (st' := [(0, (wr (196 + v1))), (2, Int.ofNat (o0 + 33)), (0, 1), (0, (wr (196 + v1))), (2, Int.ofNat (o0 + 33))]) rfl ?_
  refine jEv.ald (Or.inl ⟨rfl, rfl, rfl⟩) (show jfI 325 43 (.iaload) 1 [] = true by decide +kernel) (isX12_a45 ho0) H (fun c3 H => ?_)
  refine jEv.blk [(.isub, 1, [])] (by decide +kernel) (pc' := 45) (ls' := [(2, Int.ofNat o0), (0, v1)]) (st' := [(0, (wr (1 - ((jup h (o0 + 33) ((wr (708 + v1)) : Int).toNat (wr (255 - (h (o0 + 33) ((wr (708 + v1)) : Int).toNat)))) (o0 + 33) ((wr (196 + v1)) : Int).toNat)))), (0, (wr (196 + v1))), (2, Int.ofNat (o0 + 33))]) rfl ?_
  refine jEv.ast (Or.inl ⟨rfl, rfl, rfl⟩) (show jfI 325 45 (.iastore) 1 [] = true by decide +kernel) (isX12_a45 ho0) rfl H (fun c4 H => ?_)
  exact jEv.retV (show jfI 325 46 (.return_) 1 [] = true by decide +kernel) (by decide +kernel) (by cases H; exact HY)
def yk_M_flips_L46 (T : jT) (xs : List Int) (d : Nat) (y : jV × jS)  (o0 : Nat) (v1 : Int) (v3 : Int) : ((Int × Int × jH) ⊕ (Int × jH)) → Prop
  | .inl (v2, v4, h) => jEv xs d (324, 46, [(2, Int.ofNat o0), (0, v1), (0, v2), (0, v3), (0, v4), (3, 0), (3, 0)], []) (T, h) y
  | .inr o => ykI T y o
def yk_M_flips_L58 (T : jT) (xs : List Int) (d : Nat) (y : jV × jS)  (o0 : Nat) (v1 : Int) (v3 : Int) (v4 : Int) : ((Int × Int × jH) ⊕ ((Int × Int × jH) ⊕ (Int × jH))) → Prop
  | .inl (v2, v5, h) => jEv xs d (324, 58, [(2, Int.ofNat o0), (0, v1), (0, v2), (0, v3), (0, v4), (0, v5), (3, 0)], []) (T, h) y
  | .inr o => yk_M_flips_L46 T xs d y o0 v1 v3 o
set_option maxRecDepth 20000 in
noncomputable def M_flips_p126  (h : jH) (o0 : Nat) (v1 : Int) (v2 : Int) (v3 : Int) (v4 : Int) (v5 : Int) : Option ((Int × Int × jH) ⊕ ((Int × Int × jH) ⊕ (Int × jH))) := Option.bind (M_triesAnew h o0) (fun b20 => some (.inl (v2, (wr (v5 + 1)), b20)))
set_option maxRecDepth 20000 in
theorem t_M_flips_p126 {T : jT} {xs : List Int} {d : Nat} {y : jV × jS} (hd : 7 ≤ d) {h : jH}  {o0 : Nat} {v1 : Int} {v2 : Int} {v3 : Int} {v4 : Int} {v5 : Int} {out : ((Int × Int × jH) ⊕ ((Int × Int × jH) ⊕ (Int × jH)))} (ho0 : isX12 T o0) (H : M_flips_p126 h o0 v1 v2 v3 v4 v5 = some out) (HY : yk_M_flips_L58 T xs d y o0 v1 v3 v4 out) : jEv xs d (324, 126, [(2, Int.ofNat o0), (0, v1), (0, v2), (0, v3), (0, v4), (0, v5), (3, 0)], []) (T, h) y := by
  unfold M_flips_p126 at H
  refine jEv.blk [(.aload_n 0, 1, [])] (by decide +kernel) (pc' := 127) (ls' := [(2, Int.ofNat o0), (0, v1), (0, v2), (0, v3), (0, v4), (0, v5), (3, 0)]) (st' := [(2, Int.ofNat o0)]) rfl ?_
  refine jbind H (fun b20 Hb20 H => ?_)
  refine jEv.calV (st' := []) (show jfI 324 127 (.invokevirtual 491) 3 [1, 307, 0, 10075] = true by decide +kernel) rfl (Or.inl rfl) rfl (Nat.le_of_ble_eq_true rfl) (by decide +kernel) (by decide) (isX12_L ho0) ((t_M_triesAnew (T := T) (xs := xs) ho0 Hb20).mono (jKle 1 hd)) rfl ?_
  refine jEv.blk [(.iinc 5 1, 3, [])] (by decide +kernel) (pc' := 133) (ls' := [(2, Int.ofNat o0), (0, v1), (0, v2), (0, v3), (0, v4), (0, (wr (v5 + 1))), (3, 0)]) (st' := []) rfl ?_
  refine jEv.goto (t := 58) (show jfI 324 133 (.goto (-75)) 3 [] = true by decide +kernel) rfl ?_
  exact (by cases H; exact HY)
set_option maxRecDepth 20000 in
noncomputable def M_flips_p115  (h : jH) (o0 : Nat) (v1 : Int) (v2 : Int) (v3 : Int) (v4 : Int) (v5 : Int) (vs0 : Int) : Option ((Int × Int × jH) ⊕ ((Int × Int × jH) ⊕ (Int × jH))) := (if vs0 = v1 then M_flips_p126 h o0 v1 (wr (v2 + 1)) v3 v4 v5 else M_flips_p126 h o0 v1 v2 v3 v4 v5)
set_option maxRecDepth 20000 in
theorem t_M_flips_p115 {T : jT} {xs : List Int} {d : Nat} {y : jV × jS} (hd : 7 ≤ d) {h : jH}  {o0 : Nat} {v1 : Int} {v2 : Int} {v3 : Int} {v4 : Int} {v5 : Int} {vs0 : Int} {out : ((Int × Int × jH) ⊕ ((Int × Int × jH) ⊕ (Int × jH)))} (ho0 : isX12 T o0) (H : M_flips_p115 h o0 v1 v2 v3 v4 v5 vs0 = some out) (HY : yk_M_flips_L58 T xs d y o0 v1 v3 v4 out) : jEv xs d (324, 115, [(2, Int.ofNat o0), (0, v1), (0, v2), (0, v3), (0, v4), (0, v5), (3, 0)], [(0, vs0)]) (T, h) y := by
  unfold M_flips_p115 at H
  refine jEv.blk [(.istore 6, 2, []), (.iload 6, 2, []), (.iload_n 1, 1, [])] (by decide +kernel) (pc' := 120) (ls' := [(2, Int.ofNat o0), (0, v1), (0, v2), (0, v3), (0, v4), (0, v5), (0, vs0)]) (st' := [(0, v1), (0, vs0)]) rfl ?_
  refine jEv.ic_ne (t := 126) (show jfI 324 120 (.if_icmp .ne 6) 3 [] = true by decide +kernel) rfl H (fun c19 H => ?_) (fun c19 H => ?_)
  · refine jEv.blk [(.iinc 2 1, 3, [])] (by decide +kernel) (pc' := 126) (ls' := [(2, Int.ofNat o0), (0, v1), (0, (wr (v2 + 1))), (0, v3), (0, v4), (0, v5), (0, vs0)]) (st' := []) rfl ?_
    exact jEv.weak (a := [(2, Int.ofNat o0), (0, v1), (0, (wr (v2 + 1))), (0, v3), (0, v4), (0, v5), (3, 0)]) (jles.c1 (jles.c1 (jles.c1 (jles.c1 (jles.c1 (jles.c1 (jles.c0 jles.nl))))))) (t_M_flips_p126 (T := T) (xs := xs) (y := y) hd ho0 H HY)
  · exact jEv.weak (a := [(2, Int.ofNat o0), (0, v1), (0, v2), (0, v3), (0, v4), (0, v5), (3, 0)]) (jles.c1 (jles.c1 (jles.c1 (jles.c1 (jles.c1 (jles.c1 (jles.c0 jles.nl))))))) (t_M_flips_p126 (T := T) (xs := xs) (y := y) hd ho0 H HY)
set_option maxRecDepth 20000 in
noncomputable def M_flips_B58  (h : jH) (o0 : Nat) (v1 : Int) (v2 : Int) (v3 : Int) (v4 : Int) (v5 : Int) : Option ((Int × Int × jH) ⊕ ((Int × Int × jH) ⊕ (Int × jH))) := Option.bind (M_length h o0) (fun b11 => (if v5 < b11 then Option.bind (M_turns h o0 (wr ((wr (128 * v4)) + v5))) (fun b13 => Option.bind (M_crashes b13 o0 0) (fun b14 => (if (0 : Int) ≤ 10 ∧ (10 : Int).toNat < 2365 then (if (b14 (o0 + 33) (10 : Int).toNat) = 1 then M_flips_p115 b14 o0 v1 v2 v3 v4 v5 0 else (if (0 : Int) ≤ 1 ∧ (1 : Int).toNat < 2365 then (if (b14 (o0 + 33) (1 : Int).toNat) < v3 then M_flips_p115 b14 o0 v1 v2 v3 v4 v5 1 else M_flips_p115 b14 o0 v1 v2 v3 v4 v5 2) else none)) else none))) else Option.map Sum.inr (some (.inl (v2, (wr (v4 + 1)), h)))))
noncomputable def M_flips_L58  (h : jH) (o0 : Nat) (v1 : Int) (v2 : Int) (v3 : Int) (v4 : Int) (v5 : Int) : Option ((Int × Int × jH) ⊕ (Int × jH)) := jloop (fun s : (Int × Int × jH) => M_flips_B58 s.2.2 o0 v1 s.1 v3 v4 s.2.1) (v2, v5, h)
set_option maxRecDepth 20000 in
theorem t_M_flips_B58 {T : jT} {xs : List Int} {d : Nat} {y : jV × jS} (hd : 7 ≤ d) {h : jH}  {o0 : Nat} {v1 : Int} {v2 : Int} {v3 : Int} {v4 : Int} {v5 : Int} {out : ((Int × Int × jH) ⊕ ((Int × Int × jH) ⊕ (Int × jH)))} (ho0 : isX12 T o0) (H : M_flips_B58 h o0 v1 v2 v3 v4 v5 = some out) (HY : yk_M_flips_L58 T xs d y o0 v1 v3 v4 out) : jEv xs d (324, 58, [(2, Int.ofNat o0), (0, v1), (0, v2), (0, v3), (0, v4), (0, v5), (3, 0)], []) (T, h) y := by
  unfold M_flips_B58 at H
  refine jEv.blk [(.iload 5, 2, []), (.aload_n 0, 1, [])] (by decide +kernel) (pc' := 61) (ls' := [(2, Int.ofNat o0), (0, v1), (0, v2), (0, v3), (0, v4), (0, v5), (3, 0)]) (st' := [(2, Int.ofNat o0), (0, v5)]) rfl ?_
  refine jbind H (fun b11 Hb11 H => ?_)
  refine jEv.calV (st' := [(0, b11), (0, v5)]) (show jfI 324 61 (.invokevirtual 402) 3 [1, 249, 0, 9076] = true by decide +kernel) rfl (Or.inl rfl) rfl (Nat.le_of_ble_eq_true rfl) (by decide +kernel) (by decide) (isX12_L ho0) ((t_M_length (T := T) (xs := xs) ho0 Hb11).mono (jKle 1 hd)) rfl ?_
  refine jEv.ic_ge (t := 136) (show jfI 324 64 (.if_icmp .ge 72) 3 [] = true by decide +kernel) rfl H (fun c12 H => ?_) (fun c12 H => ?_)
  · refine jEv.blk [(.aload_n 0, 1, []), (.sipush 128, 3, []), (.iload 4, 2, []), (.imul, 1, []), (.iload 5, 2, []), (.iadd, 1, [])] (by decide +kernel) (pc' := 77) (ls' := [(2, Int.ofNat o0), (0, v1), (0, v2), (0, v3), (0, v4), (0, v5), (3, 0)]) (st' := [(0, (wr ((wr (128 * v4)) + v5))), (2, Int.ofNat o0)]) rfl ?_
    refine jbind H (fun b13 Hb13 H => ?_)
    refine jEv.calV (st' := []) (show jfI 324 77 (.invokevirtual 619) 3 [1, 325, 1, 10151] = true by decide +kernel) rfl (Or.inl rfl) rfl (Nat.le_of_ble_eq_true rfl) (by decide +kernel) (by decide) (isX12_L ho0) ((t_M_turns (T := T) (xs := xs) ho0 Hb13).mono (jKle 1 hd)) rfl ?_
    refine jEv.blk [(.aload_n 0, 1, []), (.iconst 0, 1, [])] (by decide +kernel) (pc' := 82) (ls' := [(2, Int.ofNat o0), (0, v1), (0, v2), (0, v3), (0, v4), (0, v5), (3, 0)]) (st' := [(0, 0), (2, Int.ofNat o0)]) rfl ?_
    refine jbind H (fun b14 Hb14 H => ?_)
    refine jEv.calV (st' := []) (show jfI 324 82 (.invokevirtual 613) 3 [1, 315, 1, 10111] = true by decide +kernel) rfl (Or.inl rfl) rfl (Nat.le_of_ble_eq_true rfl) (by decide +kernel) (by decide) (isX12_L ho0) ((t_M_crashes (T := T) (xs := xs) ho0 Hb14).mono (jKle 7 hd)) rfl ?_
    refine jEv.blk [(.aload_n 0, 1, [])] (by decide +kernel) (pc' := 86) (ls' := [(2, Int.ofNat o0), (0, v1), (0, v2), (0, v3), (0, v4), (0, v5), (3, 0)]) (st' := [(2, Int.ofNat o0)]) rfl ?_
    refine jEv.gfR (o' := (o0 + 33)) (show jfI 324 86 (.getfield 111) 3 [12, 45, 5, 0, 7081] = true by decide +kernel) (isX12_L ho0) (by decide) (isX12_r45 ho0) ?_
    refine jEv.blk [(.bipush 10, 2, [])] (by decide +kernel) (pc' := 91) (ls' := [(2, Int.ofNat o0), (0, v1), (0, v2), (0, v3), (0, v4), (0, v5), (3, 0)]) (st' := [(0, 10), (2, Int.ofNat (o0 + 33))]) rfl ?_
    refine jEv.ald (Or.inl ⟨rfl, rfl, rfl⟩) (show jfI 324 91 (.iaload) 1 [] = true by decide +kernel) (isX12_a45 ho0) H (fun c15 H => ?_)
    refine jEv.blk [(.iconst 1, 1, [])] (by decide +kernel) (pc' := 93) (ls' := [(2, Int.ofNat o0), (0, v1), (0, v2), (0, v3), (0, v4), (0, v5), (3, 0)]) (st' := [(0, 1), (0, (b14 (o0 + 33) (10 : Int).toNat))]) rfl ?_
    refine jEv.ic_ne (t := 100) (show jfI 324 93 (.if_icmp .ne 7) 3 [] = true by decide +kernel) rfl H (fun c16 H => ?_) (fun c16 H => ?_)
    · refine jEv.blk [(.iconst 0, 1, [])] (by decide +kernel) (pc' := 97) (ls' := [(2, Int.ofNat o0), (0, v1), (0, v2), (0, v3), (0, v4), (0, v5), (3, 0)]) (st' := [(0, 0)]) rfl ?_
      refine jEv.goto (t := 115) (show jfI 324 97 (.goto 18) 3 [] = true by decide +kernel) rfl ?_
      exact t_M_flips_p115 (T := T) (xs := xs) (y := y) hd ho0 H HY
    · refine jEv.blk [(.aload_n 0, 1, [])] (by decide +kernel) (pc' := 101) (ls' := [(2, Int.ofNat o0), (0, v1), (0, v2), (0, v3), (0, v4), (0, v5), (3, 0)]) (st' := [(2, Int.ofNat o0)]) rfl ?_
      refine jEv.gfR (o' := (o0 + 33)) (show jfI 324 101 (.getfield 111) 3 [12, 45, 5, 0, 7081] = true by decide +kernel) (isX12_L ho0) (by decide) (isX12_r45 ho0) ?_
      refine jEv.blk [(.iconst 1, 1, [])] (by decide +kernel) (pc' := 105) (ls' := [(2, Int.ofNat o0), (0, v1), (0, v2), (0, v3), (0, v4), (0, v5), (3, 0)]) (st' := [(0, 1), (2, Int.ofNat (o0 + 33))]) rfl ?_
      refine jEv.ald (Or.inl ⟨rfl, rfl, rfl⟩) (show jfI 324 105 (.iaload) 1 [] = true by decide +kernel) (isX12_a45 ho0) H (fun c17 H => ?_)
      refine jEv.blk [(.iload_n 3, 1, [])] (by decide +kernel) (pc' := 107) (ls' := [(2, Int.ofNat o0), (0, v1), (0, v2), (0, v3), (0, v4), (0, v5), (3, 0)]) (st' := [(0, v3), (0, (b14 (o0 + 33) (1 : Int).toNat))]) rfl ?_
      refine jEv.ic_ge (t := 114) (show jfI 324 107 (.if_icmp .ge 7) 3 [] = true by decide +kernel) rfl H (fun c18 H => ?_) (fun c18 H => ?_)
      · refine jEv.blk [(.iconst 1, 1, [])] (by decide +kernel) (pc' := 111) (ls' := [(2, Int.ofNat o0), (0, v1), (0, v2), (0, v3), (0, v4), (0, v5), (3, 0)]) (st' := [(0, 1)]) rfl ?_
        refine jEv.goto (t := 115) (show jfI 324 111 (.goto 4) 3 [] = true by decide +kernel) rfl ?_
        exact t_M_flips_p115 (T := T) (xs := xs) (y := y) hd ho0 H HY
      · refine jEv.blk [(.iconst 2, 1, [])] (by decide +kernel) (pc' := 115) (ls' := [(2, Int.ofNat o0), (0, v1), (0, v2), (0, v3), (0, v4), (0, v5), (3, 0)]) (st' := [(0, 2)]) rfl ?_
        exact t_M_flips_p115 (T := T) (xs := xs) (y := y) hd ho0 H HY
  · refine jmapr H HY (fun out H (HY : yk_M_flips_L46 T xs d y o0 v1 v3 out) => ?_)
    refine jEv.blk [(.iinc 4 1, 3, [])] (by decide +kernel) (pc' := 139) (ls' := [(2, Int.ofNat o0), (0, v1), (0, v2), (0, v3), (0, (wr (v4 + 1))), (0, v5), (3, 0)]) (st' := []) rfl ?_
    refine jEv.goto (t := 46) (show jfI 324 139 (.goto (-93)) 3 [] = true by decide +kernel) rfl ?_
    exact jEv.weak (a := [(2, Int.ofNat o0), (0, v1), (0, v2), (0, v3), (0, (wr (v4 + 1))), (3, 0), (3, 0)]) (jles.c1 (jles.c1 (jles.c1 (jles.c1 (jles.c1 (jles.c0 (jles.c0 jles.nl))))))) ((by cases H; exact HY))
theorem t_M_flips_L58 {T : jT} {xs : List Int} {d : Nat} {y : jV × jS} (hd : 7 ≤ d) {h : jH}  {o0 : Nat} {v1 : Int} {v2 : Int} {v3 : Int} {v4 : Int} {v5 : Int} {out : ((Int × Int × jH) ⊕ (Int × jH))} (ho0 : isX12 T o0) (H : M_flips_L58 h o0 v1 v2 v3 v4 v5 = some out) (HY : yk_M_flips_L46 T xs d y o0 v1 v3 out) : jEv xs d (324, 58, [(2, Int.ofNat o0), (0, v1), (0, v2), (0, v3), (0, v4), (0, v5), (3, 0)], []) (T, h) y :=
  jloop_sound (G := fun s : (Int × Int × jH) => jEv xs d (324, 58, [(2, Int.ofNat o0), (0, v1), (0, s.1), (0, v3), (0, v4), (0, s.2.1), (3, 0)], []) (T, s.2.2) y) (K := yk_M_flips_L58 T xs d y o0 v1 v3 v4) (fun s out H HY => t_M_flips_B58 hd ho0 H HY) (fun s' hg => hg) (s := (v2, v5, h)) H HY
set_option maxRecDepth 20000 in
noncomputable def M_flips_B46  (h : jH) (o0 : Nat) (v1 : Int) (v2 : Int) (v3 : Int) (v4 : Int) : Option ((Int × Int × jH) ⊕ (Int × jH)) := Option.bind (M_segmentMany h o0) (fun b8 => (if v4 < b8 then M_flips_L58 h o0 v1 v2 v3 v4 0 else Option.map Sum.inr (Option.bind (M_takesBack h o0) (fun b10 => some (v2, b10)))))
noncomputable def M_flips_L46  (h : jH) (o0 : Nat) (v1 : Int) (v2 : Int) (v3 : Int) (v4 : Int) : Option (Int × jH) := jloop (fun s : (Int × Int × jH) => M_flips_B46 s.2.2 o0 v1 s.1 v3 s.2.1) (v2, v4, h)
set_option maxRecDepth 20000 in
theorem t_M_flips_B46 {T : jT} {xs : List Int} {d : Nat} {y : jV × jS} (hd : 7 ≤ d) {h : jH}  {o0 : Nat} {v1 : Int} {v2 : Int} {v3 : Int} {v4 : Int} {out : ((Int × Int × jH) ⊕ (Int × jH))} (ho0 : isX12 T o0) (H : M_flips_B46 h o0 v1 v2 v3 v4 = some out) (HY : yk_M_flips_L46 T xs d y o0 v1 v3 out) : jEv xs d (324, 46, [(2, Int.ofNat o0), (0, v1), (0, v2), (0, v3), (0, v4), (3, 0), (3, 0)], []) (T, h) y := by
  unfold M_flips_B46 at H
  refine jEv.blk [(.iload 4, 2, []), (.aload_n 0, 1, [])] (by decide +kernel) (pc' := 49) (ls' := [(2, Int.ofNat o0), (0, v1), (0, v2), (0, v3), (0, v4), (3, 0), (3, 0)]) (st' := [(2, Int.ofNat o0), (0, v4)]) rfl ?_
  refine jbind H (fun b8 Hb8 H => ?_)
  refine jEv.calV (st' := [(0, b8), (0, v4)]) (show jfI 324 49 (.invokevirtual 360) 3 [1, 254, 0, 9096] = true by decide +kernel) rfl (Or.inl rfl) rfl (Nat.le_of_ble_eq_true rfl) (by decide +kernel) (by decide) (isX12_L ho0) ((t_M_segmentMany (T := T) (xs := xs) ho0 Hb8).mono (jKle 1 hd)) rfl ?_
  refine jEv.ic_ge (t := 142) (show jfI 324 52 (.if_icmp .ge 90) 3 [] = true by decide +kernel) rfl H (fun c9 H => ?_) (fun c9 H => ?_)
  · refine jEv.blk [(.iconst 0, 1, []), (.istore 5, 2, [])] (by decide +kernel) (pc' := 58) (ls' := [(2, Int.ofNat o0), (0, v1), (0, v2), (0, v3), (0, v4), (0, 0), (3, 0)]) (st' := []) rfl ?_
    exact t_M_flips_L58 (T := T) (xs := xs) (y := y) hd ho0 H HY
  · refine jmapr H HY (fun out H (HY : ykI T y out) => ?_)
    refine jEv.blk [(.aload_n 0, 1, [])] (by decide +kernel) (pc' := 143) (ls' := [(2, Int.ofNat o0), (0, v1), (0, v2), (0, v3), (0, v4), (3, 0), (3, 0)]) (st' := [(2, Int.ofNat o0)]) rfl ?_
    refine jbind H (fun b10 Hb10 H => ?_)
    refine jEv.calV (st' := []) (show jfI 324 143 (.invokevirtual 597) 3 [1, 306, 0, 10071] = true by decide +kernel) rfl (Or.inl rfl) rfl (Nat.le_of_ble_eq_true rfl) (by decide +kernel) (by decide) (isX12_L ho0) ((t_M_takesBack (T := T) (xs := xs) ho0 Hb10).mono (jKle 2 hd)) rfl ?_
    refine jEv.blk [(.iload_n 2, 1, [])] (by decide +kernel) (pc' := 147) (ls' := [(2, Int.ofNat o0), (0, v1), (0, v2), (0, v3), (0, v4), (3, 0), (3, 0)]) (st' := [(0, v2)]) rfl ?_
    exact jEv.retI (show jfI 324 147 (.ireturn) 1 [] = true by decide +kernel) (by decide +kernel) (by cases H; exact HY)
theorem t_M_flips_L46 {T : jT} {xs : List Int} {d : Nat} {y : jV × jS} (hd : 7 ≤ d) {h : jH}  {o0 : Nat} {v1 : Int} {v2 : Int} {v3 : Int} {v4 : Int} {out : (Int × jH)} (ho0 : isX12 T o0) (H : M_flips_L46 h o0 v1 v2 v3 v4 = some out) (HY : ykI T y out) : jEv xs d (324, 46, [(2, Int.ofNat o0), (0, v1), (0, v2), (0, v3), (0, v4), (3, 0), (3, 0)], []) (T, h) y :=
  jloop_sound (G := fun s : (Int × Int × jH) => jEv xs d (324, 46, [(2, Int.ofNat o0), (0, v1), (0, s.1), (0, v3), (0, s.2.1), (3, 0), (3, 0)], []) (T, s.2.2) y) (K := yk_M_flips_L46 T xs d y o0 v1 v3) (fun s out H HY => t_M_flips_B46 hd ho0 H HY) (fun s' hg => hg) (s := (v2, v4, h)) H HY
set_option maxRecDepth 20000 in
noncomputable def M_flips  (h : jH) (o0 : Nat) (v1 : Int) : Option (Int × jH) := (if (h o0 43) = 0 then some ((-1), h) else Option.bind (M_isIn v1 0 2) (fun b2 => (if b2 = 0 then some ((-1), h) else Option.bind (M_putsAside h o0) (fun b4 => Option.bind (M_crashes b4 o0 0) (fun b5 => (if (0 : Int) ≤ 1 ∧ (1 : Int).toNat < 2365 then Option.bind (M_triesAnew b5 o0) (fun b7 => M_flips_L46 b7 o0 v1 0 (b5 (o0 + 33) (1 : Int).toNat) 0) else none))))))
set_option maxRecDepth 20000 in
theorem t_M_flips {T : jT} {xs : List Int} {h : jH}  {o0 : Nat} {v1 : Int} {out : (Int × jH)} (ho0 : isX12 T o0) (H : M_flips h o0 v1 = some out) : jEm xs 8 324 [(2, Int.ofNat o0), (0, v1)] (T, h) ((0, out.1), (T, out.2)) := by
  have hd : 7 ≤ 7 := Nat.le_refl _
  obtain ⟨y, ey⟩ : ∃ y : jV × jS, y = ((0, out.1), (T, out.2)) := ⟨_, rfl⟩
  rw [← ey]
  have HY : ykI T y out := ey
  refine jEm.ent (n := 7) (by decide +kernel) (Nat.le_of_ble_eq_true rfl) ?_
  show jEv xs 7 (324, 0, [(2, Int.ofNat o0), (0, v1), (3, 0), (3, 0), (3, 0), (3, 0), (3, 0)], []) (T, h) y
  unfold M_flips at H
  refine jEv.blk [(.aload_n 0, 1, [])] (by decide +kernel) (pc' := 1) (ls' := [(2, Int.ofNat o0), (0, v1), (3, 0), (3, 0), (3, 0), (3, 0), (3, 0)]) (st' := [(2, Int.ofNat o0)]) rfl ?_
  refine jEv.gfI (show jfI 324 1 (.getfield 340) 3 [12, 43, 0, 1, 7079] = true by decide +kernel) (isX12_L ho0) (by decide) ?_
  refine jEv.if_eq (t := 19) (show jfI 324 4 (.ifCond .eq 15) 3 [] = true by decide +kernel) rfl H (fun c1 H => ?_) (fun c1 H => ?_)
  · refine jEv.blk [(.iconst (-1), 1, [])] (by decide +kernel) (pc' := 20) (ls' := [(2, Int.ofNat o0), (0, v1), (3, 0), (3, 0), (3, 0), (3, 0), (3, 0)]) (st' := [(0, (-1))]) rfl ?_
    exact jEv.retI (show jfI 324 20 (.ireturn) 1 [] = true by decide +kernel) (by decide +kernel) (by cases H; exact HY)
  · refine jEv.blk [(.iload_n 1, 1, []), (.i2l, 1, []), (.lconst 0, 1, []), (.ldc2_w 576, 3, [1, 0, 2, 9165])] (by decide +kernel) (pc' := 13) (ls' := [(2, Int.ofNat o0), (0, v1), (3, 0), (3, 0), (3, 0), (3, 0), (3, 0)]) (st' := [(1, 2), (1, 0), (1, v1)]) rfl ?_
    refine jbind H (fun b2 Hb2 H => ?_)
    refine jEv.calS (st' := [(0, b2)]) (show jfI 324 13 (.invokestatic 275) 3 [3, 213, 3, 8176] = true by decide +kernel) rfl (Or.inl rfl) rfl (Nat.le_of_ble_eq_true rfl) ((t_M_isIn (T := T) (xs := xs)  Hb2).mono (jKle 1 hd)) rfl ?_
    refine jEv.if_ne (t := 21) (show jfI 324 16 (.ifCond .ne 5) 3 [] = true by decide +kernel) rfl H (fun c3 H => ?_) (fun c3 H => ?_)
    · refine jEv.blk [(.iconst (-1), 1, [])] (by decide +kernel) (pc' := 20) (ls' := [(2, Int.ofNat o0), (0, v1), (3, 0), (3, 0), (3, 0), (3, 0), (3, 0)]) (st' := [(0, (-1))]) rfl ?_
      exact jEv.retI (show jfI 324 20 (.ireturn) 1 [] = true by decide +kernel) (by decide +kernel) (by cases H; exact HY)
    · refine jEv.blk [(.iconst 0, 1, []), (.istore_n 2, 1, []), (.aload_n 0, 1, [])] (by decide +kernel) (pc' := 24) (ls' := [(2, Int.ofNat o0), (0, v1), (0, 0), (3, 0), (3, 0), (3, 0), (3, 0)]) (st' := [(2, Int.ofNat o0)]) rfl ?_
      refine jbind H (fun b4 Hb4 H => ?_)
      refine jEv.calV (st' := []) (show jfI 324 24 (.invokevirtual 591) 3 [1, 281, 0, 9210] = true by decide +kernel) rfl (Or.inl rfl) rfl (Nat.le_of_ble_eq_true rfl) (by decide +kernel) (by decide) (isX12_L ho0) ((t_M_putsAside (T := T) (xs := xs) ho0 Hb4).mono (jKle 1 hd)) rfl ?_
      refine jEv.blk [(.aload_n 0, 1, []), (.iconst 0, 1, [])] (by decide +kernel) (pc' := 29) (ls' := [(2, Int.ofNat o0), (0, v1), (0, 0), (3, 0), (3, 0), (3, 0), (3, 0)]) (st' := [(0, 0), (2, Int.ofNat o0)]) rfl ?_
      refine jbind H (fun b5 Hb5 H => ?_)
      refine jEv.calV (st' := []) (show jfI 324 29 (.invokevirtual 613) 3 [1, 315, 1, 10111] = true by decide +kernel) rfl (Or.inl rfl) rfl (Nat.le_of_ble_eq_true rfl) (by decide +kernel) (by decide) (isX12_L ho0) ((t_M_crashes (T := T) (xs := xs) ho0 Hb5).mono (jKle 7 hd)) rfl ?_
      refine jEv.blk [(.aload_n 0, 1, [])] (by decide +kernel) (pc' := 33) (ls' := [(2, Int.ofNat o0), (0, v1), (0, 0), (3, 0), (3, 0), (3, 0), (3, 0)]) (st' := [(2, Int.ofNat o0)]) rfl ?_
      refine jEv.gfR (o' := (o0 + 33)) (show jfI 324 33 (.getfield 111) 3 [12, 45, 5, 0, 7081] = true by decide +kernel) (isX12_L ho0) (by decide) (isX12_r45 ho0) ?_
      refine jEv.blk [(.iconst 1, 1, [])] (by decide +kernel) (pc' := 37) (ls' := [(2, Int.ofNat o0), (0, v1), (0, 0), (3, 0), (3, 0), (3, 0), (3, 0)]) (st' := [(0, 1), (2, Int.ofNat (o0 + 33))]) rfl ?_
      refine jEv.ald (Or.inl ⟨rfl, rfl, rfl⟩) (show jfI 324 37 (.iaload) 1 [] = true by decide +kernel) (isX12_a45 ho0) H (fun c6 H => ?_)
      refine jEv.blk [(.istore_n 3, 1, []), (.aload_n 0, 1, [])] (by decide +kernel) (pc' := 40) (ls' := [(2, Int.ofNat o0), (0, v1), (0, 0), (0, (b5 (o0 + 33) (1 : Int).toNat)), (3, 0), (3, 0), (3, 0)]) (st' := [(2, Int.ofNat o0)]) rfl ?_
      refine jbind H (fun b7 Hb7 H => ?_)
      refine jEv.calV (st' := []) (show jfI 324 40 (.invokevirtual 491) 3 [1, 307, 0, 10075] = true by decide +kernel) rfl (Or.inl rfl) rfl (Nat.le_of_ble_eq_true rfl) (by decide +kernel) (by decide) (isX12_L ho0) ((t_M_triesAnew (T := T) (xs := xs) ho0 Hb7).mono (jKle 1 hd)) rfl ?_
      refine jEv.blk [(.iconst 0, 1, []), (.istore 4, 2, [])] (by decide +kernel) (pc' := 46) (ls' := [(2, Int.ofNat o0), (0, v1), (0, 0), (0, (b5 (o0 + 33) (1 : Int).toNat)), (0, 0), (3, 0), (3, 0)]) (st' := []) rfl ?_
      exact t_M_flips_L46 (T := T) (xs := xs) (y := y) hd ho0 H HY
def yk_M_see_L114 (T : jT) (xs : List Int) (d : Nat) (y : jV × jS)  (o0 : Nat) (v1 : Int) : ((Int × jH) ⊕ (Int × jH)) → Prop
  | .inl (v3, h) => jEv xs d (326, 114, [(2, Int.ofNat o0), (0, v1), (3, 0), (0, v3)], []) (T, h) y
  | .inr o => ykI T y o
def yk_M_see_L43 (T : jT) (xs : List Int) (d : Nat) (y : jV × jS) (h : jH)  (o0 : Nat) (v1 : Int) : ((Int × Int) ⊕ (Int × jH)) → Prop
  | .inl (v2, v3) => jEv xs d (326, 43, [(2, Int.ofNat o0), (0, v1), (0, v2), (0, v3)], []) (T, h) y
  | .inr o => ykI T y o
set_option maxRecDepth 20000 in
noncomputable def M_see_B114  (h : jH) (o0 : Nat) (v1 : Int) (v3 : Int) : Option ((Int × jH) ⊕ (Int × jH)) := (if v3 < (wr (Int.tdiv v1 3)) then (if (0 : Int) ≤ (wr (3 * v3)) ∧ ((wr (3 * v3)) : Int).toNat < 1600 then (if (0 : Int) ≤ (wr (2 * v3)) ∧ ((wr (2 * v3)) : Int).toNat < 32 then (if (0 : Int) ≤ (wr ((wr (3 * v3)) + 1)) ∧ ((wr ((wr (3 * v3)) + 1)) : Int).toNat < 1600 then (if (0 : Int) ≤ (wr ((wr (3 * v3)) + 2)) ∧ ((wr ((wr (3 * v3)) + 2)) : Int).toNat < 1600 then (if (0 : Int) ≤ (wr ((wr (2 * v3)) + 1)) ∧ ((wr ((wr (2 * v3)) + 1)) : Int).toNat < 32 then some (.inl ((wr (v3 + 1)), (jup (jup h (o0 + 38) ((wr (2 * v3)) : Int).toNat (h (o0 + 1) ((wr (3 * v3)) : Int).toNat)) (o0 + 38) ((wr ((wr (2 * v3)) + 1)) : Int).toNat (wr ((wr (256 * ((jup h (o0 + 38) ((wr (2 * v3)) : Int).toNat (h (o0 + 1) ((wr (3 * v3)) : Int).toNat)) (o0 + 1) ((wr ((wr (3 * v3)) + 1)) : Int).toNat))) + ((jup h (o0 + 38) ((wr (2 * v3)) : Int).toNat (h (o0 + 1) ((wr (3 * v3)) : Int).toNat)) (o0 + 1) ((wr ((wr (3 * v3)) + 2)) : Int).toNat)))))) else none) else none) else none) else none) else none) else Option.map Sum.inr (some (((jup h o0 66 (wr (Int.tdiv v1 3))) o0 66), (jup h o0 66 (wr (Int.tdiv v1 3))))))
noncomputable def M_see_L114  (h : jH) (o0 : Nat) (v1 : Int) (v3 : Int) : Option (Int × jH) := jloop (fun s : (Int × jH) => M_see_B114 s.2 o0 v1 s.1) (v3, h)
set_option maxRecDepth 20000 in
theorem t_M_see_B114 {T : jT} {xs : List Int} {d : Nat} {y : jV × jS} (hd : 1 ≤ d) {h : jH}  {o0 : Nat} {v1 : Int} {v3 : Int} {out : ((Int × jH) ⊕ (Int × jH))} (ho0 : isX12 T o0) (H : M_see_B114 h o0 v1 v3 = some out) (HY : yk_M_see_L114 T xs d y o0 v1 out) : jEv xs d (326, 114, [(2, Int.ofNat o0), (0, v1), (3, 0), (0, v3)], []) (T, h) y := by
  unfold M_see_B114 at H
  refine jEv.blk [(.iload_n 3, 1, []), (.iload_n 1, 1, []), (.iconst 3, 1, [])] (by decide +kernel) (pc' := 117) (ls' := [(2, Int.ofNat o0), (0, v1), (3, 0), (0, v3)]) (st' := [(0, 3), (0, v1), (0, v3)]) rfl ?_
  refine jEv.idiv (show jfI 326 117 (.idiv) 1 [] = true by decide +kernel) (by decide) ?_
  refine jEv.ic_ge (t := 178) (show jfI 326 118 (.if_icmp .ge 60) 3 [] = true by decide +kernel) rfl H (fun c14 H => ?_) (fun c14 H => ?_)
  · refine jEv.blk [(.aload_n 0, 1, [])] (by decide +kernel) (pc' := 122) (ls' := [(2, Int.ofNat o0), (0, v1), (3, 0), (0, v3)]) (st' := [(2, Int.ofNat o0)]) rfl ?_
    refine jEv.gfR (o' := (o0 + 38)) (show jfI 326 122 (.getfield 129) 3 [12, 67, 5, 0, 7103] = true by decide +kernel) (isX12_L ho0) (by decide) (isX12_r67 ho0) ?_
    refine jEv.blk [(.iconst 2, 1, []), (.iload_n 3, 1, []), (.imul, 1, []), (.aload_n 0, 1, [])] (by decide +kernel) (pc' := 129) (ls' := [(2, Int.ofNat o0), (0, v1), (3, 0), (0, v3)]) (st' := [(2, Int.ofNat o0), (0, (wr (2 * v3))), (2, Int.ofNat (o0 + 38))]) rfl ?_
    refine jEv.gfR (o' := (o0 + 1)) (show jfI 326 129 (.getfield 7) 3 [12, 0, 5, 0, 7036] = true by decide +kernel) (isX12_L ho0) (by decide) (isX12_r0 ho0) ?_
    refine jEv.blk [(.iconst 3, 1, []), (.iload_n 3, 1, []), (.imul, 1, [])] (by decide +kernel) (pc' := 135) (ls' := [(2, Int.ofNat o0), (0, v1), (3, 0), (0, v3)]) (st' := [(0, (wr (3 * v3))), (2, Int.ofNat (o0 + 1)), (0, (wr (2 * v3))), (2, Int.ofNat (o0 + 38))]) rfl ?_
    refine jEv.ald (Or.inl ⟨rfl, rfl, rfl⟩) (show jfI 326 135 (.iaload) 1 [] = true by decide +kernel) (isX12_a0 ho0) H (fun c15 H => ?_)
    refine jEv.ast (Or.inl ⟨rfl, rfl, rfl⟩) (show jfI 326 136 (.iastore) 1 [] = true by decide +kernel) (isX12_a67 ho0) rfl H (fun c16 H => ?_)
    refine jEv.blk [(.aload_n 0, 1, [])] (by decide +kernel) (pc' := 138) (ls' := [(2, Int.ofNat o0), (0, v1), (3, 0), (0, v3)]) (st' := [(2, Int.ofNat o0)]) rfl ?_
    refine jEv.gfR (o' := (o0 + 38)) (show jfI 326 138 (.getfield 129) 3 [12, 67, 5, 0, 7103] = true by decide +kernel) (isX12_L ho0) (by decide) (isX12_r67 ho0) ?_
    refine jEv.blk [(.iconst 2, 1, []), (.iload_n 3, 1, []), (.imul, 1, []), (.iconst 1, 1, []), (.iadd, 1, []), (.sipush 256, 3, []), (.aload_n 0, 1, [])] (by decide +kernel) (pc' := 150) (ls' := [(2, Int.ofNat o0), (0, v1), (3, 0), (0, v3)]) (st' := [(2, Int.ofNat o0), (0, 256), (0, (wr ((wr (2 * v3)) + 1))), (2, Int.ofNat (o0 + 38))]) rfl ?_
    refine jEv.gfR (o' := (o0 + 1)) (show jfI 326 150 (.getfield 7) 3 [12, 0, 5, 0, 7036] = true by decide +kernel) (isX12_L ho0) (by decide) (isX12_r0 ho0) ?_
    refine jEv.blk [(.iconst 3, 1, []), (.iload_n 3, 1, []), (.imul, 1, []), (.iconst 1, 1, []), (.iadd, 1, [])] (by decide +kernel) (pc' := 158) (ls' := [(2, Int.ofNat o0), (0, v1), (3, 0), (0, v3)]) (st' := [(0, (wr ((wr (3 * v3)) + 1))), (2, Int.ofNat (o0 + 1)), (0, 256), (0, (wr ((wr (2 * v3)) + 1))), (2, Int.ofNat (o0 + 38))]) rfl ?_
    refine jEv.ald (Or.inl ⟨rfl, rfl, rfl⟩) (show jfI 326 158 (.iaload) 1 [] = true by decide +kernel) (isX12_a0 ho0) H (fun c17 H => ?_)
    refine jEv.blk [(.imul, 1, []), (.aload_n 0, 1, [])] (by decide +kernel) (pc' := 161) (ls' := [(2, Int.ofNat o0), (0, v1), (3, 0), (0, v3)]) (st' := [(2, Int.ofNat o0), (0, (wr (256 * ((jup h (o0 + 38) ((wr (2 * v3)) : Int).toNat (h (o0 + 1) ((wr (3 * v3)) : Int).toNat)) (o0 + 1) ((wr ((wr (3 * v3)) + 1)) : Int).toNat)))), (0, (wr ((wr (2 * v3)) + 1))), (2, Int.ofNat (o0 + 38))]) rfl ?_
    refine jEv.gfR (o' := (o0 + 1)) (show jfI 326 161 (.getfield 7) 3 [12, 0, 5, 0, 7036] = true by decide +kernel) (isX12_L ho0) (by decide) (isX12_r0 ho0) ?_
    refine jEv.blk [(.iconst 3, 1, []), (.iload_n 3, 1, []), (.imul, 1, []), (.iconst 2, 1, []), (.iadd, 1, [])] (by decide +kernel) (pc' := 169) (ls' := [(2, Int.ofNat o0), (0, v1), (3, 0), (0, v3)]) (st' := [(0, (wr ((wr (3 * v3)) + 2))), (2, Int.ofNat (o0 + 1)), (0, (wr (256 * ((jup h (o0 + 38) ((wr (2 * v3)) : Int).toNat (h (o0 + 1) ((wr (3 * v3)) : Int).toNat)) (o0 + 1) ((wr ((wr (3 * v3)) + 1)) : Int).toNat)))), (0, (wr ((wr (2 * v3)) + 1))), (2, Int.ofNat (o0 + 38))]) rfl ?_
    refine jEv.ald (Or.inl ⟨rfl, rfl, rfl⟩) (show jfI 326 169 (.iaload) 1 [] = true by decide +kernel) (isX12_a0 ho0) H (fun c18 H => ?_)
    refine jEv.blk [(.iadd, 1, [])] (by decide +kernel) (pc' := 171) (ls' := [(2, Int.ofNat o0), (0, v1), (3, 0), (0, v3)]) (st' := [(0, (wr ((wr (256 * ((jup h (o0 + 38) ((wr (2 * v3)) : Int).toNat (h (o0 + 1) ((wr (3 * v3)) : Int).toNat)) (o0 + 1) ((wr ((wr (3 * v3)) + 1)) : Int).toNat))) + ((jup h (o0 + 38) ((wr (2 * v3)) : Int).toNat (h (o0 + 1) ((wr (3 * v3)) : Int).toNat)) (o0 + 1) ((wr ((wr (3 * v3)) + 2)) : Int).toNat)))), (0, (wr ((wr (2 * v3)) + 1))), (2, Int.ofNat (o0 + 38))]) rfl ?_
    refine jEv.ast (Or.inl ⟨rfl, rfl, rfl⟩) (show jfI 326 171 (.iastore) 1 [] = true by decide +kernel) (isX12_a67 ho0) rfl H (fun c19 H => ?_)
    refine jEv.blk [(.iinc 3 1, 3, [])] (by decide +kernel) (pc' := 175) (ls' := [(2, Int.ofNat o0), (0, v1), (3, 0), (0, (wr (v3 + 1)))]) (st' := []) rfl ?_
    refine jEv.goto (t := 114) (show jfI 326 175 (.goto (-61)) 3 [] = true by decide +kernel) rfl ?_
    exact (by cases H; exact HY)
  · refine jmapr H HY (fun out H (HY : ykI T y out) => ?_)
    refine jEv.blk [(.aload_n 0, 1, []), (.iload_n 1, 1, []), (.iconst 3, 1, [])] (by decide +kernel) (pc' := 181) (ls' := [(2, Int.ofNat o0), (0, v1), (3, 0), (0, v3)]) (st' := [(0, 3), (0, v1), (2, Int.ofNat o0)]) rfl ?_
    refine jEv.idiv (show jfI 326 181 (.idiv) 1 [] = true by decide +kernel) (by decide) ?_
    refine jEv.pfI (show jfI 326 182 (.putfield 350) 3 [12, 66, 0, 0, 7102] = true by decide +kernel) (isX12_L ho0) (by decide) ?_
    refine jEv.blk [(.aload_n 0, 1, [])] (by decide +kernel) (pc' := 186) (ls' := [(2, Int.ofNat o0), (0, v1), (3, 0), (0, v3)]) (st' := [(2, Int.ofNat o0)]) rfl ?_
    refine jEv.gfI (show jfI 326 186 (.getfield 350) 3 [12, 66, 0, 0, 7102] = true by decide +kernel) (isX12_L ho0) (by decide) ?_
    exact jEv.retI (show jfI 326 189 (.ireturn) 1 [] = true by decide +kernel) (by decide +kernel) (by cases H; exact HY)
theorem t_M_see_L114 {T : jT} {xs : List Int} {d : Nat} {y : jV × jS} (hd : 1 ≤ d) {h : jH}  {o0 : Nat} {v1 : Int} {v3 : Int} {out : (Int × jH)} (ho0 : isX12 T o0) (H : M_see_L114 h o0 v1 v3 = some out) (HY : ykI T y out) : jEv xs d (326, 114, [(2, Int.ofNat o0), (0, v1), (3, 0), (0, v3)], []) (T, h) y :=
  jloop_sound (G := fun s : (Int × jH) => jEv xs d (326, 114, [(2, Int.ofNat o0), (0, v1), (3, 0), (0, s.1)], []) (T, s.2) y) (K := yk_M_see_L114 T xs d y o0 v1) (fun s out H HY => t_M_see_B114 hd ho0 H HY) (fun s' hg => hg) (s := (v3, h)) H HY
set_option maxRecDepth 20000 in
noncomputable def M_see_p102  (h : jH) (o0 : Nat) (v1 : Int) (v2 : Int) : Option (Int × jH) := (if v2 = 0 then Option.bind (M_refuses h o0 1) (fun b13 => some (b13.1, b13.2)) else M_see_L114 h o0 v1 0)
set_option maxRecDepth 20000 in
theorem t_M_see_p102 {T : jT} {xs : List Int} {d : Nat} {y : jV × jS} (hd : 1 ≤ d) {h : jH}  {o0 : Nat} {v1 : Int} {v2 : Int} {out : (Int × jH)} (ho0 : isX12 T o0) (H : M_see_p102 h o0 v1 v2 = some out) (HY : ykI T y out) : jEv xs d (326, 102, [(2, Int.ofNat o0), (0, v1), (0, v2), (3, 0)], []) (T, h) y := by
  unfold M_see_p102 at H
  refine jEv.blk [(.iload_n 2, 1, [])] (by decide +kernel) (pc' := 103) (ls' := [(2, Int.ofNat o0), (0, v1), (0, v2), (3, 0)]) (st' := [(0, v2)]) rfl ?_
  refine jEv.if_ne (t := 112) (show jfI 326 103 (.ifCond .ne 9) 3 [] = true by decide +kernel) rfl H (fun c12 H => ?_) (fun c12 H => ?_)
  · refine jEv.blk [(.aload_n 0, 1, []), (.iconst 1, 1, [])] (by decide +kernel) (pc' := 108) (ls' := [(2, Int.ofNat o0), (0, v1), (0, v2), (3, 0)]) (st' := [(0, 1), (2, Int.ofNat o0)]) rfl ?_
    refine jbind H (fun b13 Hb13 H => ?_)
    refine jEv.calV (st' := [(0, b13.1)]) (show jfI 326 108 (.invokevirtual 333) 3 [1, 239, 1, 9038] = true by decide +kernel) rfl (Or.inl rfl) rfl (Nat.le_of_ble_eq_true rfl) (by decide +kernel) (by decide) (isX12_L ho0) ((t_M_refuses (T := T) (xs := xs) ho0 Hb13).mono (jKle 1 hd)) rfl ?_
    exact jEv.retI (show jfI 326 111 (.ireturn) 1 [] = true by decide +kernel) (by decide +kernel) (by cases H; exact HY)
  · refine jEv.blk [(.iconst 0, 1, []), (.istore_n 3, 1, [])] (by decide +kernel) (pc' := 114) (ls' := [(2, Int.ofNat o0), (0, v1), (0, v2), (0, 0)]) (st' := []) rfl ?_
    exact jEv.weak (a := [(2, Int.ofNat o0), (0, v1), (3, 0), (0, 0)]) (jles.c1 (jles.c1 (jles.c0 (jles.c1 jles.nl)))) (t_M_see_L114 (T := T) (xs := xs) (y := y) hd ho0 H HY)
set_option maxRecDepth 20000 in
noncomputable def M_see_p94  (h : jH) (o0 : Nat) (v1 : Int) (v3 : Int) : Option ((Int × Int) ⊕ (Int × jH)) := some (.inl (0, (wr (v3 + 3))))
set_option maxRecDepth 20000 in
theorem t_M_see_p94 {T : jT} {xs : List Int} {d : Nat} {y : jV × jS} (hd : 1 ≤ d) {h : jH}  {o0 : Nat} {v1 : Int} {v3 : Int} {out : ((Int × Int) ⊕ (Int × jH))} (ho0 : isX12 T o0) (H : M_see_p94 h o0 v1 v3 = some out) (HY : yk_M_see_L43 T xs d y h o0 v1 out) : jEv xs d (326, 94, [(2, Int.ofNat o0), (0, v1), (3, 0), (0, v3)], []) (T, h) y := by
  unfold M_see_p94 at H
  refine jEv.blk [(.iconst 0, 1, [])] (by decide +kernel) (pc' := 95) (ls' := [(2, Int.ofNat o0), (0, v1), (3, 0), (0, v3)]) (st' := [(0, 0)]) rfl ?_
  refine jEv.blk [(.istore_n 2, 1, []), (.iinc 3 3, 3, [])] (by decide +kernel) (pc' := 99) (ls' := [(2, Int.ofNat o0), (0, v1), (0, 0), (0, (wr (v3 + 3)))]) (st' := []) rfl ?_
  refine jEv.goto (t := 43) (show jfI 326 99 (.goto (-56)) 3 [] = true by decide +kernel) rfl ?_
  exact (by cases H; exact HY)
set_option maxRecDepth 20000 in
noncomputable def M_see_B43  (h : jH) (o0 : Nat) (v1 : Int) (v2 : Int) (v3 : Int) : Option ((Int × Int) ⊕ (Int × jH)) := (if v3 < v1 then (if v2 = 0 then Option.map Sum.inr (M_see_p102 h o0 v1 v2) else (if (0 : Int) ≤ v3 ∧ (v3 : Int).toNat < 1600 then (if (h (o0 + 1) (v3 : Int).toNat) < 16 then (if (0 : Int) ≤ (wr (v3 + 1)) ∧ ((wr (v3 + 1)) : Int).toNat < 1600 then (if (0 : Int) ≤ (wr (v3 + 2)) ∧ ((wr (v3 + 2)) : Int).toNat < 1600 then (if 1000 < (wr ((wr (256 * (h (o0 + 1) ((wr (v3 + 1)) : Int).toNat))) + (h (o0 + 1) ((wr (v3 + 2)) : Int).toNat))) then M_see_p94 h o0 v1 v3 else some (.inl (1, (wr (v3 + 3))))) else none) else none) else M_see_p94 h o0 v1 v3) else none)) else Option.map Sum.inr (M_see_p102 h o0 v1 v2))
noncomputable def M_see_L43  (h : jH) (o0 : Nat) (v1 : Int) (v2 : Int) (v3 : Int) : Option (Int × jH) := jloop (fun s : (Int × Int) => M_see_B43 h o0 v1 s.1 s.2) (v2, v3)
set_option maxRecDepth 20000 in
theorem t_M_see_B43 {T : jT} {xs : List Int} {d : Nat} {y : jV × jS} (hd : 1 ≤ d) {h : jH}  {o0 : Nat} {v1 : Int} {v2 : Int} {v3 : Int} {out : ((Int × Int) ⊕ (Int × jH))} (ho0 : isX12 T o0) (H : M_see_B43 h o0 v1 v2 v3 = some out) (HY : yk_M_see_L43 T xs d y h o0 v1 out) : jEv xs d (326, 43, [(2, Int.ofNat o0), (0, v1), (0, v2), (0, v3)], []) (T, h) y := by
  unfold M_see_B43 at H
  refine jEv.blk [(.iload_n 3, 1, []), (.iload_n 1, 1, [])] (by decide +kernel) (pc' := 45) (ls' := [(2, Int.ofNat o0), (0, v1), (0, v2), (0, v3)]) (st' := [(0, v1), (0, v3)]) rfl ?_
  refine jEv.ic_ge (t := 102) (show jfI 326 45 (.if_icmp .ge 57) 3 [] = true by decide +kernel) rfl H (fun c5 H => ?_) (fun c5 H => ?_)
  · refine jEv.blk [(.iload_n 2, 1, [])] (by decide +kernel) (pc' := 49) (ls' := [(2, Int.ofNat o0), (0, v1), (0, v2), (0, v3)]) (st' := [(0, v2)]) rfl ?_
    refine jEv.if_eq (t := 102) (show jfI 326 49 (.ifCond .eq 53) 3 [] = true by decide +kernel) rfl H (fun c6 H => ?_) (fun c6 H => ?_)
    · refine jmapr H HY (fun out H (HY : ykI T y out) => ?_)
      exact jEv.weak (a := [(2, Int.ofNat o0), (0, v1), (0, v2), (3, 0)]) (jles.c1 (jles.c1 (jles.c1 (jles.c0 jles.nl)))) (t_M_see_p102 (T := T) (xs := xs) (y := y) hd ho0 H HY)
    · refine jEv.blk [(.aload_n 0, 1, [])] (by decide +kernel) (pc' := 53) (ls' := [(2, Int.ofNat o0), (0, v1), (0, v2), (0, v3)]) (st' := [(2, Int.ofNat o0)]) rfl ?_
      refine jEv.gfR (o' := (o0 + 1)) (show jfI 326 53 (.getfield 7) 3 [12, 0, 5, 0, 7036] = true by decide +kernel) (isX12_L ho0) (by decide) (isX12_r0 ho0) ?_
      refine jEv.blk [(.iload_n 3, 1, [])] (by decide +kernel) (pc' := 57) (ls' := [(2, Int.ofNat o0), (0, v1), (0, v2), (0, v3)]) (st' := [(0, v3), (2, Int.ofNat (o0 + 1))]) rfl ?_
      refine jEv.ald (Or.inl ⟨rfl, rfl, rfl⟩) (show jfI 326 57 (.iaload) 1 [] = true by decide +kernel) (isX12_a0 ho0) H (fun c7 H => ?_)
      refine jEv.blk [(.bipush 16, 2, [])] (by decide +kernel) (pc' := 60) (ls' := [(2, Int.ofNat o0), (0, v1), (0, v2), (0, v3)]) (st' := [(0, 16), (0, (h (o0 + 1) (v3 : Int).toNat))]) rfl ?_
      refine jEv.ic_ge (t := 94) (show jfI 326 60 (.if_icmp .ge 34) 3 [] = true by decide +kernel) rfl H (fun c8 H => ?_) (fun c8 H => ?_)
      · refine jEv.blk [(.sipush 256, 3, []), (.aload_n 0, 1, [])] (by decide +kernel) (pc' := 67) (ls' := [(2, Int.ofNat o0), (0, v1), (0, v2), (0, v3)]) (st' := [(2, Int.ofNat o0), (0, 256)]) rfl ?_
        refine jEv.gfR (o' := (o0 + 1)) (show jfI 326 67 (.getfield 7) 3 [12, 0, 5, 0, 7036] = true by decide +kernel) (isX12_L ho0) (by decide) (isX12_r0 ho0) ?_
        refine jEv.blk [(.iload_n 3, 1, []), (.iconst 1, 1, []), (.iadd, 1, [])] (by decide +kernel) (pc' := 73) (ls' := [(2, Int.ofNat o0), (0, v1), (0, v2), (0, v3)]) (st' := [(0, (wr (v3 + 1))), (2, Int.ofNat (o0 + 1)), (0, 256)]) rfl ?_
        refine jEv.ald (Or.inl ⟨rfl, rfl, rfl⟩) (show jfI 326 73 (.iaload) 1 [] = true by decide +kernel) (isX12_a0 ho0) H (fun c9 H => ?_)
        refine jEv.blk [(.imul, 1, []), (.aload_n 0, 1, [])] (by decide +kernel) (pc' := 76) (ls' := [(2, Int.ofNat o0), (0, v1), (0, v2), (0, v3)]) (st' := [(2, Int.ofNat o0), (0, (wr (256 * (h (o0 + 1) ((wr (v3 + 1)) : Int).toNat))))]) rfl ?_
        refine jEv.gfR (o' := (o0 + 1)) (show jfI 326 76 (.getfield 7) 3 [12, 0, 5, 0, 7036] = true by decide +kernel) (isX12_L ho0) (by decide) (isX12_r0 ho0) ?_
        refine jEv.blk [(.iload_n 3, 1, []), (.iconst 2, 1, []), (.iadd, 1, [])] (by decide +kernel) (pc' := 82) (ls' := [(2, Int.ofNat o0), (0, v1), (0, v2), (0, v3)]) (st' := [(0, (wr (v3 + 2))), (2, Int.ofNat (o0 + 1)), (0, (wr (256 * (h (o0 + 1) ((wr (v3 + 1)) : Int).toNat))))]) rfl ?_
        refine jEv.ald (Or.inl ⟨rfl, rfl, rfl⟩) (show jfI 326 82 (.iaload) 1 [] = true by decide +kernel) (isX12_a0 ho0) H (fun c10 H => ?_)
        refine jEv.blk [(.iadd, 1, []), (.sipush 1000, 3, [])] (by decide +kernel) (pc' := 87) (ls' := [(2, Int.ofNat o0), (0, v1), (0, v2), (0, v3)]) (st' := [(0, 1000), (0, (wr ((wr (256 * (h (o0 + 1) ((wr (v3 + 1)) : Int).toNat))) + (h (o0 + 1) ((wr (v3 + 2)) : Int).toNat))))]) rfl ?_
        refine jEv.ic_gt (t := 94) (show jfI 326 87 (.if_icmp .gt 7) 3 [] = true by decide +kernel) rfl H (fun c11 H => ?_) (fun c11 H => ?_)
        · exact jEv.weak (a := [(2, Int.ofNat o0), (0, v1), (3, 0), (0, v3)]) (jles.c1 (jles.c1 (jles.c0 (jles.c1 jles.nl)))) (t_M_see_p94 (T := T) (xs := xs) (y := y) hd ho0 H HY)
        · refine jEv.blk [(.iconst 1, 1, [])] (by decide +kernel) (pc' := 91) (ls' := [(2, Int.ofNat o0), (0, v1), (0, v2), (0, v3)]) (st' := [(0, 1)]) rfl ?_
          refine jEv.goto (t := 95) (show jfI 326 91 (.goto 4) 3 [] = true by decide +kernel) rfl ?_
          refine jEv.blk [(.istore_n 2, 1, []), (.iinc 3 3, 3, [])] (by decide +kernel) (pc' := 99) (ls' := [(2, Int.ofNat o0), (0, v1), (0, 1), (0, (wr (v3 + 3)))]) (st' := []) rfl ?_
          refine jEv.goto (t := 43) (show jfI 326 99 (.goto (-56)) 3 [] = true by decide +kernel) rfl ?_
          exact (by cases H; exact HY)
      · exact jEv.weak (a := [(2, Int.ofNat o0), (0, v1), (3, 0), (0, v3)]) (jles.c1 (jles.c1 (jles.c0 (jles.c1 jles.nl)))) (t_M_see_p94 (T := T) (xs := xs) (y := y) hd ho0 H HY)
  · refine jmapr H HY (fun out H (HY : ykI T y out) => ?_)
    exact jEv.weak (a := [(2, Int.ofNat o0), (0, v1), (0, v2), (3, 0)]) (jles.c1 (jles.c1 (jles.c1 (jles.c0 jles.nl)))) (t_M_see_p102 (T := T) (xs := xs) (y := y) hd ho0 H HY)
theorem t_M_see_L43 {T : jT} {xs : List Int} {d : Nat} {y : jV × jS} (hd : 1 ≤ d) {h : jH}  {o0 : Nat} {v1 : Int} {v2 : Int} {v3 : Int} {out : (Int × jH)} (ho0 : isX12 T o0) (H : M_see_L43 h o0 v1 v2 v3 = some out) (HY : ykI T y out) : jEv xs d (326, 43, [(2, Int.ofNat o0), (0, v1), (0, v2), (0, v3)], []) (T, h) y :=
  jloop_sound (G := fun s : (Int × Int) => jEv xs d (326, 43, [(2, Int.ofNat o0), (0, v1), (0, s.1), (0, s.2)], []) (T, h) y) (K := yk_M_see_L43 T xs d y h o0 v1) (fun s out H HY => t_M_see_B43 hd ho0 H HY) (fun s' hg => hg) (s := (v2, v3)) H HY
set_option maxRecDepth 20000 in
noncomputable def M_see_p40  (h : jH) (o0 : Nat) (v1 : Int) (vs0 : Int) : Option (Int × jH) := M_see_L43 h o0 v1 vs0 0
set_option maxRecDepth 20000 in
theorem t_M_see_p40 {T : jT} {xs : List Int} {d : Nat} {y : jV × jS} (hd : 1 ≤ d) {h : jH}  {o0 : Nat} {v1 : Int} {vs0 : Int} {out : (Int × jH)} (ho0 : isX12 T o0) (H : M_see_p40 h o0 v1 vs0 = some out) (HY : ykI T y out) : jEv xs d (326, 40, [(2, Int.ofNat o0), (0, v1), (3, 0), (3, 0)], [(0, vs0)]) (T, h) y := by
  unfold M_see_p40 at H
  refine jEv.blk [(.istore_n 2, 1, []), (.iconst 0, 1, []), (.istore_n 3, 1, [])] (by decide +kernel) (pc' := 43) (ls' := [(2, Int.ofNat o0), (0, v1), (0, vs0), (0, 0)]) (st' := []) rfl ?_
  exact t_M_see_L43 (T := T) (xs := xs) (y := y) hd ho0 H HY
set_option maxRecDepth 20000 in
noncomputable def M_see_p39  (h : jH) (o0 : Nat) (v1 : Int) : Option (Int × jH) := M_see_p40 h o0 v1 0
set_option maxRecDepth 20000 in
theorem t_M_see_p39 {T : jT} {xs : List Int} {d : Nat} {y : jV × jS} (hd : 1 ≤ d) {h : jH}  {o0 : Nat} {v1 : Int} {out : (Int × jH)} (ho0 : isX12 T o0) (H : M_see_p39 h o0 v1 = some out) (HY : ykI T y out) : jEv xs d (326, 39, [(2, Int.ofNat o0), (0, v1), (3, 0), (3, 0)], []) (T, h) y := by
  unfold M_see_p39 at H
  refine jEv.blk [(.iconst 0, 1, [])] (by decide +kernel) (pc' := 40) (ls' := [(2, Int.ofNat o0), (0, v1), (3, 0), (3, 0)]) (st' := [(0, 0)]) rfl ?_
  exact t_M_see_p40 (T := T) (xs := xs) (y := y) hd ho0 H HY
set_option maxRecDepth 20000 in
noncomputable def M_see  (h : jH) (o0 : Nat) : Option (Int × jH) := (if ((jup h o0 1 0) o0 43) = 0 then M_see_p39 (jup h o0 1 0) o0 (h o0 1) else (if 0 < (h o0 1) then (if (Int.tmod (h o0 1) 3) = 0 then (if 16 < (wr (Int.tdiv (h o0 1) 3)) then M_see_p39 (jup h o0 1 0) o0 (h o0 1) else M_see_p40 (jup h o0 1 0) o0 (h o0 1) 1) else M_see_p39 (jup h o0 1 0) o0 (h o0 1)) else M_see_p39 (jup h o0 1 0) o0 (h o0 1)))
set_option maxRecDepth 20000 in
theorem t_M_see {T : jT} {xs : List Int} {h : jH}  {o0 : Nat} {out : (Int × jH)} (ho0 : isX12 T o0) (H : M_see h o0 = some out) : jEm xs 2 326 [(2, Int.ofNat o0)] (T, h) ((0, out.1), (T, out.2)) := by
  have hd : 1 ≤ 1 := Nat.le_refl _
  obtain ⟨y, ey⟩ : ∃ y : jV × jS, y = ((0, out.1), (T, out.2)) := ⟨_, rfl⟩
  rw [← ey]
  have HY : ykI T y out := ey
  refine jEm.ent (n := 4) (by decide +kernel) (Nat.le_of_ble_eq_true rfl) ?_
  show jEv xs 1 (326, 0, [(2, Int.ofNat o0), (3, 0), (3, 0), (3, 0)], []) (T, h) y
  unfold M_see at H
  refine jEv.blk [(.aload_n 0, 1, [])] (by decide +kernel) (pc' := 1) (ls' := [(2, Int.ofNat o0), (3, 0), (3, 0), (3, 0)]) (st' := [(2, Int.ofNat o0)]) rfl ?_
  refine jEv.gfI (show jfI 326 1 (.getfield 229) 3 [12, 1, 0, 0, 7037] = true by decide +kernel) (isX12_L ho0) (by decide) ?_
  refine jEv.blk [(.istore_n 1, 1, []), (.aload_n 0, 1, []), (.iconst 0, 1, [])] (by decide +kernel) (pc' := 7) (ls' := [(2, Int.ofNat o0), (0, (h o0 1)), (3, 0), (3, 0)]) (st' := [(0, 0), (2, Int.ofNat o0)]) rfl ?_
  refine jEv.pfI (show jfI 326 7 (.putfield 229) 3 [12, 1, 0, 0, 7037] = true by decide +kernel) (isX12_L ho0) (by decide) ?_
  refine jEv.blk [(.aload_n 0, 1, [])] (by decide +kernel) (pc' := 11) (ls' := [(2, Int.ofNat o0), (0, (h o0 1)), (3, 0), (3, 0)]) (st' := [(2, Int.ofNat o0)]) rfl ?_
  refine jEv.gfI (show jfI 326 11 (.getfield 340) 3 [12, 43, 0, 1, 7079] = true by decide +kernel) (isX12_L ho0) (by decide) ?_
  refine jEv.if_eq (t := 39) (show jfI 326 14 (.ifCond .eq 25) 3 [] = true by decide +kernel) rfl H (fun c1 H => ?_) (fun c1 H => ?_)
  · exact t_M_see_p39 (T := T) (xs := xs) (y := y) hd ho0 H HY
  · refine jEv.blk [(.iload_n 1, 1, [])] (by decide +kernel) (pc' := 18) (ls' := [(2, Int.ofNat o0), (0, (h o0 1)), (3, 0), (3, 0)]) (st' := [(0, (h o0 1))]) rfl ?_
    refine jEv.if_le (t := 39) (show jfI 326 18 (.ifCond .le 21) 3 [] = true by decide +kernel) rfl H (fun c2 H => ?_) (fun c2 H => ?_)
    · refine jEv.blk [(.iload_n 1, 1, []), (.iconst 3, 1, [])] (by decide +kernel) (pc' := 23) (ls' := [(2, Int.ofNat o0), (0, (h o0 1)), (3, 0), (3, 0)]) (st' := [(0, 3), (0, (h o0 1))]) rfl ?_
      refine jEv.irem (show jfI 326 23 (.irem) 1 [] = true by decide +kernel) (by decide) ?_
      refine jEv.if_ne (t := 39) (show jfI 326 24 (.ifCond .ne 15) 3 [] = true by decide +kernel) rfl H (fun c3 H => ?_) (fun c3 H => ?_)
      · refine jEv.blk [(.iload_n 1, 1, []), (.iconst 3, 1, [])] (by decide +kernel) (pc' := 29) (ls' := [(2, Int.ofNat o0), (0, (h o0 1)), (3, 0), (3, 0)]) (st' := [(0, 3), (0, (h o0 1))]) rfl ?_
        refine jEv.idiv (show jfI 326 29 (.idiv) 1 [] = true by decide +kernel) (by decide) ?_
        refine jEv.blk [(.bipush 16, 2, [])] (by decide +kernel) (pc' := 32) (ls' := [(2, Int.ofNat o0), (0, (h o0 1)), (3, 0), (3, 0)]) (st' := [(0, 16), (0, (wr (Int.tdiv (h o0 1) 3)))]) rfl ?_
        refine jEv.ic_gt (t := 39) (show jfI 326 32 (.if_icmp .gt 7) 3 [] = true by decide +kernel) rfl H (fun c4 H => ?_) (fun c4 H => ?_)
        · exact t_M_see_p39 (T := T) (xs := xs) (y := y) hd ho0 H HY
        · refine jEv.blk [(.iconst 1, 1, [])] (by decide +kernel) (pc' := 36) (ls' := [(2, Int.ofNat o0), (0, (h o0 1)), (3, 0), (3, 0)]) (st' := [(0, 1)]) rfl ?_
          refine jEv.goto (t := 40) (show jfI 326 36 (.goto 4) 3 [] = true by decide +kernel) rfl ?_
          exact t_M_see_p40 (T := T) (xs := xs) (y := y) hd ho0 H HY
      · exact t_M_see_p39 (T := T) (xs := xs) (y := y) hd ho0 H HY
    · exact t_M_see_p39 (T := T) (xs := xs) (y := y) hd ho0 H HY
def yk_M_isAsSeen_L2 (T : jT) (xs : List Int) (d : Nat) (y : jV × jS) (h : jH)  (o0 : Nat) (v1 : Int) : (Int ⊕ Int) → Prop
  | .inl v2 => jEv xs d (329, 2, [(2, Int.ofNat o0), (0, v1), (0, v2)], []) (T, h) y
  | .inr o => ykIp T h y o
set_option maxRecDepth 20000 in
noncomputable def M_isAsSeen_B2  (h : jH) (o0 : Nat) (v1 : Int) (v2 : Int) : Option (Int ⊕ Int) := (if v2 < (h o0 66) then (if (0 : Int) ≤ (wr (2 * v2)) ∧ ((wr (2 * v2)) : Int).toNat < 32 then (if (0 : Int) ≤ (wr ((wr (16 * v1)) + (h (o0 + 38) ((wr (2 * v2)) : Int).toNat))) ∧ ((wr ((wr (16 * v1)) + (h (o0 + 38) ((wr (2 * v2)) : Int).toNat))) : Int).toNat < 8208 then (if (0 : Int) ≤ (wr ((wr (2 * v2)) + 1)) ∧ ((wr ((wr (2 * v2)) + 1)) : Int).toNat < 32 then (if (h (o0 + 40) ((wr ((wr (16 * v1)) + (h (o0 + 38) ((wr (2 * v2)) : Int).toNat))) : Int).toNat) = (h (o0 + 38) ((wr ((wr (2 * v2)) + 1)) : Int).toNat) then some (.inl ((wr (v2 + 1)))) else Option.map Sum.inr (some 0)) else none) else none) else none) else Option.map Sum.inr (some 1))
noncomputable def M_isAsSeen_L2  (h : jH) (o0 : Nat) (v1 : Int) (v2 : Int) : Option Int := jloop (fun s : Int => M_isAsSeen_B2 h o0 v1 s) (v2)
set_option maxRecDepth 20000 in
theorem t_M_isAsSeen_B2 {T : jT} {xs : List Int} {d : Nat} {y : jV × jS} (hd : 0 ≤ d) {h : jH}  {o0 : Nat} {v1 : Int} {v2 : Int} {out : (Int ⊕ Int)} (ho0 : isX12 T o0) (H : M_isAsSeen_B2 h o0 v1 v2 = some out) (HY : yk_M_isAsSeen_L2 T xs d y h o0 v1 out) : jEv xs d (329, 2, [(2, Int.ofNat o0), (0, v1), (0, v2)], []) (T, h) y := by
  unfold M_isAsSeen_B2 at H
  refine jEv.blk [(.iload_n 2, 1, []), (.aload_n 0, 1, [])] (by decide +kernel) (pc' := 4) (ls' := [(2, Int.ofNat o0), (0, v1), (0, v2)]) (st' := [(2, Int.ofNat o0), (0, v2)]) rfl ?_
  refine jEv.gfI (show jfI 329 4 (.getfield 350) 3 [12, 66, 0, 0, 7102] = true by decide +kernel) (isX12_L ho0) (by decide) ?_
  refine jEv.ic_ge (t := 49) (show jfI 329 7 (.if_icmp .ge 42) 3 [] = true by decide +kernel) rfl H (fun c1 H => ?_) (fun c1 H => ?_)
  · refine jEv.blk [(.aload_n 0, 1, [])] (by decide +kernel) (pc' := 11) (ls' := [(2, Int.ofNat o0), (0, v1), (0, v2)]) (st' := [(2, Int.ofNat o0)]) rfl ?_
    refine jEv.gfR (o' := (o0 + 40)) (show jfI 329 11 (.getfield 136) 3 [12, 70, 5, 0, 7106] = true by decide +kernel) (isX12_L ho0) (by decide) (isX12_r70 ho0) ?_
    refine jEv.blk [(.bipush 16, 2, []), (.iload_n 1, 1, []), (.imul, 1, []), (.aload_n 0, 1, [])] (by decide +kernel) (pc' := 19) (ls' := [(2, Int.ofNat o0), (0, v1), (0, v2)]) (st' := [(2, Int.ofNat o0), (0, (wr (16 * v1))), (2, Int.ofNat (o0 + 40))]) rfl ?_
    refine jEv.gfR (o' := (o0 + 38)) (show jfI 329 19 (.getfield 129) 3 [12, 67, 5, 0, 7103] = true by decide +kernel) (isX12_L ho0) (by decide) (isX12_r67 ho0) ?_
    refine jEv.blk [(.iconst 2, 1, []), (.iload_n 2, 1, []), (.imul, 1, [])] (by decide +kernel) (pc' := 25) (ls' := [(2, Int.ofNat o0), (0, v1), (0, v2)]) (st' := [(0, (wr (2 * v2))), (2, Int.ofNat (o0 + 38)), (0, (wr (16 * v1))), (2, Int.ofNat (o0 + 40))]) rfl ?_
    refine jEv.ald (Or.inl ⟨rfl, rfl, rfl⟩) (show jfI 329 25 (.iaload) 1 [] = true by decide +kernel) (isX12_a67 ho0) H (fun c2 H => ?_)
    refine jEv.blk [(.iadd, 1, [])] (by decide +kernel) (pc' := 27) (ls' := [(2, Int.ofNat o0), (0, v1), (0, v2)]) (st' := [(0, (wr ((wr (16 * v1)) + (h (o0 + 38) ((wr (2 * v2)) : Int).toNat)))), (2, Int.ofNat (o0 + 40))]) rfl ?_
    refine jEv.ald (Or.inl ⟨rfl, rfl, rfl⟩) (show jfI 329 27 (.iaload) 1 [] = true by decide +kernel) (isX12_a70 ho0) H (fun c3 H => ?_)
    refine jEv.blk [(.aload_n 0, 1, [])] (by decide +kernel) (pc' := 29) (ls' := [(2, Int.ofNat o0), (0, v1), (0, v2)]) (st' := [(2, Int.ofNat o0), (0, (h (o0 + 40) ((wr ((wr (16 * v1)) + (h (o0 + 38) ((wr (2 * v2)) : Int).toNat))) : Int).toNat))]) rfl ?_
    refine jEv.gfR (o' := (o0 + 38)) (show jfI 329 29 (.getfield 129) 3 [12, 67, 5, 0, 7103] = true by decide +kernel) (isX12_L ho0) (by decide) (isX12_r67 ho0) ?_
    refine jEv.blk [(.iconst 2, 1, []), (.iload_n 2, 1, []), (.imul, 1, []), (.iconst 1, 1, []), (.iadd, 1, [])] (by decide +kernel) (pc' := 37) (ls' := [(2, Int.ofNat o0), (0, v1), (0, v2)]) (st' := [(0, (wr ((wr (2 * v2)) + 1))), (2, Int.ofNat (o0 + 38)), (0, (h (o0 + 40) ((wr ((wr (16 * v1)) + (h (o0 + 38) ((wr (2 * v2)) : Int).toNat))) : Int).toNat))]) rfl ?_
    refine jEv.ald (Or.inl ⟨rfl, rfl, rfl⟩) (show jfI 329 37 (.iaload) 1 [] = true by decide +kernel) (isX12_a67 ho0) H (fun c4 H => ?_)
    refine jEv.ic_eq (t := 43) (show jfI 329 38 (.if_icmp .eq 5) 3 [] = true by decide +kernel) rfl H (fun c5 H => ?_) (fun c5 H => ?_)
    · refine jEv.blk [(.iinc 2 1, 3, [])] (by decide +kernel) (pc' := 46) (ls' := [(2, Int.ofNat o0), (0, v1), (0, (wr (v2 + 1)))]) (st' := []) rfl ?_
      refine jEv.goto (t := 2) (show jfI 329 46 (.goto (-44)) 3 [] = true by decide +kernel) rfl ?_
      exact (by cases H; exact HY)
    · refine jmapr H HY (fun out H (HY : ykIp T h y out) => ?_)
      refine jEv.blk [(.iconst 0, 1, [])] (by decide +kernel) (pc' := 42) (ls' := [(2, Int.ofNat o0), (0, v1), (0, v2)]) (st' := [(0, 0)]) rfl ?_
      exact jEv.retZ (show jfI 329 42 (.ireturn) 1 [] = true by decide +kernel) (by decide +kernel) (by decide) (by cases H; exact HY)
  · refine jmapr H HY (fun out H (HY : ykIp T h y out) => ?_)
    refine jEv.blk [(.iconst 1, 1, [])] (by decide +kernel) (pc' := 50) (ls' := [(2, Int.ofNat o0), (0, v1), (0, v2)]) (st' := [(0, 1)]) rfl ?_
    exact jEv.retZ (show jfI 329 50 (.ireturn) 1 [] = true by decide +kernel) (by decide +kernel) (by decide) (by cases H; exact HY)
theorem t_M_isAsSeen_L2 {T : jT} {xs : List Int} {d : Nat} {y : jV × jS} (hd : 0 ≤ d) {h : jH}  {o0 : Nat} {v1 : Int} {v2 : Int} {out : Int} (ho0 : isX12 T o0) (H : M_isAsSeen_L2 h o0 v1 v2 = some out) (HY : ykIp T h y out) : jEv xs d (329, 2, [(2, Int.ofNat o0), (0, v1), (0, v2)], []) (T, h) y :=
  jloop_sound (G := fun s : Int => jEv xs d (329, 2, [(2, Int.ofNat o0), (0, v1), (0, s)], []) (T, h) y) (K := yk_M_isAsSeen_L2 T xs d y h o0 v1) (fun s out H HY => t_M_isAsSeen_B2 hd ho0 H HY) (fun s' hg => hg) (s := (v2)) H HY
set_option maxRecDepth 20000 in
noncomputable def M_isAsSeen  (h : jH) (o0 : Nat) (v1 : Int) : Option Int := M_isAsSeen_L2 h o0 v1 0
set_option maxRecDepth 20000 in
theorem t_M_isAsSeen {T : jT} {xs : List Int} {h : jH}  {o0 : Nat} {v1 : Int} {out : Int} (ho0 : isX12 T o0) (H : M_isAsSeen h o0 v1 = some out) : jEm xs 1 329 [(2, Int.ofNat o0), (0, v1)] (T, h) ((0, out), (T, h)) := by
  have hd : 0 ≤ 0 := Nat.le_refl _
  obtain ⟨y, ey⟩ : ∃ y : jV × jS, y = ((0, out), (T, h)) := ⟨_, rfl⟩
  rw [← ey]
  have HY : ykIp T h y out := ey
  refine jEm.ent (n := 3) (by decide +kernel) (Nat.le_of_ble_eq_true rfl) ?_
  show jEv xs 0 (329, 0, [(2, Int.ofNat o0), (0, v1), (3, 0)], []) (T, h) y
  unfold M_isAsSeen at H
  refine jEv.blk [(.iconst 0, 1, []), (.istore_n 2, 1, [])] (by decide +kernel) (pc' := 2) (ls' := [(2, Int.ofNat o0), (0, v1), (0, 0)]) (st' := []) rfl ?_
  exact t_M_isAsSeen_L2 (T := T) (xs := xs) (y := y) hd ho0 H HY
