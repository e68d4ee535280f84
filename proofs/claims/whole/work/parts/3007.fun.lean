/-! methods as functions -/
def yk_M_frameGoes_L144 (T : jT) (xs : List Int) (d : Nat) (y : jV × jS)  (o0 : Nat) : ((Int × jH) ⊕ jH) → Prop
  | .inl (v7, h) => jEv xs d (302, 144, [(2, Int.ofNat o0), (3, 0), (3, 0), (3, 0), (3, 0), (3, 0), (3, 0), (0, v7)], []) (T, h) y
  | .inr o => ykV T y o
def yk_M_frameGoes_L106 (T : jT) (xs : List Int) (d : Nat) (y : jV × jS) (h : jH)  (o0 : Nat) : ((Int × Int) ⊕ jH) → Prop
  | .inl (v6, v7) => jEv xs d (302, 106, [(2, Int.ofNat o0), (3, 0), (3, 0), (3, 0), (3, 0), (3, 0), (0, v6), (0, v7)], []) (T, h) y
  | .inr o => ykV T y o
def yk_M_frameGoes_L74 (T : jT) (xs : List Int) (d : Nat) (y : jV × jS)  (o0 : Nat) (v1 : Int) (v2 : Int) (v3 : Int) : ((Int × jH) ⊕ jH) → Prop
  | .inl (v6, h) => jEv xs d (302, 74, [(2, Int.ofNat o0), (0, v1), (0, v2), (0, v3), (3, 0), (3, 0), (0, v6), (3, 0)], []) (T, h) y
  | .inr o => ykV T y o
set_option maxRecDepth 20000 in
noncomputable def M_frameGoes_B144  (h : jH) (o0 : Nat) (v7 : Int) : Option ((Int × jH) ⊕ jH) := (if v7 < (h o0 50) then (if (0 : Int) ≤ v7 ∧ (v7 : Int).toNat < 64 then Option.bind (M_goesOut h o0 (h (o0 + 34) (v7 : Int).toNat)) (fun b18 => some (.inl ((wr (v7 + 1)), b18))) else none) else Option.map Sum.inr (some h))
noncomputable def M_frameGoes_L144  (h : jH) (o0 : Nat) (v7 : Int) : Option jH := jloop (fun s : (Int × jH) => M_frameGoes_B144 s.2 o0 s.1) (v7, h)
set_option maxRecDepth 20000 in
theorem t_M_frameGoes_B144 {T : jT} {xs : List Int} {d : Nat} {y : jV × jS} (hd : 2 ≤ d) {h : jH}  {o0 : Nat} {v7 : Int} {out : ((Int × jH) ⊕ jH)} (ho0 : isX12 T o0) (H : M_frameGoes_B144 h o0 v7 = some out) (HY : yk_M_frameGoes_L144 T xs d y o0 out) : jEv xs d (302, 144, [(2, Int.ofNat o0), (3, 0), (3, 0), (3, 0), (3, 0), (3, 0), (3, 0), (0, v7)], []) (T, h) y := by
  unfold M_frameGoes_B144 at H
  refine jEv.blk [(.iload 7, 2, []), (.aload_n 0, 1, [])] (by decide +kernel) (pc' := 147) (ls' := [(2, Int.ofNat o0), (3, 0), (3, 0), (3, 0), (3, 0), (3, 0), (3, 0), (0, v7)]) (st' := [(2, Int.ofNat o0), (0, v7)]) rfl ?_
  refine jEv.gfI (show jfI 302 147 (.getfield 411) 3 [12, 50, 0, 0, 7086] = true by decide +kernel) (isX12_L ho0) (by decide) ?_
  refine jEv.ic_ge (t := 170) (show jfI 302 150 (.if_icmp .ge 20) 3 [] = true by decide +kernel) rfl H (fun c16 H => ?_) (fun c16 H => ?_)
  · refine jEv.blk [(.aload_n 0, 1, []), (.aload_n 0, 1, [])] (by decide +kernel) (pc' := 155) (ls' := [(2, Int.ofNat o0), (3, 0), (3, 0), (3, 0), (3, 0), (3, 0), (3, 0), (0, v7)]) (st' := [(2, Int.ofNat o0), (2, Int.ofNat o0)]) rfl ?_
    refine jEv.gfR (o' := (o0 + 34)) (show jfI 302 155 (.getfield 114) 3 [12, 49, 5, 0, 7085] = true by decide +kernel) (isX12_L ho0) (by decide) (isX12_r49 ho0) ?_
    refine jEv.blk [(.iload 7, 2, [])] (by decide +kernel) (pc' := 160) (ls' := [(2, Int.ofNat o0), (3, 0), (3, 0), (3, 0), (3, 0), (3, 0), (3, 0), (0, v7)]) (st' := [(0, v7), (2, Int.ofNat (o0 + 34)), (2, Int.ofNat o0)]) rfl ?_
    refine jEv.ald (Or.inl ⟨rfl, rfl, rfl⟩) (show jfI 302 160 (.iaload) 1 [] = true by decide +kernel) (isX12_a49 ho0) H (fun c17 H => ?_)
    refine jbind H (fun b18 Hb18 H => ?_)
    refine jEv.calV (st' := []) (show jfI 302 161 (.invokevirtual 420) 3 [1, 301, 1, 10050] = true by decide +kernel) rfl (Or.inl rfl) rfl (Nat.le_of_ble_eq_true rfl) (by decide +kernel) (by decide) (isX12_L ho0) ((t_M_goesOut (T := T) (xs := xs) ho0 Hb18).mono (jKle 1 hd)) rfl ?_
    refine jEv.blk [(.iinc 7 1, 3, [])] (by decide +kernel) (pc' := 167) (ls' := [(2, Int.ofNat o0), (3, 0), (3, 0), (3, 0), (3, 0), (3, 0), (3, 0), (0, (wr (v7 + 1)))]) (st' := []) rfl ?_
    refine jEv.goto (t := 144) (show jfI 302 167 (.goto (-23)) 3 [] = true by decide +kernel) rfl ?_
    exact (by cases H; exact HY)
  · refine jmapr H HY (fun out H (HY : ykV T y out) => ?_)
    exact jEv.retV (show jfI 302 170 (.return_) 1 [] = true by decide +kernel) (by decide +kernel) (by cases H; exact HY)
theorem t_M_frameGoes_L144 {T : jT} {xs : List Int} {d : Nat} {y : jV × jS} (hd : 2 ≤ d) {h : jH}  {o0 : Nat} {v7 : Int} {out : jH} (ho0 : isX12 T o0) (H : M_frameGoes_L144 h o0 v7 = some out) (HY : ykV T y out) : jEv xs d (302, 144, [(2, Int.ofNat o0), (3, 0), (3, 0), (3, 0), (3, 0), (3, 0), (3, 0), (0, v7)], []) (T, h) y :=
  jloop_sound (G := fun s : (Int × jH) => jEv xs d (302, 144, [(2, Int.ofNat o0), (3, 0), (3, 0), (3, 0), (3, 0), (3, 0), (3, 0), (0, s.1)], []) (T, s.2) y) (K := yk_M_frameGoes_L144 T xs d y o0) (fun s out H HY => t_M_frameGoes_B144 hd ho0 H HY) (fun s' hg => hg) (s := (v7, h)) H HY
set_option maxRecDepth 20000 in
noncomputable def M_frameGoes_B106  (h : jH) (o0 : Nat) (v6 : Int) (v7 : Int) : Option ((Int × Int) ⊕ jH) := (if v7 < (h o0 50) then (if (0 : Int) ≤ v7 ∧ (v7 : Int).toNat < 64 then Option.bind (M_checkBy v6 (h (o0 + 34) (v7 : Int).toNat)) (fun b14 => some (.inl (b14, (wr (v7 + 1))))) else none) else Option.map Sum.inr (Option.bind (M_goesOut h o0 v6) (fun b15 => M_frameGoes_L144 b15 o0 0)))
noncomputable def M_frameGoes_L106  (h : jH) (o0 : Nat) (v6 : Int) (v7 : Int) : Option jH := jloop (fun s : (Int × Int) => M_frameGoes_B106 h o0 s.1 s.2) (v6, v7)
set_option maxRecDepth 20000 in
theorem t_M_frameGoes_B106 {T : jT} {xs : List Int} {d : Nat} {y : jV × jS} (hd : 2 ≤ d) {h : jH}  {o0 : Nat} {v6 : Int} {v7 : Int} {out : ((Int × Int) ⊕ jH)} (ho0 : isX12 T o0) (H : M_frameGoes_B106 h o0 v6 v7 = some out) (HY : yk_M_frameGoes_L106 T xs d y h o0 out) : jEv xs d (302, 106, [(2, Int.ofNat o0), (3, 0), (3, 0), (3, 0), (3, 0), (3, 0), (0, v6), (0, v7)], []) (T, h) y := by
  unfold M_frameGoes_B106 at H
  refine jEv.blk [(.iload 7, 2, []), (.aload_n 0, 1, [])] (by decide +kernel) (pc' := 109) (ls' := [(2, Int.ofNat o0), (3, 0), (3, 0), (3, 0), (3, 0), (3, 0), (0, v6), (0, v7)]) (st' := [(2, Int.ofNat o0), (0, v7)]) rfl ?_
  refine jEv.gfI (show jfI 302 109 (.getfield 411) 3 [12, 50, 0, 0, 7086] = true by decide +kernel) (isX12_L ho0) (by decide) ?_
  refine jEv.ic_ge (t := 135) (show jfI 302 112 (.if_icmp .ge 23) 3 [] = true by decide +kernel) rfl H (fun c12 H => ?_) (fun c12 H => ?_)
  · refine jEv.blk [(.iload 6, 2, []), (.aload_n 0, 1, [])] (by decide +kernel) (pc' := 118) (ls' := [(2, Int.ofNat o0), (3, 0), (3, 0), (3, 0), (3, 0), (3, 0), (0, v6), (0, v7)]) (st' := [(2, Int.ofNat o0), (0, v6)]) rfl ?_
    refine jEv.gfR (o' := (o0 + 34)) (show jfI 302 118 (.getfield 114) 3 [12, 49, 5, 0, 7085] = true by decide +kernel) (isX12_L ho0) (by decide) (isX12_r49 ho0) ?_
    refine jEv.blk [(.iload 7, 2, [])] (by decide +kernel) (pc' := 123) (ls' := [(2, Int.ofNat o0), (3, 0), (3, 0), (3, 0), (3, 0), (3, 0), (0, v6), (0, v7)]) (st' := [(0, v7), (2, Int.ofNat (o0 + 34)), (0, v6)]) rfl ?_
    refine jEv.ald (Or.inl ⟨rfl, rfl, rfl⟩) (show jfI 302 123 (.iaload) 1 [] = true by decide +kernel) (isX12_a49 ho0) H (fun c13 H => ?_)
    refine jbind H (fun b14 Hb14 H => ?_)
    refine jEv.calS (st' := [(0, b14)]) (show jfI 302 124 (.invokestatic 384) 3 [3, 245, 2, 9061] = true by decide +kernel) rfl (Or.inl rfl) rfl (Nat.le_of_ble_eq_true rfl) ((t_M_checkBy (T := T) (xs := xs)  Hb14).mono (jKle 1 hd)) rfl ?_
    refine jEv.blk [(.istore 6, 2, []), (.iinc 7 1, 3, [])] (by decide +kernel) (pc' := 132) (ls' := [(2, Int.ofNat o0), (3, 0), (3, 0), (3, 0), (3, 0), (3, 0), (0, b14), (0, (wr (v7 + 1)))]) (st' := []) rfl ?_
    refine jEv.goto (t := 106) (show jfI 302 132 (.goto (-26)) 3 [] = true by decide +kernel) rfl ?_
    exact (by cases H; exact HY)
  · refine jmapr H HY (fun out H (HY : ykV T y out) => ?_)
    refine jEv.blk [(.aload_n 0, 1, []), (.iload 6, 2, [])] (by decide +kernel) (pc' := 138) (ls' := [(2, Int.ofNat o0), (3, 0), (3, 0), (3, 0), (3, 0), (3, 0), (0, v6), (0, v7)]) (st' := [(0, v6), (2, Int.ofNat o0)]) rfl ?_
    refine jbind H (fun b15 Hb15 H => ?_)
    refine jEv.calV (st' := []) (show jfI 302 138 (.invokevirtual 420) 3 [1, 301, 1, 10050] = true by decide +kernel) rfl (Or.inl rfl) rfl (Nat.le_of_ble_eq_true rfl) (by decide +kernel) (by decide) (isX12_L ho0) ((t_M_goesOut (T := T) (xs := xs) ho0 Hb15).mono (jKle 1 hd)) rfl ?_
    refine jEv.blk [(.iconst 0, 1, []), (.istore 7, 2, [])] (by decide +kernel) (pc' := 144) (ls' := [(2, Int.ofNat o0), (3, 0), (3, 0), (3, 0), (3, 0), (3, 0), (0, v6), (0, 0)]) (st' := []) rfl ?_
    exact jEv.weak (a := [(2, Int.ofNat o0), (3, 0), (3, 0), (3, 0), (3, 0), (3, 0), (3, 0), (0, 0)]) (jles.c1 (jles.c0 (jles.c0 (jles.c0 (jles.c0 (jles.c0 (jles.c0 (jles.c1 jles.nl)))))))) (t_M_frameGoes_L144 (T := T) (xs := xs) (y := y) hd ho0 H HY)
theorem t_M_frameGoes_L106 {T : jT} {xs : List Int} {d : Nat} {y : jV × jS} (hd : 2 ≤ d) {h : jH}  {o0 : Nat} {v6 : Int} {v7 : Int} {out : jH} (ho0 : isX12 T o0) (H : M_frameGoes_L106 h o0 v6 v7 = some out) (HY : ykV T y out) : jEv xs d (302, 106, [(2, Int.ofNat o0), (3, 0), (3, 0), (3, 0), (3, 0), (3, 0), (0, v6), (0, v7)], []) (T, h) y :=
  jloop_sound (G := fun s : (Int × Int) => jEv xs d (302, 106, [(2, Int.ofNat o0), (3, 0), (3, 0), (3, 0), (3, 0), (3, 0), (0, s.1), (0, s.2)], []) (T, h) y) (K := yk_M_frameGoes_L106 T xs d y h o0) (fun s out H HY => t_M_frameGoes_B106 hd ho0 H HY) (fun s' hg => hg) (s := (v6, v7)) H HY
set_option maxRecDepth 20000 in
noncomputable def M_frameGoes_B74  (h : jH) (o0 : Nat) (v1 : Int) (v2 : Int) (v3 : Int) (v6 : Int) : Option ((Int × jH) ⊕ jH) := (if v6 < v3 then Option.bind (M_payloadAt h o0 v1 (wr (v2 + v6))) (fun b10 => Option.bind (M_frames h o0 b10) (fun b11 => some (.inl ((wr (v6 + 1)), b11)))) else Option.map Sum.inr (M_frameGoes_L106 h o0 7 0))
noncomputable def M_frameGoes_L74  (h : jH) (o0 : Nat) (v1 : Int) (v2 : Int) (v3 : Int) (v6 : Int) : Option jH := jloop (fun s : (Int × jH) => M_frameGoes_B74 s.2 o0 v1 v2 v3 s.1) (v6, h)
set_option maxRecDepth 20000 in
theorem t_M_frameGoes_B74 {T : jT} {xs : List Int} {d : Nat} {y : jV × jS} (hd : 2 ≤ d) {h : jH}  {o0 : Nat} {v1 : Int} {v2 : Int} {v3 : Int} {v6 : Int} {out : ((Int × jH) ⊕ jH)} (ho0 : isX12 T o0) (H : M_frameGoes_B74 h o0 v1 v2 v3 v6 = some out) (HY : yk_M_frameGoes_L74 T xs d y o0 v1 v2 v3 out) : jEv xs d (302, 74, [(2, Int.ofNat o0), (0, v1), (0, v2), (0, v3), (3, 0), (3, 0), (0, v6), (3, 0)], []) (T, h) y := by
  unfold M_frameGoes_B74 at H
  refine jEv.blk [(.iload 6, 2, []), (.iload_n 3, 1, [])] (by decide +kernel) (pc' := 77) (ls' := [(2, Int.ofNat o0), (0, v1), (0, v2), (0, v3), (3, 0), (3, 0), (0, v6), (3, 0)]) (st' := [(0, v3), (0, v6)]) rfl ?_
  refine jEv.ic_ge (t := 99) (show jfI 302 77 (.if_icmp .ge 22) 3 [] = true by decide +kernel) rfl H (fun c9 H => ?_) (fun c9 H => ?_)
  · refine jEv.blk [(.aload_n 0, 1, []), (.aload_n 0, 1, []), (.iload_n 1, 1, []), (.iload_n 2, 1, []), (.iload 6, 2, []), (.iadd, 1, [])] (by decide +kernel) (pc' := 87) (ls' := [(2, Int.ofNat o0), (0, v1), (0, v2), (0, v3), (3, 0), (3, 0), (0, v6), (3, 0)]) (st' := [(0, (wr (v2 + v6))), (0, v1), (2, Int.ofNat o0), (2, Int.ofNat o0)]) rfl ?_
    refine jbind H (fun b10 Hb10 H => ?_)
    refine jEv.calV (st' := [(0, b10), (2, Int.ofNat o0)]) (show jfI 302 87 (.invokevirtual 417) 3 [1, 304, 2, 10062] = true by decide +kernel) rfl (Or.inl rfl) rfl (Nat.le_of_ble_eq_true rfl) (by decide +kernel) (by decide) (isX12_L ho0) ((t_M_payloadAt (T := T) (xs := xs) ho0 Hb10).mono (jKle 2 hd)) rfl ?_
    refine jbind H (fun b11 Hb11 H => ?_)
    refine jEv.calV (st' := []) (show jfI 302 90 (.invokevirtual 414) 3 [1, 303, 1, 10058] = true by decide +kernel) rfl (Or.inl rfl) rfl (Nat.le_of_ble_eq_true rfl) (by decide +kernel) (by decide) (isX12_L ho0) ((t_M_frames (T := T) (xs := xs) ho0 Hb11).mono (jKle 1 hd)) rfl ?_
    refine jEv.blk [(.iinc 6 1, 3, [])] (by decide +kernel) (pc' := 96) (ls' := [(2, Int.ofNat o0), (0, v1), (0, v2), (0, v3), (3, 0), (3, 0), (0, (wr (v6 + 1))), (3, 0)]) (st' := []) rfl ?_
    refine jEv.goto (t := 74) (show jfI 302 96 (.goto (-22)) 3 [] = true by decide +kernel) rfl ?_
    exact (by cases H; exact HY)
  · refine jmapr H HY (fun out H (HY : ykV T y out) => ?_)
    refine jEv.blk [(.bipush 7, 2, []), (.istore 6, 2, []), (.iconst 0, 1, []), (.istore 7, 2, [])] (by decide +kernel) (pc' := 106) (ls' := [(2, Int.ofNat o0), (0, v1), (0, v2), (0, v3), (3, 0), (3, 0), (0, 7), (0, 0)]) (st' := []) rfl ?_
    exact jEv.weak (a := [(2, Int.ofNat o0), (3, 0), (3, 0), (3, 0), (3, 0), (3, 0), (0, 7), (0, 0)]) (jles.c1 (jles.c0 (jles.c0 (jles.c0 (jles.c0 (jles.c0 (jles.c1 (jles.c1 jles.nl)))))))) (t_M_frameGoes_L106 (T := T) (xs := xs) (y := y) hd ho0 H HY)
theorem t_M_frameGoes_L74 {T : jT} {xs : List Int} {d : Nat} {y : jV × jS} (hd : 2 ≤ d) {h : jH}  {o0 : Nat} {v1 : Int} {v2 : Int} {v3 : Int} {v6 : Int} {out : jH} (ho0 : isX12 T o0) (H : M_frameGoes_L74 h o0 v1 v2 v3 v6 = some out) (HY : ykV T y out) : jEv xs d (302, 74, [(2, Int.ofNat o0), (0, v1), (0, v2), (0, v3), (3, 0), (3, 0), (0, v6), (3, 0)], []) (T, h) y :=
  jloop_sound (G := fun s : (Int × jH) => jEv xs d (302, 74, [(2, Int.ofNat o0), (0, v1), (0, v2), (0, v3), (3, 0), (3, 0), (0, s.1), (3, 0)], []) (T, s.2) y) (K := yk_M_frameGoes_L74 T xs d y o0 v1 v2 v3) (fun s out H HY => t_M_frameGoes_B74 hd ho0 H HY) (fun s' hg => hg) (s := (v6, h)) H HY
set_option maxRecDepth 20000 in
noncomputable def M_frameGoes_p38  (h : jH) (o0 : Nat) (v1 : Int) (v2 : Int) (v3 : Int) (vs0 : Int) : Option jH := Option.bind (M_frames (jup h o0 50 0) o0 vs0) (fun b5 => Option.bind (M_frames b5 o0 v3) (fun b6 => (if (0 : Int) ≤ 7 ∧ (7 : Int).toNat < 2365 then Option.bind (M_frames b6 o0 (jand (b6 (o0 + 33) (7 : Int).toNat) 255)) (fun b8 => M_frameGoes_L74 b8 o0 v1 v2 v3 0) else none)))
set_option maxRecDepth 20000 in
theorem t_M_frameGoes_p38 {T : jT} {xs : List Int} {d : Nat} {y : jV × jS} (hd : 2 ≤ d) {h : jH}  {o0 : Nat} {v1 : Int} {v2 : Int} {v3 : Int} {vs0 : Int} {out : jH} (ho0 : isX12 T o0) (H : M_frameGoes_p38 h o0 v1 v2 v3 vs0 = some out) (HY : ykV T y out) : jEv xs d (302, 38, [(2, Int.ofNat o0), (0, v1), (0, v2), (0, v3), (3, 0), (3, 0), (3, 0), (3, 0)], [(0, vs0)]) (T, h) y := by
  unfold M_frameGoes_p38 at H
  refine jEv.blk [(.istore 5, 2, []), (.aload_n 0, 1, []), (.iconst 0, 1, [])] (by decide +kernel) (pc' := 42) (ls' := [(2, Int.ofNat o0), (0, v1), (0, v2), (0, v3), (3, 0), (0, vs0), (3, 0), (3, 0)]) (st' := [(0, 0), (2, Int.ofNat o0)]) rfl ?_
  refine jEv.pfI (show jfI 302 42 (.putfield 411) 3 [12, 50, 0, 0, 7086] = true by decide +kernel) (isX12_L ho0) (by decide) ?_
  refine jEv.blk [(.aload_n 0, 1, []), (.iload 5, 2, [])] (by decide +kernel) (pc' := 48) (ls' := [(2, Int.ofNat o0), (0, v1), (0, v2), (0, v3), (3, 0), (0, vs0), (3, 0), (3, 0)]) (st' := [(0, vs0), (2, Int.ofNat o0)]) rfl ?_
  refine jbind H (fun b5 Hb5 H => ?_)
  refine jEv.calV (st' := []) (show jfI 302 48 (.invokevirtual 414) 3 [1, 303, 1, 10058] = true by decide +kernel) rfl (Or.inl rfl) rfl (Nat.le_of_ble_eq_true rfl) (by decide +kernel) (by decide) (isX12_L ho0) ((t_M_frames (T := T) (xs := xs) ho0 Hb5).mono (jKle 1 hd)) rfl ?_
  refine jEv.blk [(.aload_n 0, 1, []), (.iload_n 3, 1, [])] (by decide +kernel) (pc' := 53) (ls' := [(2, Int.ofNat o0), (0, v1), (0, v2), (0, v3), (3, 0), (0, vs0), (3, 0), (3, 0)]) (st' := [(0, v3), (2, Int.ofNat o0)]) rfl ?_
  refine jbind H (fun b6 Hb6 H => ?_)
  refine jEv.calV (st' := []) (show jfI 302 53 (.invokevirtual 414) 3 [1, 303, 1, 10058] = true by decide +kernel) rfl (Or.inl rfl) rfl (Nat.le_of_ble_eq_true rfl) (by decide +kernel) (by decide) (isX12_L ho0) ((t_M_frames (T := T) (xs := xs) ho0 Hb6).mono (jKle 1 hd)) rfl ?_
  refine jEv.blk [(.aload_n 0, 1, []), (.aload_n 0, 1, [])] (by decide +kernel) (pc' := 58) (ls' := [(2, Int.ofNat o0), (0, v1), (0, v2), (0, v3), (3, 0), (0, vs0), (3, 0), (3, 0)]) (st' := [(2, Int.ofNat o0), (2, Int.ofNat o0)]) rfl ?_
  refine jEv.gfR (o' := (o0 + 33)) (show jfI 302 58 (.getfield 111) 3 [12, 45, 5, 0, 7081] = true by decide +kernel) (isX12_L ho0) (by decide) (isX12_r45 ho0) ?_
  refine jEv.blk [(.bipush 7, 2, [])] (by decide +kernel) (pc' := 63) (ls' := [(2, Int.ofNat o0), (0, v1), (0, v2), (0, v3), (3, 0), (0, vs0), (3, 0), (3, 0)]) (st' := [(0, 7), (2, Int.ofNat (o0 + 33)), (2, Int.ofNat o0)]) rfl ?_
  refine jEv.ald (Or.inl ⟨rfl, rfl, rfl⟩) (show jfI 302 63 (.iaload) 1 [] = true by decide +kernel) (isX12_a45 ho0) H (fun c7 H => ?_)
  refine jEv.blk [(.sipush 255, 3, []), (.iand, 1, [])] (by decide +kernel) (pc' := 68) (ls' := [(2, Int.ofNat o0), (0, v1), (0, v2), (0, v3), (3, 0), (0, vs0), (3, 0), (3, 0)]) (st' := [(0, (jand (b6 (o0 + 33) (7 : Int).toNat) 255)), (2, Int.ofNat o0)]) rfl ?_
  refine jbind H (fun b8 Hb8 H => ?_)
  refine jEv.calV (st' := []) (show jfI 302 68 (.invokevirtual 414) 3 [1, 303, 1, 10058] = true by decide +kernel) rfl (Or.inl rfl) rfl (Nat.le_of_ble_eq_true rfl) (by decide +kernel) (by decide) (isX12_L ho0) ((t_M_frames (T := T) (xs := xs) ho0 Hb8).mono (jKle 1 hd)) rfl ?_
  refine jEv.blk [(.iconst 0, 1, []), (.istore 6, 2, [])] (by decide +kernel) (pc' := 74) (ls' := [(2, Int.ofNat o0), (0, v1), (0, v2), (0, v3), (3, 0), (0, vs0), (0, 0), (3, 0)]) (st' := []) rfl ?_
  exact jEv.weak (a := [(2, Int.ofNat o0), (0, v1), (0, v2), (0, v3), (3, 0), (3, 0), (0, 0), (3, 0)]) (jles.c1 (jles.c1 (jles.c1 (jles.c1 (jles.c0 (jles.c0 (jles.c1 (jles.c0 jles.nl)))))))) (t_M_frameGoes_L74 (T := T) (xs := xs) (y := y) hd ho0 H HY)
set_option maxRecDepth 20000 in
noncomputable def M_frameGoes  (h : jH) (o0 : Nat) (v1 : Int) (v2 : Int) (v3 : Int) : Option jH := Option.bind (M_payloadOf h o0 v1) (fun b1 => (if v3 = b1 then M_frameGoes_p38 h o0 v1 v2 v3 1 else (if v2 = 0 then M_frameGoes_p38 h o0 v1 v2 v3 2 else (if (wr (v2 + v3)) = b1 then M_frameGoes_p38 h o0 v1 v2 v3 4 else M_frameGoes_p38 h o0 v1 v2 v3 3))))
set_option maxRecDepth 20000 in
theorem t_M_frameGoes {T : jT} {xs : List Int} {h : jH}  {o0 : Nat} {v1 : Int} {v2 : Int} {v3 : Int} {out : jH} (ho0 : isX12 T o0) (H : M_frameGoes h o0 v1 v2 v3 = some out) : jEm xs 3 302 [(2, Int.ofNat o0), (0, v1), (0, v2), (0, v3)] (T, h) ((3, 0), (T, out)) := by
  have hd : 2 ≤ 2 := Nat.le_refl _
  obtain ⟨y, ey⟩ : ∃ y : jV × jS, y = ((3, 0), (T, out)) := ⟨_, rfl⟩
  rw [← ey]
  have HY : ykV T y out := ey
  refine jEm.ent (n := 8) (by decide +kernel) (Nat.le_of_ble_eq_true rfl) ?_
  show jEv xs 2 (302, 0, [(2, Int.ofNat o0), (0, v1), (0, v2), (0, v3), (3, 0), (3, 0), (3, 0), (3, 0)], []) (T, h) y
  unfold M_frameGoes at H
  refine jEv.blk [(.aload_n 0, 1, []), (.iload_n 1, 1, [])] (by decide +kernel) (pc' := 2) (ls' := [(2, Int.ofNat o0), (0, v1), (0, v2), (0, v3), (3, 0), (3, 0), (3, 0), (3, 0)]) (st' := [(0, v1), (2, Int.ofNat o0)]) rfl ?_
  refine jbind H (fun b1 Hb1 H => ?_)
  refine jEv.calV (st' := [(0, b1)]) (show jfI 302 2 (.invokevirtual 408) 3 [1, 290, 1, 10006] = true by decide +kernel) rfl (Or.inl rfl) rfl (Nat.le_of_ble_eq_true rfl) (by decide +kernel) (by decide) (isX12_L ho0) ((t_M_payloadOf (T := T) (xs := xs) ho0 Hb1).mono (jKle 2 hd)) rfl ?_
  refine jEv.blk [(.istore 4, 2, []), (.iload_n 3, 1, []), (.iload 4, 2, [])] (by decide +kernel) (pc' := 10) (ls' := [(2, Int.ofNat o0), (0, v1), (0, v2), (0, v3), (0, b1), (3, 0), (3, 0), (3, 0)]) (st' := [(0, b1), (0, v3)]) rfl ?_
  refine jEv.ic_ne (t := 17) (show jfI 302 10 (.if_icmp .ne 7) 3 [] = true by decide +kernel) rfl H (fun c2 H => ?_) (fun c2 H => ?_)
  · refine jEv.blk [(.iconst 1, 1, [])] (by decide +kernel) (pc' := 14) (ls' := [(2, Int.ofNat o0), (0, v1), (0, v2), (0, v3), (0, b1), (3, 0), (3, 0), (3, 0)]) (st' := [(0, 1)]) rfl ?_
    refine jEv.goto (t := 38) (show jfI 302 14 (.goto 24) 3 [] = true by decide +kernel) rfl ?_
    exact jEv.weak (a := [(2, Int.ofNat o0), (0, v1), (0, v2), (0, v3), (3, 0), (3, 0), (3, 0), (3, 0)]) (jles.c1 (jles.c1 (jles.c1 (jles.c1 (jles.c0 (jles.c0 (jles.c0 (jles.c0 jles.nl)))))))) (t_M_frameGoes_p38 (T := T) (xs := xs) (y := y) hd ho0 H HY)
  · refine jEv.blk [(.iload_n 2, 1, [])] (by decide +kernel) (pc' := 18) (ls' := [(2, Int.ofNat o0), (0, v1), (0, v2), (0, v3), (0, b1), (3, 0), (3, 0), (3, 0)]) (st' := [(0, v2)]) rfl ?_
    refine jEv.if_ne (t := 25) (show jfI 302 18 (.ifCond .ne 7) 3 [] = true by decide +kernel) rfl H (fun c3 H => ?_) (fun c3 H => ?_)
    · refine jEv.blk [(.iconst 2, 1, [])] (by decide +kernel) (pc' := 22) (ls' := [(2, Int.ofNat o0), (0, v1), (0, v2), (0, v3), (0, b1), (3, 0), (3, 0), (3, 0)]) (st' := [(0, 2)]) rfl ?_
      refine jEv.goto (t := 38) (show jfI 302 22 (.goto 16) 3 [] = true by decide +kernel) rfl ?_
      exact jEv.weak (a := [(2, Int.ofNat o0), (0, v1), (0, v2), (0, v3), (3, 0), (3, 0), (3, 0), (3, 0)]) (jles.c1 (jles.c1 (jles.c1 (jles.c1 (jles.c0 (jles.c0 (jles.c0 (jles.c0 jles.nl)))))))) (t_M_frameGoes_p38 (T := T) (xs := xs) (y := y) hd ho0 H HY)
    · refine jEv.blk [(.iload_n 2, 1, []), (.iload_n 3, 1, []), (.iadd, 1, []), (.iload 4, 2, [])] (by decide +kernel) (pc' := 30) (ls' := [(2, Int.ofNat o0), (0, v1), (0, v2), (0, v3), (0, b1), (3, 0), (3, 0), (3, 0)]) (st' := [(0, b1), (0, (wr (v2 + v3)))]) rfl ?_
      refine jEv.ic_ne (t := 37) (show jfI 302 30 (.if_icmp .ne 7) 3 [] = true by decide +kernel) rfl H (fun c4 H => ?_) (fun c4 H => ?_)
      · refine jEv.blk [(.iconst 4, 1, [])] (by decide +kernel) (pc' := 34) (ls' := [(2, Int.ofNat o0), (0, v1), (0, v2), (0, v3), (0, b1), (3, 0), (3, 0), (3, 0)]) (st' := [(0, 4)]) rfl ?_
        refine jEv.goto (t := 38) (show jfI 302 34 (.goto 4) 3 [] = true by decide +kernel) rfl ?_
        exact jEv.weak (a := [(2, Int.ofNat o0), (0, v1), (0, v2), (0, v3), (3, 0), (3, 0), (3, 0), (3, 0)]) (jles.c1 (jles.c1 (jles.c1 (jles.c1 (jles.c0 (jles.c0 (jles.c0 (jles.c0 jles.nl)))))))) (t_M_frameGoes_p38 (T := T) (xs := xs) (y := y) hd ho0 H HY)
      · refine jEv.blk [(.iconst 3, 1, [])] (by decide +kernel) (pc' := 38) (ls' := [(2, Int.ofNat o0), (0, v1), (0, v2), (0, v3), (0, b1), (3, 0), (3, 0), (3, 0)]) (st' := [(0, 3)]) rfl ?_
        exact jEv.weak (a := [(2, Int.ofNat o0), (0, v1), (0, v2), (0, v3), (3, 0), (3, 0), (3, 0), (3, 0)]) (jles.c1 (jles.c1 (jles.c1 (jles.c1 (jles.c0 (jles.c0 (jles.c0 (jles.c0 jles.nl)))))))) (t_M_frameGoes_p38 (T := T) (xs := xs) (y := y) hd ho0 H HY)
def yk_M_isLaid_L89 (T : jT) (xs : List Int) (d : Nat) (y : jV × jS)  (o0 : Nat) (v1 : Int) : ((Int × jH) ⊕ (Int × jH)) → Prop
  | .inl (v2, h) => jEv xs d (299, 89, [(2, Int.ofNat o0), (0, v1), (0, v2), (3, 0), (3, 0), (3, 0)], []) (T, h) y
  | .inr o => ykI T y o
def yk_M_isLaid_L124 (T : jT) (xs : List Int) (d : Nat) (y : jV × jS)  (o0 : Nat) (v1 : Int) (v2 : Int) (v3 : Int) : ((Int × jH) ⊕ ((Int × jH) ⊕ (Int × jH))) → Prop
  | .inl (v4, h) => jEv xs d (299, 124, [(2, Int.ofNat o0), (0, v1), (0, v2), (0, v3), (0, v4), (3, 0)], []) (T, h) y
  | .inr o => yk_M_isLaid_L89 T xs d y o0 v1 o
def yk_M_isLaid_L38 (T : jT) (xs : List Int) (d : Nat) (y : jV × jS)  (o0 : Nat) (v1 : Int) : ((Int × jH) ⊕ (Int × jH)) → Prop
  | .inl (v3, h) => jEv xs d (299, 38, [(2, Int.ofNat o0), (0, v1), (3, 0), (0, v3), (3, 0), (3, 0)], []) (T, h) y
  | .inr o => ykI T y o
set_option maxRecDepth 20000 in
noncomputable def M_isLaid_p169  (h : jH) (o0 : Nat) (v1 : Int) (v2 : Int) (vs0 : Int) : Option ((Int × jH) ⊕ (Int × jH)) := Option.bind (M_frameGoes h o0 v1 v2 vs0) (fun b27 => some (.inl ((wr (v2 + vs0)), b27)))
set_option maxRecDepth 20000 in
theorem t_M_isLaid_p169 {T : jT} {xs : List Int} {d : Nat} {y : jV × jS} (hd : 3 ≤ d) {h : jH}  {o0 : Nat} {v1 : Int} {v2 : Int} {vs0 : Int} {out : ((Int × jH) ⊕ (Int × jH))} (ho0 : isX12 T o0) (H : M_isLaid_p169 h o0 v1 v2 vs0 = some out) (HY : yk_M_isLaid_L89 T xs d y o0 v1 out) : jEv xs d (299, 169, [(2, Int.ofNat o0), (0, v1), (0, v2), (3, 0), (3, 0), (3, 0)], [(0, vs0)]) (T, h) y := by
  unfold M_isLaid_p169 at H
  refine jEv.blk [(.istore 5, 2, []), (.aload_n 0, 1, []), (.iload_n 1, 1, []), (.iload_n 2, 1, []), (.iload 5, 2, [])] (by decide +kernel) (pc' := 176) (ls' := [(2, Int.ofNat o0), (0, v1), (0, v2), (3, 0), (3, 0), (0, vs0)]) (st' := [(0, vs0), (0, v2), (0, v1), (2, Int.ofNat o0)]) rfl ?_
  refine jbind H (fun b27 Hb27 H => ?_)
  refine jEv.calV (st' := []) (show jfI 299 176 (.invokevirtual 430) 3 [1, 302, 3, 10054] = true by decide +kernel) rfl (Or.inl rfl) rfl (Nat.le_of_ble_eq_true rfl) (by decide +kernel) (by decide) (isX12_L ho0) ((t_M_frameGoes (T := T) (xs := xs) ho0 Hb27).mono (jKle 3 hd)) rfl ?_
  refine jEv.blk [(.iload_n 2, 1, []), (.iload 5, 2, []), (.iadd, 1, []), (.istore_n 2, 1, [])] (by decide +kernel) (pc' := 184) (ls' := [(2, Int.ofNat o0), (0, v1), (0, (wr (v2 + vs0))), (3, 0), (3, 0), (0, vs0)]) (st' := []) rfl ?_
  refine jEv.goto (t := 89) (show jfI 299 184 (.goto (-95)) 3 [] = true by decide +kernel) rfl ?_
  exact jEv.weak (a := [(2, Int.ofNat o0), (0, v1), (0, (wr (v2 + vs0))), (3, 0), (3, 0), (3, 0)]) (jles.c1 (jles.c1 (jles.c1 (jles.c0 (jles.c0 (jles.c0 jles.nl)))))) ((by cases H; exact HY))
set_option maxRecDepth 20000 in
noncomputable def M_isLaid_B124  (h : jH) (o0 : Nat) (v1 : Int) (v2 : Int) (v3 : Int) (v4 : Int) : Option ((Int × jH) ⊕ ((Int × jH) ⊕ (Int × jH))) := (if v4 < v3 then Option.bind (M_goesOut h o0 0) (fun b29 => some (.inl ((wr (v4 + 1)), b29))) else Option.map Sum.inr (some (.inl (v2, h))))
noncomputable def M_isLaid_L124  (h : jH) (o0 : Nat) (v1 : Int) (v2 : Int) (v3 : Int) (v4 : Int) : Option ((Int × jH) ⊕ (Int × jH)) := jloop (fun s : (Int × jH) => M_isLaid_B124 s.2 o0 v1 v2 v3 s.1) (v4, h)
set_option maxRecDepth 20000 in
theorem t_M_isLaid_B124 {T : jT} {xs : List Int} {d : Nat} {y : jV × jS} (hd : 3 ≤ d) {h : jH}  {o0 : Nat} {v1 : Int} {v2 : Int} {v3 : Int} {v4 : Int} {out : ((Int × jH) ⊕ ((Int × jH) ⊕ (Int × jH)))} (ho0 : isX12 T o0) (H : M_isLaid_B124 h o0 v1 v2 v3 v4 = some out) (HY : yk_M_isLaid_L124 T xs d y o0 v1 v2 v3 out) : jEv xs d (299, 124, [(2, Int.ofNat o0), (0, v1), (0, v2), (0, v3), (0, v4), (3, 0)], []) (T, h) y := by
  unfold M_isLaid_B124 at H
  refine jEv.blk [(.iload 4, 2, []), (.iload_n 3, 1, [])] (by decide +kernel) (pc' := 127) (ls' := [(2, Int.ofNat o0), (0, v1), (0, v2), (0, v3), (0, v4), (3, 0)]) (st' := [(0, v3), (0, v4)]) rfl ?_
  refine jEv.ic_ge (t := 141) (show jfI 299 127 (.if_icmp .ge 14) 3 [] = true by decide +kernel) rfl H (fun c28 H => ?_) (fun c28 H => ?_)
  · refine jEv.blk [(.aload_n 0, 1, []), (.iconst 0, 1, [])] (by decide +kernel) (pc' := 132) (ls' := [(2, Int.ofNat o0), (0, v1), (0, v2), (0, v3), (0, v4), (3, 0)]) (st' := [(0, 0), (2, Int.ofNat o0)]) rfl ?_
    refine jbind H (fun b29 Hb29 H => ?_)
    refine jEv.calV (st' := []) (show jfI 299 132 (.invokevirtual 420) 3 [1, 301, 1, 10050] = true by decide +kernel) rfl (Or.inl rfl) rfl (Nat.le_of_ble_eq_true rfl) (by decide +kernel) (by decide) (isX12_L ho0) ((t_M_goesOut (T := T) (xs := xs) ho0 Hb29).mono (jKle 1 hd)) rfl ?_
    refine jEv.blk [(.iinc 4 1, 3, [])] (by decide +kernel) (pc' := 138) (ls' := [(2, Int.ofNat o0), (0, v1), (0, v2), (0, v3), (0, (wr (v4 + 1))), (3, 0)]) (st' := []) rfl ?_
    refine jEv.goto (t := 124) (show jfI 299 138 (.goto (-14)) 3 [] = true by decide +kernel) rfl ?_
    exact (by cases H; exact HY)
  · refine jmapr H HY (fun out H (HY : yk_M_isLaid_L89 T xs d y o0 v1 out) => ?_)
    refine jEv.goto (t := 89) (show jfI 299 141 (.goto (-52)) 3 [] = true by decide +kernel) rfl ?_
    exact jEv.weak (a := [(2, Int.ofNat o0), (0, v1), (0, v2), (3, 0), (3, 0), (3, 0)]) (jles.c1 (jles.c1 (jles.c1 (jles.c0 (jles.c0 (jles.c0 jles.nl)))))) ((by cases H; exact HY))
theorem t_M_isLaid_L124 {T : jT} {xs : List Int} {d : Nat} {y : jV × jS} (hd : 3 ≤ d) {h : jH}  {o0 : Nat} {v1 : Int} {v2 : Int} {v3 : Int} {v4 : Int} {out : ((Int × jH) ⊕ (Int × jH))} (ho0 : isX12 T o0) (H : M_isLaid_L124 h o0 v1 v2 v3 v4 = some out) (HY : yk_M_isLaid_L89 T xs d y o0 v1 out) : jEv xs d (299, 124, [(2, Int.ofNat o0), (0, v1), (0, v2), (0, v3), (0, v4), (3, 0)], []) (T, h) y :=
  jloop_sound (G := fun s : (Int × jH) => jEv xs d (299, 124, [(2, Int.ofNat o0), (0, v1), (0, v2), (0, v3), (0, s.1), (3, 0)], []) (T, s.2) y) (K := yk_M_isLaid_L124 T xs d y o0 v1 v2 v3) (fun s out H HY => t_M_isLaid_B124 hd ho0 H HY) (fun s' hg => hg) (s := (v4, h)) H HY
set_option maxRecDepth 20000 in
noncomputable def M_isLaid_B89  (h : jH) (o0 : Nat) (v1 : Int) (v2 : Int) : Option ((Int × jH) ⊕ (Int × jH)) := Option.bind (M_payloadOf h o0 v1) (fun b16 => (if v2 < b16 then Option.bind (M_blockBytes h o0) (fun b18 => (if (0 : Int) ≤ 6 ∧ (6 : Int).toNat < 2365 then Option.bind (M_blockBytes h o0) (fun b20 => (if b20 ≠ 0 then (if 4 < (wr (b18 - (Int.tmod (h (o0 + 33) (6 : Int).toNat) b20))) then Option.bind (M_payloadOf h o0 v1) (fun b23 => (if (wr (b23 - v2)) < (wr ((wr (b18 - (Int.tmod (h (o0 + 33) (6 : Int).toNat) b20))) - 4)) then M_isLaid_p169 h o0 v1 v2 (wr (b23 - v2)) else M_isLaid_p169 h o0 v1 v2 (wr ((wr (b18 - (Int.tmod (h (o0 + 33) (6 : Int).toNat) b20))) - 4)))) else M_isLaid_L124 h o0 v1 v2 (wr (b18 - (Int.tmod (h (o0 + 33) (6 : Int).toNat) b20))) 0) else none)) else none)) else Option.map Sum.inr ((if (0 : Int) ≤ 5 ∧ (5 : Int).toNat < 2365 then (if (0 : Int) ≤ (wr (192 + (h (o0 + 33) (5 : Int).toNat))) ∧ ((wr (192 + (h (o0 + 33) (5 : Int).toNat))) : Int).toNat < 2365 then some (1, (jup h (o0 + 33) ((wr (192 + (h (o0 + 33) (5 : Int).toNat))) : Int).toNat v1)) else none) else none))))
noncomputable def M_isLaid_L89  (h : jH) (o0 : Nat) (v1 : Int) (v2 : Int) : Option (Int × jH) := jloop (fun s : (Int × jH) => M_isLaid_B89 s.2 o0 v1 s.1) (v2, h)
set_option maxRecDepth 20000 in
theorem t_M_isLaid_B89 {T : jT} {xs : List Int} {d : Nat} {y : jV × jS} (hd : 3 ≤ d) {h : jH}  {o0 : Nat} {v1 : Int} {v2 : Int} {out : ((Int × jH) ⊕ (Int × jH))} (ho0 : isX12 T o0) (H : M_isLaid_B89 h o0 v1 v2 = some out) (HY : yk_M_isLaid_L89 T xs d y o0 v1 out) : jEv xs d (299, 89, [(2, Int.ofNat o0), (0, v1), (0, v2), (3, 0), (3, 0), (3, 0)], []) (T, h) y := by
  unfold M_isLaid_B89 at H
  refine jEv.blk [(.iload_n 2, 1, []), (.aload_n 0, 1, []), (.iload_n 1, 1, [])] (by decide +kernel) (pc' := 92) (ls' := [(2, Int.ofNat o0), (0, v1), (0, v2), (3, 0), (3, 0), (3, 0)]) (st' := [(0, v1), (2, Int.ofNat o0), (0, v2)]) rfl ?_
  refine jbind H (fun b16 Hb16 H => ?_)
  refine jEv.calV (st' := [(0, b16), (0, v2)]) (show jfI 299 92 (.invokevirtual 408) 3 [1, 290, 1, 10006] = true by decide +kernel) rfl (Or.inl rfl) rfl (Nat.le_of_ble_eq_true rfl) (by decide +kernel) (by decide) (isX12_L ho0) ((t_M_payloadOf (T := T) (xs := xs) ho0 Hb16).mono (jKle 2 hd)) rfl ?_
  refine jEv.ic_ge (t := 187) (show jfI 299 95 (.if_icmp .ge 92) 3 [] = true by decide +kernel) rfl H (fun c17 H => ?_) (fun c17 H => ?_)
  · refine jEv.blk [(.aload_n 0, 1, [])] (by decide +kernel) (pc' := 99) (ls' := [(2, Int.ofNat o0), (0, v1), (0, v2), (3, 0), (3, 0), (3, 0)]) (st' := [(2, Int.ofNat o0)]) rfl ?_
    refine jbind H (fun b18 Hb18 H => ?_)
    refine jEv.calV (st' := [(0, b18)]) (show jfI 299 99 (.invokevirtual 405) 3 [1, 250, 0, 9080] = true by decide +kernel) rfl (Or.inl rfl) rfl (Nat.le_of_ble_eq_true rfl) (by decide +kernel) (by decide) (isX12_L ho0) ((t_M_blockBytes (T := T) (xs := xs) ho0 Hb18).mono (jKle 1 hd)) rfl ?_
    refine jEv.blk [(.aload_n 0, 1, [])] (by decide +kernel) (pc' := 103) (ls' := [(2, Int.ofNat o0), (0, v1), (0, v2), (3, 0), (3, 0), (3, 0)]) (st' := [(2, Int.ofNat o0), (0, b18)]) rfl ?_
    refine jEv.gfR (o' := (o0 + 33)) (show jfI 299 103 (.getfield 111) 3 [12, 45, 5, 0, 7081] = true by decide +kernel) (isX12_L ho0) (by decide) (isX12_r45 ho0) ?_
    refine jEv.blk [(.bipush 6, 2, [])] (by decide +kernel) (pc' := 108) (ls' := [(2, Int.ofNat o0), (0, v1), (0, v2), (3, 0), (3, 0), (3, 0)]) (st' := [(0, 6), (2, Int.ofNat (o0 + 33)), (0, b18)]) rfl ?_
    refine jEv.ald (Or.inl ⟨rfl, rfl, rfl⟩) (show jfI 299 108 (.iaload) 1 [] = true by decide +kernel) (isX12_a45 ho0) H (fun c19 H => ?_)
    refine jEv.blk [(.aload_n 0, 1, [])] (by decide +kernel) (pc' := 110) (ls' := [(2, Int.ofNat o0), (0, v1), (0, v2), (3, 0), (3, 0), (3, 0)]) (st' := [(2, Int.ofNat o0), (0, (h (o0 + 33) (6 : Int).toNat)), (0, b18)]) rfl ?_
    refine jbind H (fun b20 Hb20 H => ?_)
    refine jEv.calV (st' := [(0, b20), (0, (h (o0 + 33) (6 : Int).toNat)), (0, b18)]) (show jfI 299 110 (.invokevirtual 405) 3 [1, 250, 0, 9080] = true by decide +kernel) rfl (Or.inl rfl) rfl (Nat.le_of_ble_eq_true rfl) (by decide +kernel) (by decide) (isX12_L ho0) ((t_M_blockBytes (T := T) (xs := xs) ho0 Hb20).mono (jKle 1 hd)) rfl ?_
    refine jchk H (fun c21 H => ?_)
    refine jEv.irem (show jfI 299 113 (.irem) 1 [] = true by decide +kernel) c21 ?_
    refine jEv.blk [(.isub, 1, []), (.istore_n 3, 1, []), (.iload_n 3, 1, []), (.iconst 4, 1, [])] (by decide +kernel) (pc' := 118) (ls' := [(2, Int.ofNat o0), (0, v1), (0, v2), (0, (wr (b18 - (Int.tmod (h (o0 + 33) (6 : Int).toNat) b20)))), (3, 0), (3, 0)]) (st' := [(0, 4), (0, (wr (b18 - (Int.tmod (h (o0 + 33) (6 : Int).toNat) b20))))]) rfl ?_
    refine jEv.ic_gt (t := 144) (show jfI 299 118 (.if_icmp .gt 26) 3 [] = true by decide +kernel) rfl H (fun c22 H => ?_) (fun c22 H => ?_)
    · refine jEv.blk [(.aload_n 0, 1, []), (.iload_n 1, 1, [])] (by decide +kernel) (pc' := 146) (ls' := [(2, Int.ofNat o0), (0, v1), (0, v2), (0, (wr (b18 - (Int.tmod (h (o0 + 33) (6 : Int).toNat) b20)))), (3, 0), (3, 0)]) (st' := [(0, v1), (2, Int.ofNat o0)]) rfl ?_
      refine jbind H (fun b23 Hb23 H => ?_)
      refine jEv.calV (st' := [(0, b23)]) (show jfI 299 146 (.invokevirtual 408) 3 [1, 290, 1, 10006] = true by decide +kernel) rfl (Or.inl rfl) rfl (Nat.le_of_ble_eq_true rfl) (by decide +kernel) (by decide) (isX12_L ho0) ((t_M_payloadOf (T := T) (xs := xs) ho0 Hb23).mono (jKle 2 hd)) rfl ?_
      refine jEv.blk [(.iload_n 2, 1, []), (.isub, 1, []), (.istore 4, 2, []), (.iload 4, 2, []), (.iload_n 3, 1, []), (.iconst 4, 1, []), (.isub, 1, [])] (by decide +kernel) (pc' := 158) (ls' := [(2, Int.ofNat o0), (0, v1), (0, v2), (0, (wr (b18 - (Int.tmod (h (o0 + 33) (6 : Int).toNat) b20)))), (0, (wr (b23 - v2))), (3, 0)]) (st' := [(0, (wr ((wr (b18 - (Int.tmod (h (o0 + 33) (6 : Int).toNat) b20))) - 4))), (0, (wr (b23 - v2)))]) rfl ?_
      refine jEv.ic_ge (t := 166) (show jfI 299 158 (.if_icmp .ge 8) 3 [] = true by decide +kernel) rfl H (fun c24 H => ?_) (fun c24 H => ?_)
      · refine jEv.blk [(.iload 4, 2, [])] (by decide +kernel) (pc' := 163) (ls' := [(2, Int.ofNat o0), (0, v1), (0, v2), (0, (wr (b18 - (Int.tmod (h (o0 + 33) (6 : Int).toNat) b20)))), (0, (wr (b23 - v2))), (3, 0)]) (st' := [(0, (wr (b23 - v2)))]) rfl ?_
        refine jEv.goto (t := 169) (show jfI 299 163 (.goto 6) 3 [] = true by decide +kernel) rfl ?_
        exact jEv.weak (a := [(2, Int.ofNat o0), (0, v1), (0, v2), (3, 0), (3, 0), (3, 0)]) (jles.c1 (jles.c1 (jles.c1 (jles.c0 (jles.c0 (jles.c0 jles.nl)))))) (t_M_isLaid_p169 (T := T) (xs := xs) (y := y) hd ho0 H HY)
      · refine jEv.blk [(.iload_n 3, 1, []), (.iconst 4, 1, []), (.isub, 1, [])] (by decide +kernel) (pc' := 169) (ls' := [(2, Int.ofNat o0), (0, v1), (0, v2), (0, (wr (b18 - (Int.tmod (h (o0 + 33) (6 : Int).toNat) b20)))), (0, (wr (b23 - v2))), (3, 0)]) (st' := [(0, (wr ((wr (b18 - (Int.tmod (h (o0 + 33) (6 : Int).toNat) b20))) - 4)))]) rfl ?_
        exact jEv.weak (a := [(2, Int.ofNat o0), (0, v1), (0, v2), (3, 0), (3, 0), (3, 0)]) (jles.c1 (jles.c1 (jles.c1 (jles.c0 (jles.c0 (jles.c0 jles.nl)))))) (t_M_isLaid_p169 (T := T) (xs := xs) (y := y) hd ho0 H HY)
    · refine jEv.blk [(.iconst 0, 1, []), (.istore 4, 2, [])] (by decide +kernel) (pc' := 124) (ls' := [(2, Int.ofNat o0), (0, v1), (0, v2), (0, (wr (b18 - (Int.tmod (h (o0 + 33) (6 : Int).toNat) b20)))), (0, 0), (3, 0)]) (st' := []) rfl ?_
      exact t_M_isLaid_L124 (T := T) (xs := xs) (y := y) hd ho0 H HY
  · refine jmapr H HY (fun out H (HY : ykI T y out) => ?_)
    refine jEv.blk [(.aload_n 0, 1, [])] (by decide +kernel) (pc' := 188) (ls' := [(2, Int.ofNat o0), (0, v1), (0, v2), (3, 0), (3, 0), (3, 0)]) (st' := [(2, Int.ofNat o0)]) rfl ?_
    refine jEv.gfR (o' := (o0 + 33)) (show jfI 299 188 (.getfield 111) 3 [12, 45, 5, 0, 7081] = true by decide +kernel) (isX12_L ho0) (by decide) (isX12_r45 ho0) ?_
    refine jEv.blk [(.sipush 192, 3, []), (.aload_n 0, 1, [])] (by decide +kernel) (pc' := 195) (ls' := [(2, Int.ofNat o0), (0, v1), (0, v2), (3, 0), (3, 0), (3, 0)]) (st' := [(2, Int.ofNat o0), (0, 192), (2, Int.ofNat (o0 + 33))]) rfl ?_
    refine jEv.gfR (o' := (o0 + 33)) (show jfI 299 195 (.getfield 111) 3 [12, 45, 5, 0, 7081] = true by decide +kernel) (isX12_L ho0) (by decide) (isX12_r45 ho0) ?_
    refine jEv.blk [(.iconst 5, 1, [])] (by decide +kernel) (pc' := 199) (ls' := [(2, Int.ofNat o0), (0, v1), (0, v2), (3, 0), (3, 0), (3, 0)]) (st' := [(0, 5), (2, Int.ofNat (o0 + 33)), (0, 192), (2, Int.ofNat (o0 + 33))]) rfl ?_
    refine jEv.ald (Or.inl ⟨rfl, rfl, rfl⟩) (show jfI 299 199 (.iaload) 1 [] = true by decide +kernel) (isX12_a45 ho0) H (fun c25 H => ?_)
    refine jEv.blk [(.iadd, 1, []), (.iload_n 1, 1, [])] (by decide +kernel) (pc' := 202) (ls' := [(2, Int.ofNat o0), (0, v1), (0, v2), (3, 0), (3, 0), (3, 0)]) (st' := [(0, v1), (0, (wr (192 + (h (o0 + 33) (5 : Int).toNat)))), (2, Int.ofNat (o0 + 33))]) rfl ?_
    refine jEv.ast (Or.inl ⟨rfl, rfl, rfl⟩) (show jfI 299 202 (.iastore) 1 [] = true by decide +kernel) (isX12_a45 ho0) rfl H (fun c26 H => ?_)
    refine jEv.blk [(.iconst 1, 1, [])] (by decide +kernel) (pc' := 204) (ls' := [(2, Int.ofNat o0), (0, v1), (0, v2), (3, 0), (3, 0), (3, 0)]) (st' := [(0, 1)]) rfl ?_
    exact jEv.retZ (show jfI 299 204 (.ireturn) 1 [] = true by decide +kernel) (by decide +kernel) (by decide) (by cases H; exact HY)
theorem t_M_isLaid_L89 {T : jT} {xs : List Int} {d : Nat} {y : jV × jS} (hd : 3 ≤ d) {h : jH}  {o0 : Nat} {v1 : Int} {v2 : Int} {out : (Int × jH)} (ho0 : isX12 T o0) (H : M_isLaid_L89 h o0 v1 v2 = some out) (HY : ykI T y out) : jEv xs d (299, 89, [(2, Int.ofNat o0), (0, v1), (0, v2), (3, 0), (3, 0), (3, 0)], []) (T, h) y :=
  jloop_sound (G := fun s : (Int × jH) => jEv xs d (299, 89, [(2, Int.ofNat o0), (0, v1), (0, s.1), (3, 0), (3, 0), (3, 0)], []) (T, s.2) y) (K := yk_M_isLaid_L89 T xs d y o0 v1) (fun s out H HY => t_M_isLaid_B89 hd ho0 H HY) (fun s' hg => hg) (s := (v2, h)) H HY
set_option maxRecDepth 20000 in
noncomputable def M_isLaid_p66  (h : jH) (o0 : Nat) (v1 : Int) : Option (Int × jH) := (if (0 : Int) ≤ 6 ∧ (6 : Int).toNat < 2365 then Option.bind (M_payloadOf h o0 v1) (fun b13 => Option.bind (M_hasRoom h o0 (h (o0 + 33) (6 : Int).toNat) b13) (fun b14 => (if b14 = 0 then some (0, h) else M_isLaid_L89 h o0 v1 0))) else none)
set_option maxRecDepth 20000 in
theorem t_M_isLaid_p66 {T : jT} {xs : List Int} {d : Nat} {y : jV × jS} (hd : 3 ≤ d) {h : jH}  {o0 : Nat} {v1 : Int} {out : (Int × jH)} (ho0 : isX12 T o0) (H : M_isLaid_p66 h o0 v1 = some out) (HY : ykI T y out) : jEv xs d (299, 66, [(2, Int.ofNat o0), (0, v1), (3, 0), (3, 0), (3, 0), (3, 0)], []) (T, h) y := by
  unfold M_isLaid_p66 at H
  refine jEv.blk [(.aload_n 0, 1, []), (.aload_n 0, 1, [])] (by decide +kernel) (pc' := 68) (ls' := [(2, Int.ofNat o0), (0, v1), (3, 0), (3, 0), (3, 0), (3, 0)]) (st' := [(2, Int.ofNat o0), (2, Int.ofNat o0)]) rfl ?_
  refine jEv.gfR (o' := (o0 + 33)) (show jfI 299 68 (.getfield 111) 3 [12, 45, 5, 0, 7081] = true by decide +kernel) (isX12_L ho0) (by decide) (isX12_r45 ho0) ?_
  refine jEv.blk [(.bipush 6, 2, [])] (by decide +kernel) (pc' := 73) (ls' := [(2, Int.ofNat o0), (0, v1), (3, 0), (3, 0), (3, 0), (3, 0)]) (st' := [(0, 6), (2, Int.ofNat (o0 + 33)), (2, Int.ofNat o0)]) rfl ?_
  refine jEv.ald (Or.inl ⟨rfl, rfl, rfl⟩) (show jfI 299 73 (.iaload) 1 [] = true by decide +kernel) (isX12_a45 ho0) H (fun c12 H => ?_)
  refine jEv.blk [(.aload_n 0, 1, []), (.iload_n 1, 1, [])] (by decide +kernel) (pc' := 76) (ls' := [(2, Int.ofNat o0), (0, v1), (3, 0), (3, 0), (3, 0), (3, 0)]) (st' := [(0, v1), (2, Int.ofNat o0), (0, (h (o0 + 33) (6 : Int).toNat)), (2, Int.ofNat o0)]) rfl ?_
  refine jbind H (fun b13 Hb13 H => ?_)
  refine jEv.calV (st' := [(0, b13), (0, (h (o0 + 33) (6 : Int).toNat)), (2, Int.ofNat o0)]) (show jfI 299 76 (.invokevirtual 408) 3 [1, 290, 1, 10006] = true by decide +kernel) rfl (Or.inl rfl) rfl (Nat.le_of_ble_eq_true rfl) (by decide +kernel) (by decide) (isX12_L ho0) ((t_M_payloadOf (T := T) (xs := xs) ho0 Hb13).mono (jKle 2 hd)) rfl ?_
  refine jbind H (fun b14 Hb14 H => ?_)
  refine jEv.calV (st' := [(0, b14)]) (show jfI 299 79 (.invokevirtual 423) 3 [1, 248, 2, 9072] = true by decide +kernel) rfl (Or.inl rfl) rfl (Nat.le_of_ble_eq_true rfl) (by decide +kernel) (by decide) (isX12_L ho0) ((t_M_hasRoom (T := T) (xs := xs) ho0 Hb14).mono (jKle 2 hd)) rfl ?_
  refine jEv.if_ne (t := 87) (show jfI 299 82 (.ifCond .ne 5) 3 [] = true by decide +kernel) rfl H (fun c15 H => ?_) (fun c15 H => ?_)
  · refine jEv.blk [(.iconst 0, 1, [])] (by decide +kernel) (pc' := 86) (ls' := [(2, Int.ofNat o0), (0, v1), (3, 0), (3, 0), (3, 0), (3, 0)]) (st' := [(0, 0)]) rfl ?_
    exact jEv.retZ (show jfI 299 86 (.ireturn) 1 [] = true by decide +kernel) (by decide +kernel) (by decide) (by cases H; exact HY)
  · refine jEv.blk [(.iconst 0, 1, []), (.istore_n 2, 1, [])] (by decide +kernel) (pc' := 89) (ls' := [(2, Int.ofNat o0), (0, v1), (0, 0), (3, 0), (3, 0), (3, 0)]) (st' := []) rfl ?_
    exact t_M_isLaid_L89 (T := T) (xs := xs) (y := y) hd ho0 H HY
set_option maxRecDepth 20000 in
noncomputable def M_isLaid_B38  (h : jH) (o0 : Nat) (v1 : Int) (v3 : Int) : Option ((Int × jH) ⊕ (Int × jH)) := (if v3 < 5 then (if (0 : Int) ≤ 7 ∧ (7 : Int).toNat < 2365 then Option.bind (M_headByte o0 (h (o0 + 33) (7 : Int).toNat) v1 v3) (fun b10 => Option.bind (M_goesOut h o0 b10) (fun b11 => some (.inl ((wr (v3 + 1)), b11)))) else none) else Option.map Sum.inr (M_isLaid_p66 h o0 v1))
noncomputable def M_isLaid_L38  (h : jH) (o0 : Nat) (v1 : Int) (v3 : Int) : Option (Int × jH) := jloop (fun s : (Int × jH) => M_isLaid_B38 s.2 o0 v1 s.1) (v3, h)
set_option maxRecDepth 20000 in
theorem t_M_isLaid_B38 {T : jT} {xs : List Int} {d : Nat} {y : jV × jS} (hd : 3 ≤ d) {h : jH}  {o0 : Nat} {v1 : Int} {v3 : Int} {out : ((Int × jH) ⊕ (Int × jH))} (ho0 : isX12 T o0) (H : M_isLaid_B38 h o0 v1 v3 = some out) (HY : yk_M_isLaid_L38 T xs d y o0 v1 out) : jEv xs d (299, 38, [(2, Int.ofNat o0), (0, v1), (3, 0), (0, v3), (3, 0), (3, 0)], []) (T, h) y := by
  unfold M_isLaid_B38 at H
  refine jEv.blk [(.iload_n 3, 1, []), (.iconst 5, 1, [])] (by decide +kernel) (pc' := 40) (ls' := [(2, Int.ofNat o0), (0, v1), (3, 0), (0, v3), (3, 0), (3, 0)]) (st' := [(0, 5), (0, v3)]) rfl ?_
  refine jEv.ic_ge (t := 66) (show jfI 299 40 (.if_icmp .ge 26) 3 [] = true by decide +kernel) rfl H (fun c8 H => ?_) (fun c8 H => ?_)
  · refine jEv.blk [(.aload_n 0, 1, []), (.aload_n 0, 1, []), (.aload_n 0, 1, [])] (by decide +kernel) (pc' := 46) (ls' := [(2, Int.ofNat o0), (0, v1), (3, 0), (0, v3), (3, 0), (3, 0)]) (st' := [(2, Int.ofNat o0), (2, Int.ofNat o0), (2, Int.ofNat o0)]) rfl ?_
    refine jEv.gfR (o' := (o0 + 33)) (show jfI 299 46 (.getfield 111) 3 [12, 45, 5, 0, 7081] = true by decide +kernel) (isX12_L ho0) (by decide) (isX12_r45 ho0) ?_
    refine jEv.blk [(.bipush 7, 2, [])] (by decide +kernel) (pc' := 51) (ls' := [(2, Int.ofNat o0), (0, v1), (3, 0), (0, v3), (3, 0), (3, 0)]) (st' := [(0, 7), (2, Int.ofNat (o0 + 33)), (2, Int.ofNat o0), (2, Int.ofNat o0)]) rfl ?_
    refine jEv.ald (Or.inl ⟨rfl, rfl, rfl⟩) (show jfI 299 51 (.iaload) 1 [] = true by decide +kernel) (isX12_a45 ho0) H (fun c9 H => ?_)
    refine jEv.blk [(.iload_n 1, 1, []), (.iload_n 3, 1, [])] (by decide +kernel) (pc' := 54) (ls' := [(2, Int.ofNat o0), (0, v1), (3, 0), (0, v3), (3, 0), (3, 0)]) (st' := [(0, v3), (0, v1), (0, (h (o0 + 33) (7 : Int).toNat)), (2, Int.ofNat o0), (2, Int.ofNat o0)]) rfl ?_
    refine jbind H (fun b10 Hb10 H => ?_)
    refine jEv.calV (st' := [(0, b10), (2, Int.ofNat o0)]) (show jfI 299 54 (.invokevirtual 390) 3 [1, 243, 3, 9054] = true by decide +kernel) rfl (Or.inl rfl) rfl (Nat.le_of_ble_eq_true rfl) (by decide +kernel) (by decide) (isX12_L ho0) ((t_M_headByte (T := T) (xs := xs) ho0 Hb10).mono (jKle 2 hd)) rfl ?_
    refine jbind H (fun b11 Hb11 H => ?_)
    refine jEv.calV (st' := []) (show jfI 299 57 (.invokevirtual 420) 3 [1, 301, 1, 10050] = true by decide +kernel) rfl (Or.inl rfl) rfl (Nat.le_of_ble_eq_true rfl) (by decide +kernel) (by decide) (isX12_L ho0) ((t_M_goesOut (T := T) (xs := xs) ho0 Hb11).mono (jKle 1 hd)) rfl ?_
    refine jEv.blk [(.iinc 3 1, 3, [])] (by decide +kernel) (pc' := 63) (ls' := [(2, Int.ofNat o0), (0, v1), (3, 0), (0, (wr (v3 + 1))), (3, 0), (3, 0)]) (st' := []) rfl ?_
    refine jEv.goto (t := 38) (show jfI 299 63 (.goto (-25)) 3 [] = true by decide +kernel) rfl ?_
    exact (by cases H; exact HY)
  · refine jmapr H HY (fun out H (HY : ykI T y out) => ?_)
    exact jEv.weak (a := [(2, Int.ofNat o0), (0, v1), (3, 0), (3, 0), (3, 0), (3, 0)]) (jles.c1 (jles.c1 (jles.c0 (jles.c0 (jles.c0 (jles.c0 jles.nl)))))) (t_M_isLaid_p66 (T := T) (xs := xs) (y := y) hd ho0 H HY)
theorem t_M_isLaid_L38 {T : jT} {xs : List Int} {d : Nat} {y : jV × jS} (hd : 3 ≤ d) {h : jH}  {o0 : Nat} {v1 : Int} {v3 : Int} {out : (Int × jH)} (ho0 : isX12 T o0) (H : M_isLaid_L38 h o0 v1 v3 = some out) (HY : ykI T y out) : jEv xs d (299, 38, [(2, Int.ofNat o0), (0, v1), (3, 0), (0, v3), (3, 0), (3, 0)], []) (T, h) y :=
  jloop_sound (G := fun s : (Int × jH) => jEv xs d (299, 38, [(2, Int.ofNat o0), (0, v1), (3, 0), (0, s.1), (3, 0), (3, 0)], []) (T, s.2) y) (K := yk_M_isLaid_L38 T xs d y o0 v1) (fun s out H HY => t_M_isLaid_B38 hd ho0 H HY) (fun s' hg => hg) (s := (v3, h)) H HY
set_option maxRecDepth 20000 in
noncomputable def M_isLaid  (h : jH) (o0 : Nat) (v1 : Int) : Option (Int × jH) := (if (0 : Int) ≤ 6 ∧ (6 : Int).toNat < 2365 then Option.bind (M_payloadOf h o0 v1) (fun b2 => Option.bind (M_hasRoom h o0 (h (o0 + 33) (6 : Int).toNat) b2) (fun b3 => (if b3 = 0 then Option.bind (M_freeOne h o0) (fun b5 => (if b5 = (-1) then some (0, h) else Option.bind (M_opens h o0 b5) (fun b7 => M_isLaid_L38 b7 o0 v1 0))) else M_isLaid_p66 h o0 v1))) else none)
set_option maxRecDepth 20000 in
theorem t_M_isLaid {T : jT} {xs : List Int} {h : jH}  {o0 : Nat} {v1 : Int} {out : (Int × jH)} (ho0 : isX12 T o0) (H : M_isLaid h o0 v1 = some out) : jEm xs 4 299 [(2, Int.ofNat o0), (0, v1)] (T, h) ((0, out.1), (T, out.2)) := by
  have hd : 3 ≤ 3 := Nat.le_refl _
  obtain ⟨y, ey⟩ : ∃ y : jV × jS, y = ((0, out.1), (T, out.2)) := ⟨_, rfl⟩
  rw [← ey]
  have HY : ykI T y out := ey
  refine jEm.ent (n := 6) (by decide +kernel) (Nat.le_of_ble_eq_true rfl) ?_
  show jEv xs 3 (299, 0, [(2, Int.ofNat o0), (0, v1), (3, 0), (3, 0), (3, 0), (3, 0)], []) (T, h) y
  unfold M_isLaid at H
  refine jEv.blk [(.aload_n 0, 1, []), (.aload_n 0, 1, [])] (by decide +kernel) (pc' := 2) (ls' := [(2, Int.ofNat o0), (0, v1), (3, 0), (3, 0), (3, 0), (3, 0)]) (st' := [(2, Int.ofNat o0), (2, Int.ofNat o0)]) rfl ?_
  refine jEv.gfR (o' := (o0 + 33)) (show jfI 299 2 (.getfield 111) 3 [12, 45, 5, 0, 7081] = true by decide +kernel) (isX12_L ho0) (by decide) (isX12_r45 ho0) ?_
  refine jEv.blk [(.bipush 6, 2, [])] (by decide +kernel) (pc' := 7) (ls' := [(2, Int.ofNat o0), (0, v1), (3, 0), (3, 0), (3, 0), (3, 0)]) (st' := [(0, 6), (2, Int.ofNat (o0 + 33)), (2, Int.ofNat o0)]) rfl ?_
  refine jEv.ald (Or.inl ⟨rfl, rfl, rfl⟩) (show jfI 299 7 (.iaload) 1 [] = true by decide +kernel) (isX12_a45 ho0) H (fun c1 H => ?_)
  refine jEv.blk [(.aload_n 0, 1, []), (.iload_n 1, 1, [])] (by decide +kernel) (pc' := 10) (ls' := [(2, Int.ofNat o0), (0, v1), (3, 0), (3, 0), (3, 0), (3, 0)]) (st' := [(0, v1), (2, Int.ofNat o0), (0, (h (o0 + 33) (6 : Int).toNat)), (2, Int.ofNat o0)]) rfl ?_
  refine jbind H (fun b2 Hb2 H => ?_)
  refine jEv.calV (st' := [(0, b2), (0, (h (o0 + 33) (6 : Int).toNat)), (2, Int.ofNat o0)]) (show jfI 299 10 (.invokevirtual 408) 3 [1, 290, 1, 10006] = true by decide +kernel) rfl (Or.inl rfl) rfl (Nat.le_of_ble_eq_true rfl) (by decide +kernel) (by decide) (isX12_L ho0) ((t_M_payloadOf (T := T) (xs := xs) ho0 Hb2).mono (jKle 2 hd)) rfl ?_
  refine jbind H (fun b3 Hb3 H => ?_)
  refine jEv.calV (st' := [(0, b3)]) (show jfI 299 13 (.invokevirtual 423) 3 [1, 248, 2, 9072] = true by decide +kernel) rfl (Or.inl rfl) rfl (Nat.le_of_ble_eq_true rfl) (by decide +kernel) (by decide) (isX12_L ho0) ((t_M_hasRoom (T := T) (xs := xs) ho0 Hb3).mono (jKle 2 hd)) rfl ?_
  refine jEv.if_ne (t := 66) (show jfI 299 16 (.ifCond .ne 50) 3 [] = true by decide +kernel) rfl H (fun c4 H => ?_) (fun c4 H => ?_)
  · refine jEv.blk [(.aload_n 0, 1, [])] (by decide +kernel) (pc' := 20) (ls' := [(2, Int.ofNat o0), (0, v1), (3, 0), (3, 0), (3, 0), (3, 0)]) (st' := [(2, Int.ofNat o0)]) rfl ?_
    refine jbind H (fun b5 Hb5 H => ?_)
    refine jEv.calV (st' := [(0, b5)]) (show jfI 299 20 (.invokevirtual 427) 3 [1, 300, 0, 10046] = true by decide +kernel) rfl (Or.inl rfl) rfl (Nat.le_of_ble_eq_true rfl) (by decide +kernel) (by decide) (isX12_L ho0) ((t_M_freeOne (T := T) (xs := xs) ho0 Hb5).mono (jKle 3 hd)) rfl ?_
    refine jEv.blk [(.istore_n 2, 1, []), (.iload_n 2, 1, []), (.iconst (-1), 1, [])] (by decide +kernel) (pc' := 26) (ls' := [(2, Int.ofNat o0), (0, v1), (0, b5), (3, 0), (3, 0), (3, 0)]) (st' := [(0, (-1)), (0, b5)]) rfl ?_
    refine jEv.ic_ne (t := 31) (show jfI 299 26 (.if_icmp .ne 5) 3 [] = true by decide +kernel) rfl H (fun c6 H => ?_) (fun c6 H => ?_)
    · refine jEv.blk [(.iconst 0, 1, [])] (by decide +kernel) (pc' := 30) (ls' := [(2, Int.ofNat o0), (0, v1), (0, b5), (3, 0), (3, 0), (3, 0)]) (st' := [(0, 0)]) rfl ?_
      exact jEv.retZ (show jfI 299 30 (.ireturn) 1 [] = true by decide +kernel) (by decide +kernel) (by decide) (by cases H; exact HY)
    · refine jEv.blk [(.aload_n 0, 1, []), (.iload_n 2, 1, [])] (by decide +kernel) (pc' := 33) (ls' := [(2, Int.ofNat o0), (0, v1), (0, b5), (3, 0), (3, 0), (3, 0)]) (st' := [(0, b5), (2, Int.ofNat o0)]) rfl ?_
      refine jbind H (fun b7 Hb7 H => ?_)
      refine jEv.calV (st' := []) (show jfI 299 33 (.invokevirtual 387) 3 [1, 242, 1, 9050] = true by decide +kernel) rfl (Or.inl rfl) rfl (Nat.le_of_ble_eq_true rfl) (by decide +kernel) (by decide) (isX12_L ho0) ((t_M_opens (T := T) (xs := xs) ho0 Hb7).mono (jKle 1 hd)) rfl ?_
      refine jEv.blk [(.iconst 0, 1, []), (.istore_n 3, 1, [])] (by decide +kernel) (pc' := 38) (ls' := [(2, Int.ofNat o0), (0, v1), (0, b5), (0, 0), (3, 0), (3, 0)]) (st' := []) rfl ?_
      exact jEv.weak (a := [(2, Int.ofNat o0), (0, v1), (3, 0), (0, 0), (3, 0), (3, 0)]) (jles.c1 (jles.c1 (jles.c0 (jles.c1 (jles.c0 (jles.c0 jles.nl)))))) (t_M_isLaid_L38 (T := T) (xs := xs) (y := y) hd ho0 H HY)
  · exact t_M_isLaid_p66 (T := T) (xs := xs) (y := y) hd ho0 H HY
def yk_M_areLaid_L98 (T : jT) (xs : List Int) (d : Nat) (y : jV × jS)  (o0 : Nat) (v2 : Int) : ((Int × jH) ⊕ (Int × jH)) → Prop
  | .inl (v4, h) => jEv xs d (298, 98, [(2, Int.ofNat o0), (3, 0), (0, v2), (3, 0), (0, v4)], []) (T, h) y
  | .inr o => ykI T y o
def yk_M_areLaid_L62 (T : jT) (xs : List Int) (d : Nat) (y : jV × jS)  (o0 : Nat) (v1 : Int) (v3 : Int) : ((Int × Int × jH) ⊕ (Int × jH)) → Prop
  | .inl (v2, v4, h) => jEv xs d (298, 62, [(2, Int.ofNat o0), (0, v1), (0, v2), (0, v3), (0, v4)], []) (T, h) y
  | .inr o => ykI T y o
def yk_M_areLaid_L2 (T : jT) (xs : List Int) (d : Nat) (y : jV × jS)  (o0 : Nat) (v1 : Int) : ((Int × jH) ⊕ (Int × jH)) → Prop
  | .inl (v2, h) => jEv xs d (298, 2, [(2, Int.ofNat o0), (0, v1), (0, v2), (3, 0), (3, 0)], []) (T, h) y
  | .inr o => ykI T y o
set_option maxRecDepth 20000 in
noncomputable def M_areLaid_B98  (h : jH) (o0 : Nat) (v2 : Int) (v4 : Int) : Option ((Int × jH) ⊕ (Int × jH)) := (if v4 < 2244 then (if v2 = 0 then (if (0 : Int) ≤ v4 ∧ (v4 : Int).toNat < 2244 then (if (0 : Int) ≤ v4 ∧ (v4 : Int).toNat < 2365 then some (.inl ((wr (v4 + 1)), (jup h (o0 + 33) (v4 : Int).toNat (h (o0 + 35) (v4 : Int).toNat)))) else none) else none) else Option.map Sum.inr ((if v2 = 0 ∨ v2 = 1 then some (v2, h) else none))) else Option.map Sum.inr ((if v2 = 0 ∨ v2 = 1 then some (v2, h) else none)))
noncomputable def M_areLaid_L98  (h : jH) (o0 : Nat) (v2 : Int) (v4 : Int) : Option (Int × jH) := jloop (fun s : (Int × jH) => M_areLaid_B98 s.2 o0 v2 s.1) (v4, h)
set_option maxRecDepth 20000 in
theorem t_M_areLaid_B98 {T : jT} {xs : List Int} {d : Nat} {y : jV × jS} (hd : 4 ≤ d) {h : jH}  {o0 : Nat} {v2 : Int} {v4 : Int} {out : ((Int × jH) ⊕ (Int × jH))} (ho0 : isX12 T o0) (H : M_areLaid_B98 h o0 v2 v4 = some out) (HY : yk_M_areLaid_L98 T xs d y o0 v2 out) : jEv xs d (298, 98, [(2, Int.ofNat o0), (3, 0), (0, v2), (3, 0), (0, v4)], []) (T, h) y := by
  unfold M_areLaid_B98 at H
  refine jEv.blk [(.iload 4, 2, []), (.sipush 2244, 3, [])] (by decide +kernel) (pc' := 103) (ls' := [(2, Int.ofNat o0), (3, 0), (0, v2), (3, 0), (0, v4)]) (st' := [(0, 2244), (0, v4)]) rfl ?_
  refine jEv.ic_ge (t := 130) (show jfI 298 103 (.if_icmp .ge 27) 3 [] = true by decide +kernel) rfl H (fun c12 H => ?_) (fun c12 H => ?_)
  · refine jEv.blk [(.iload_n 2, 1, [])] (by decide +kernel) (pc' := 107) (ls' := [(2, Int.ofNat o0), (3, 0), (0, v2), (3, 0), (0, v4)]) (st' := [(0, v2)]) rfl ?_
    refine jEv.if_ne (t := 130) (show jfI 298 107 (.ifCond .ne 23) 3 [] = true by decide +kernel) rfl H (fun c13 H => ?_) (fun c13 H => ?_)
    · refine jEv.blk [(.aload_n 0, 1, [])] (by decide +kernel) (pc' := 111) (ls' := [(2, Int.ofNat o0), (3, 0), (0, v2), (3, 0), (0, v4)]) (st' := [(2, Int.ofNat o0)]) rfl ?_
      refine jEv.gfR (o' := (o0 + 33)) (show jfI 298 111 (.getfield 111) 3 [12, 45, 5, 0, 7081] = true by decide +kernel) (isX12_L ho0) (by decide) (isX12_r45 ho0) ?_
      refine jEv.blk [(.iload 4, 2, []), (.aload_n 0, 1, [])] (by decide +kernel) (pc' := 117) (ls' := [(2, Int.ofNat o0), (3, 0), (0, v2), (3, 0), (0, v4)]) (st' := [(2, Int.ofNat o0), (0, v4), (2, Int.ofNat (o0 + 33))]) rfl ?_
      refine jEv.gfR (o' := (o0 + 35)) (show jfI 298 117 (.getfield 117) 3 [12, 51, 5, 0, 7087] = true by decide +kernel) (isX12_L ho0) (by decide) (isX12_r51 ho0) ?_
      refine jEv.blk [(.iload 4, 2, [])] (by decide +kernel) (pc' := 122) (ls' := [(2, Int.ofNat o0), (3, 0), (0, v2), (3, 0), (0, v4)]) (st' := [(0, v4), (2, Int.ofNat (o0 + 35)), (0, v4), (2, Int.ofNat (o0 + 33))]) rfl ?_
      refine jEv.ald (Or.inl ⟨rfl, rfl, rfl⟩) (show jfI 298 122 (.iaload) 1 [] = true by decide +kernel) (isX12_a51 ho0) H (fun c14 H => ?_)
      refine jEv.ast (Or.inl ⟨rfl, rfl, rfl⟩) (show jfI 298 123 (.iastore) 1 [] = true by decide +kernel) (isX12_a45 ho0) rfl H (fun c15 H => ?_)
      refine jEv.blk [(.iinc 4 1, 3, [])] (by decide +kernel) (pc' := 127) (ls' := [(2, Int.ofNat o0), (3, 0), (0, v2), (3, 0), (0, (wr (v4 + 1)))]) (st' := []) rfl ?_
      refine jEv.goto (t := 98) (show jfI 298 127 (.goto (-29)) 3 [] = true by decide +kernel) rfl ?_
      exact (by cases H; exact HY)
    · refine jmapr H HY (fun out H (HY : ykI T y out) => ?_)
      refine jEv.blk [(.iload_n 2, 1, [])] (by decide +kernel) (pc' := 131) (ls' := [(2, Int.ofNat o0), (3, 0), (0, v2), (3, 0), (0, v4)]) (st' := [(0, v2)]) rfl ?_
      refine jchk H (fun c16 H => ?_)
      exact jEv.retZ (show jfI 298 131 (.ireturn) 1 [] = true by decide +kernel) (by decide +kernel) c16 (by cases H; exact HY)
  · refine jmapr H HY (fun out H (HY : ykI T y out) => ?_)
    refine jEv.blk [(.iload_n 2, 1, [])] (by decide +kernel) (pc' := 131) (ls' := [(2, Int.ofNat o0), (3, 0), (0, v2), (3, 0), (0, v4)]) (st' := [(0, v2)]) rfl ?_
    refine jchk H (fun c17 H => ?_)
    exact jEv.retZ (show jfI 298 131 (.ireturn) 1 [] = true by decide +kernel) (by decide +kernel) c17 (by cases H; exact HY)
theorem t_M_areLaid_L98 {T : jT} {xs : List Int} {d : Nat} {y : jV × jS} (hd : 4 ≤ d) {h : jH}  {o0 : Nat} {v2 : Int} {v4 : Int} {out : (Int × jH)} (ho0 : isX12 T o0) (H : M_areLaid_L98 h o0 v2 v4 = some out) (HY : ykI T y out) : jEv xs d (298, 98, [(2, Int.ofNat o0), (3, 0), (0, v2), (3, 0), (0, v4)], []) (T, h) y :=
  jloop_sound (G := fun s : (Int × jH) => jEv xs d (298, 98, [(2, Int.ofNat o0), (3, 0), (0, v2), (3, 0), (0, s.1)], []) (T, s.2) y) (K := yk_M_areLaid_L98 T xs d y o0 v2) (fun s out H HY => t_M_areLaid_B98 hd ho0 H HY) (fun s' hg => hg) (s := (v4, h)) H HY
set_option maxRecDepth 20000 in
noncomputable def M_areLaid_p87  (h : jH) (o0 : Nat) (v2 : Int) : Option (Int × jH) := (if (0 : Int) ≤ 13 ∧ (13 : Int).toNat < 2365 then M_areLaid_L98 (jup h (o0 + 33) (13 : Int).toNat 0) o0 v2 0 else none)
set_option maxRecDepth 20000 in
theorem t_M_areLaid_p87 {T : jT} {xs : List Int} {d : Nat} {y : jV × jS} (hd : 4 ≤ d) {h : jH}  {o0 : Nat} {v2 : Int} {out : (Int × jH)} (ho0 : isX12 T o0) (H : M_areLaid_p87 h o0 v2 = some out) (HY : ykI T y out) : jEv xs d (298, 87, [(2, Int.ofNat o0), (3, 0), (0, v2), (3, 0), (3, 0)], []) (T, h) y := by
  unfold M_areLaid_p87 at H
  refine jEv.blk [(.aload_n 0, 1, [])] (by decide +kernel) (pc' := 88) (ls' := [(2, Int.ofNat o0), (3, 0), (0, v2), (3, 0), (3, 0)]) (st' := [(2, Int.ofNat o0)]) rfl ?_
  refine jEv.gfR (o' := (o0 + 33)) (show jfI 298 88 (.getfield 111) 3 [12, 45, 5, 0, 7081] = true by decide +kernel) (isX12_L ho0) (by decide) (isX12_r45 ho0) ?_
  refine jEv.blk [(.bipush 13, 2, []), (.iconst 0, 1, [])] (by decide +kernel) (pc' := 94) (ls' := [(2, Int.ofNat o0), (3, 0), (0, v2), (3, 0), (3, 0)]) (st' := [(0, 0), (0, 13), (2, Int.ofNat (o0 + 33))]) rfl ?_
  refine jEv.ast (Or.inl ⟨rfl, rfl, rfl⟩) (show jfI 298 94 (.iastore) 1 [] = true by decide +kernel) (isX12_a45 ho0) rfl H (fun c11 H => ?_)
  refine jEv.blk [(.iconst 0, 1, []), (.istore 4, 2, [])] (by decide +kernel) (pc' := 98) (ls' := [(2, Int.ofNat o0), (3, 0), (0, v2), (3, 0), (0, 0)]) (st' := []) rfl ?_
  exact t_M_areLaid_L98 (T := T) (xs := xs) (y := y) hd ho0 H HY
set_option maxRecDepth 20000 in
noncomputable def M_areLaid_B62  (h : jH) (o0 : Nat) (v1 : Int) (v2 : Int) (v3 : Int) (v4 : Int) : Option ((Int × Int × jH) ⊕ (Int × jH)) := (if v4 < v1 then (if v2 = 0 then Option.map Sum.inr (M_areLaid_p87 h o0 v2) else Option.bind (M_isLaid h o0 (wr (v3 + v4))) (fun b10 => some (.inl (b10.1, (wr (v4 + 1)), b10.2)))) else Option.map Sum.inr (M_areLaid_p87 h o0 v2))
noncomputable def M_areLaid_L62  (h : jH) (o0 : Nat) (v1 : Int) (v2 : Int) (v3 : Int) (v4 : Int) : Option (Int × jH) := jloop (fun s : (Int × Int × jH) => M_areLaid_B62 s.2.2 o0 v1 s.1 v3 s.2.1) (v2, v4, h)
set_option maxRecDepth 20000 in
theorem t_M_areLaid_B62 {T : jT} {xs : List Int} {d : Nat} {y : jV × jS} (hd : 4 ≤ d) {h : jH}  {o0 : Nat} {v1 : Int} {v2 : Int} {v3 : Int} {v4 : Int} {out : ((Int × Int × jH) ⊕ (Int × jH))} (ho0 : isX12 T o0) (H : M_areLaid_B62 h o0 v1 v2 v3 v4 = some out) (HY : yk_M_areLaid_L62 T xs d y o0 v1 v3 out) : jEv xs d (298, 62, [(2, Int.ofNat o0), (0, v1), (0, v2), (0, v3), (0, v4)], []) (T, h) y := by
  unfold M_areLaid_B62 at H
  refine jEv.blk [(.iload 4, 2, []), (.iload_n 1, 1, [])] (by decide +kernel) (pc' := 65) (ls' := [(2, Int.ofNat o0), (0, v1), (0, v2), (0, v3), (0, v4)]) (st' := [(0, v1), (0, v4)]) rfl ?_
  refine jEv.ic_ge (t := 87) (show jfI 298 65 (.if_icmp .ge 22) 3 [] = true by decide +kernel) rfl H (fun c8 H => ?_) (fun c8 H => ?_)
  · refine jEv.blk [(.iload_n 2, 1, [])] (by decide +kernel) (pc' := 69) (ls' := [(2, Int.ofNat o0), (0, v1), (0, v2), (0, v3), (0, v4)]) (st' := [(0, v2)]) rfl ?_
    refine jEv.if_eq (t := 87) (show jfI 298 69 (.ifCond .eq 18) 3 [] = true by decide +kernel) rfl H (fun c9 H => ?_) (fun c9 H => ?_)
    · refine jmapr H HY (fun out H (HY : ykI T y out) => ?_)
      exact jEv.weak (a := [(2, Int.ofNat o0), (3, 0), (0, v2), (3, 0), (3, 0)]) (jles.c1 (jles.c0 (jles.c1 (jles.c0 (jles.c0 jles.nl))))) (t_M_areLaid_p87 (T := T) (xs := xs) (y := y) hd ho0 H HY)
    · refine jEv.blk [(.aload_n 0, 1, []), (.iload_n 3, 1, []), (.iload 4, 2, []), (.iadd, 1, [])] (by decide +kernel) (pc' := 77) (ls' := [(2, Int.ofNat o0), (0, v1), (0, v2), (0, v3), (0, v4)]) (st' := [(0, (wr (v3 + v4))), (2, Int.ofNat o0)]) rfl ?_
      refine jbind H (fun b10 Hb10 H => ?_)
      refine jEv.calV (st' := [(0, b10.1)]) (show jfI 298 77 (.invokevirtual 433) 3 [1, 299, 1, 10042] = true by decide +kernel) rfl (Or.inl rfl) rfl (Nat.le_of_ble_eq_true rfl) (by decide +kernel) (by decide) (isX12_L ho0) ((t_M_isLaid (T := T) (xs := xs) ho0 Hb10).mono (jKle 4 hd)) rfl ?_
      refine jEv.blk [(.istore_n 2, 1, []), (.iinc 4 1, 3, [])] (by decide +kernel) (pc' := 84) (ls' := [(2, Int.ofNat o0), (0, v1), (0, b10.1), (0, v3), (0, (wr (v4 + 1)))]) (st' := []) rfl ?_
      refine jEv.goto (t := 62) (show jfI 298 84 (.goto (-22)) 3 [] = true by decide +kernel) rfl ?_
      exact (by cases H; exact HY)
  · refine jmapr H HY (fun out H (HY : ykI T y out) => ?_)
    exact jEv.weak (a := [(2, Int.ofNat o0), (3, 0), (0, v2), (3, 0), (3, 0)]) (jles.c1 (jles.c0 (jles.c1 (jles.c0 (jles.c0 jles.nl))))) (t_M_areLaid_p87 (T := T) (xs := xs) (y := y) hd ho0 H HY)
theorem t_M_areLaid_L62 {T : jT} {xs : List Int} {d : Nat} {y : jV × jS} (hd : 4 ≤ d) {h : jH}  {o0 : Nat} {v1 : Int} {v2 : Int} {v3 : Int} {v4 : Int} {out : (Int × jH)} (ho0 : isX12 T o0) (H : M_areLaid_L62 h o0 v1 v2 v3 v4 = some out) (HY : ykI T y out) : jEv xs d (298, 62, [(2, Int.ofNat o0), (0, v1), (0, v2), (0, v3), (0, v4)], []) (T, h) y :=
  jloop_sound (G := fun s : (Int × Int × jH) => jEv xs d (298, 62, [(2, Int.ofNat o0), (0, v1), (0, s.1), (0, v3), (0, s.2.1)], []) (T, s.2.2) y) (K := yk_M_areLaid_L62 T xs d y o0 v1 v3) (fun s out H HY => t_M_areLaid_B62 hd ho0 H HY) (fun s' hg => hg) (s := (v2, v4, h)) H HY
set_option maxRecDepth 20000 in
noncomputable def M_areLaid_B2  (h : jH) (o0 : Nat) (v1 : Int) (v2 : Int) : Option ((Int × jH) ⊕ (Int × jH)) := (if v2 < 2244 then (if (0 : Int) ≤ v2 ∧ (v2 : Int).toNat < 2365 then (if (0 : Int) ≤ v2 ∧ (v2 : Int).toNat < 2244 then some (.inl ((wr (v2 + 1)), (jup h (o0 + 35) (v2 : Int).toNat (h (o0 + 33) (v2 : Int).toNat)))) else none) else none) else Option.map Sum.inr ((if (0 : Int) ≤ 1 ∧ (1 : Int).toNat < 2365 then (if (0 : Int) ≤ 11 ∧ (11 : Int).toNat < 2365 then (if (0 : Int) ≤ 5 ∧ (5 : Int).toNat < 2365 then (if (0 : Int) ≤ 13 ∧ (13 : Int).toNat < 2365 then M_areLaid_L62 (jup h (o0 + 33) (13 : Int).toNat (wr ((h (o0 + 33) (5 : Int).toNat) + 1))) o0 v1 1 (wr ((h (o0 + 33) (1 : Int).toNat) - (h (o0 + 33) (11 : Int).toNat))) 0 else none) else none) else none) else none)))
noncomputable def M_areLaid_L2  (h : jH) (o0 : Nat) (v1 : Int) (v2 : Int) : Option (Int × jH) := jloop (fun s : (Int × jH) => M_areLaid_B2 s.2 o0 v1 s.1) (v2, h)
set_option maxRecDepth 20000 in
theorem t_M_areLaid_B2 {T : jT} {xs : List Int} {d : Nat} {y : jV × jS} (hd : 4 ≤ d) {h : jH}  {o0 : Nat} {v1 : Int} {v2 : Int} {out : ((Int × jH) ⊕ (Int × jH))} (ho0 : isX12 T o0) (H : M_areLaid_B2 h o0 v1 v2 = some out) (HY : yk_M_areLaid_L2 T xs d y o0 v1 out) : jEv xs d (298, 2, [(2, Int.ofNat o0), (0, v1), (0, v2), (3, 0), (3, 0)], []) (T, h) y := by
  unfold M_areLaid_B2 at H
  refine jEv.blk [(.iload_n 2, 1, []), (.sipush 2244, 3, [])] (by decide +kernel) (pc' := 6) (ls' := [(2, Int.ofNat o0), (0, v1), (0, v2), (3, 0), (3, 0)]) (st' := [(0, 2244), (0, v2)]) rfl ?_
  refine jEv.ic_ge (t := 27) (show jfI 298 6 (.if_icmp .ge 21) 3 [] = true by decide +kernel) rfl H (fun c1 H => ?_) (fun c1 H => ?_)
  · refine jEv.blk [(.aload_n 0, 1, [])] (by decide +kernel) (pc' := 10) (ls' := [(2, Int.ofNat o0), (0, v1), (0, v2), (3, 0), (3, 0)]) (st' := [(2, Int.ofNat o0)]) rfl ?_
    refine jEv.gfR (o' := (o0 + 35)) (show jfI 298 10 (.getfield 117) 3 [12, 51, 5, 0, 7087] = true by decide +kernel) (isX12_L ho0) (by decide) (isX12_r51 ho0) ?_
    refine jEv.blk [(.iload_n 2, 1, []), (.aload_n 0, 1, [])] (by decide +kernel) (pc' := 15) (ls' := [(2, Int.ofNat o0), (0, v1), (0, v2), (3, 0), (3, 0)]) (st' := [(2, Int.ofNat o0), (0, v2), (2, Int.ofNat (o0 + 35))]) rfl ?_
    refine jEv.gfR (o' := (o0 + 33)) (show jfI 298 15 (.getfield 111) 3 [12, 45, 5, 0, 7081] = true by decide +kernel) (isX12_L ho0) (by decide) (isX12_r45 ho0) ?_
    refine jEv.blk [(.iload_n 2, 1, [])] (by decide +kernel) (pc' := 19) (ls' := [(2, Int.ofNat o0), (0, v1), (0, v2), (3, 0), (3, 0)]) (st' := [(0, v2), (2, Int.ofNat (o0 + 33)), (0, v2), (2, Int.ofNat (o0 + 35))]) rfl ?_
    refine jEv.ald (Or.inl ⟨rfl, rfl, rfl⟩) (show jfI 298 19 (.iaload) 1 [] = true by decide +kernel) (isX12_a45 ho0) H (fun c2 H => ?_)
    refine jEv.ast (Or.inl ⟨rfl, rfl, rfl⟩) (show jfI 298 20 (.iastore) 1 [] = true by decide +kernel) (isX12_a51 ho0) rfl H (fun c3 H => ?_)
    refine jEv.blk [(.iinc 2 1, 3, [])] (by decide +kernel) (pc' := 24) (ls' := [(2, Int.ofNat o0), (0, v1), (0, (wr (v2 + 1))), (3, 0), (3, 0)]) (st' := []) rfl ?_
    refine jEv.goto (t := 2) (show jfI 298 24 (.goto (-22)) 3 [] = true by decide +kernel) rfl ?_
    exact (by cases H; exact HY)
  · refine jmapr H HY (fun out H (HY : ykI T y out) => ?_)
    refine jEv.blk [(.iconst 1, 1, []), (.istore_n 2, 1, []), (.aload_n 0, 1, [])] (by decide +kernel) (pc' := 30) (ls' := [(2, Int.ofNat o0), (0, v1), (0, 1), (3, 0), (3, 0)]) (st' := [(2, Int.ofNat o0)]) rfl ?_
    refine jEv.gfR (o' := (o0 + 33)) (show jfI 298 30 (.getfield 111) 3 [12, 45, 5, 0, 7081] = true by decide +kernel) (isX12_L ho0) (by decide) (isX12_r45 ho0) ?_
    refine jEv.blk [(.iconst 1, 1, [])] (by decide +kernel) (pc' := 34) (ls' := [(2, Int.ofNat o0), (0, v1), (0, 1), (3, 0), (3, 0)]) (st' := [(0, 1), (2, Int.ofNat (o0 + 33))]) rfl ?_
    refine jEv.ald (Or.inl ⟨rfl, rfl, rfl⟩) (show jfI 298 34 (.iaload) 1 [] = true by decide +kernel) (isX12_a45 ho0) H (fun c4 H => ?_)
    refine jEv.blk [(.aload_n 0, 1, [])] (by decide +kernel) (pc' := 36) (ls' := [(2, Int.ofNat o0), (0, v1), (0, 1), (3, 0), (3, 0)]) (st' := [(2, Int.ofNat o0), (0, (h (o0 + 33) (1 : Int).toNat))]) rfl ?_
    refine jEv.gfR (o' := (o0 + 33)) (show jfI 298 36 (.getfield 111) 3 [12, 45, 5, 0, 7081] = true by decide +kernel) (isX12_L ho0) (by decide) (isX12_r45 ho0) ?_
    refine jEv.blk [(.bipush 11, 2, [])] (by decide +kernel) (pc' := 41) (ls' := [(2, Int.ofNat o0), (0, v1), (0, 1), (3, 0), (3, 0)]) (st' := [(0, 11), (2, Int.ofNat (o0 + 33)), (0, (h (o0 + 33) (1 : Int).toNat))]) rfl ?_
    refine jEv.ald (Or.inl ⟨rfl, rfl, rfl⟩) (show jfI 298 41 (.iaload) 1 [] = true by decide +kernel) (isX12_a45 ho0) H (fun c5 H => ?_)
    refine jEv.blk [(.isub, 1, []), (.istore_n 3, 1, []), (.aload_n 0, 1, [])] (by decide +kernel) (pc' := 45) (ls' := [(2, Int.ofNat o0), (0, v1), (0, 1), (0, (wr ((h (o0 + 33) (1 : Int).toNat) - (h (o0 + 33) (11 : Int).toNat)))), (3, 0)]) (st' := [(2, Int.ofNat o0)]) rfl ?_
    refine jEv.gfR (o' := (o0 + 33)) (show jfI 298 45 (.getfield 111) 3 [12, 45, 5, 0, 7081] = true by decide +kernel) (isX12_L ho0) (by decide) (isX12_r45 ho0) ?_
    refine jEv.blk [(.bipush 13, 2, []), (.aload_n 0, 1, [])] (by decide +kernel) (pc' := 51) (ls' := [(2, Int.ofNat o0), (0, v1), (0, 1), (0, (wr ((h (o0 + 33) (1 : Int).toNat) - (h (o0 + 33) (11 : Int).toNat)))), (3, 0)]) (st' := [(2, Int.ofNat o0), (0, 13), (2, Int.ofNat (o0 + 33))]) rfl ?_
    refine jEv.gfR (o' := (o0 + 33)) (show jfI 298 51 (.getfield 111) 3 [12, 45, 5, 0, 7081] = true by decide +kernel) (isX12_L ho0) (by decide) (isX12_r45 ho0) ?_
    refine jEv.blk [(.iconst 5, 1, [])] (by decide +kernel) (pc' := 55) (ls' := [(2, Int.ofNat o0), (0, v1), (0, 1), (0, (wr ((h (o0 + 33) (1 : Int).toNat) - (h (o0 + 33) (11 : Int).toNat)))), (3, 0)]) (st' := [(0, 5), (2, Int.ofNat (o0 + 33)), (0, 13), (2, Int.ofNat (o0 + 33))]) rfl ?_
    refine jEv.ald (Or.inl ⟨rfl, rfl, rfl⟩) (show jfI 298 55 (.iaload) 1 [] = true by decide +kernel) (isX12_a45 ho0) H (fun c6 H => ?_)
    refine jEv.blk [(.iconst 1, 1, []), (.iadd, 1, [])] (by decide +kernel) (pc' := 58) (ls' := [(2, Int.ofNat o0), (0, v1), (0, 1), (0, (wr ((h (o0 + 33) (1 : Int).toNat) - (h (o0 + 33) (11 : Int).toNat)))), (3, 0)]) (st' := [(0, (wr ((h (o0 + 33) (5 : Int).toNat) + 1))), (0, 13), (2, Int.ofNat (o0 + 33))]) rfl ?_
    refine jEv.ast (Or.inl ⟨rfl, rfl, rfl⟩) (show jfI 298 58 (.iastore) 1 [] = true by decide +kernel) (isX12_a45 ho0) rfl H (fun c7 H => ?_)
    refine jEv.blk [(.iconst 0, 1, []), (.istore 4, 2, [])] (by decide +kernel) (pc' := 62) (ls' := [(2, Int.ofNat o0), (0, v1), (0, 1), (0, (wr ((h (o0 + 33) (1 : Int).toNat) - (h (o0 + 33) (11 : Int).toNat)))), (0, 0)]) (st' := []) rfl ?_
    exact t_M_areLaid_L62 (T := T) (xs := xs) (y := y) hd ho0 H HY
theorem t_M_areLaid_L2 {T : jT} {xs : List Int} {d : Nat} {y : jV × jS} (hd : 4 ≤ d) {h : jH}  {o0 : Nat} {v1 : Int} {v2 : Int} {out : (Int × jH)} (ho0 : isX12 T o0) (H : M_areLaid_L2 h o0 v1 v2 = some out) (HY : ykI T y out) : jEv xs d (298, 2, [(2, Int.ofNat o0), (0, v1), (0, v2), (3, 0), (3, 0)], []) (T, h) y :=
  jloop_sound (G := fun s : (Int × jH) => jEv xs d (298, 2, [(2, Int.ofNat o0), (0, v1), (0, s.1), (3, 0), (3, 0)], []) (T, s.2) y) (K := yk_M_areLaid_L2 T xs d y o0 v1) (fun s out H HY => t_M_areLaid_B2 hd ho0 H HY) (fun s' hg => hg) (s := (v2, h)) H HY
set_option maxRecDepth 20000 in
noncomputable def M_areLaid  (h : jH) (o0 : Nat) (v1 : Int) : Option (Int × jH) := M_areLaid_L2 h o0 v1 0
set_option maxRecDepth 20000 in
theorem t_M_areLaid {T : jT} {xs : List Int} {h : jH}  {o0 : Nat} {v1 : Int} {out : (Int × jH)} (ho0 : isX12 T o0) (H : M_areLaid h o0 v1 = some out) : jEm xs 5 298 [(2, Int.ofNat o0), (0, v1)] (T, h) ((0, out.1), (T, out.2)) := by
  have hd : 4 ≤ 4 := Nat.le_refl _
  obtain ⟨y, ey⟩ : ∃ y : jV × jS, y = ((0, out.1), (T, out.2)) := ⟨_, rfl⟩
  rw [← ey]
  have HY : ykI T y out := ey
  refine jEm.ent (n := 5) (by decide +kernel) (Nat.le_of_ble_eq_true rfl) ?_
  show jEv xs 4 (298, 0, [(2, Int.ofNat o0), (0, v1), (3, 0), (3, 0), (3, 0)], []) (T, h) y
  unfold M_areLaid at H
  refine jEv.blk [(.iconst 0, 1, []), (.istore_n 2, 1, [])] (by decide +kernel) (pc' := 2) (ls' := [(2, Int.ofNat o0), (0, v1), (0, 0), (3, 0), (3, 0)]) (st' := []) rfl ?_
  exact t_M_areLaid_L2 (T := T) (xs := xs) (y := y) hd ho0 H HY
set_option maxRecDepth 20000 in
noncomputable def M_ticksFor_p26  (h : jH) (vs0 : Int) : Option (Int × jH) := (if (jcmp vs0 1) < 0 then some (1, h) else (if 0 < (jcmp vs0 99) then some (99, h) else some ((wr vs0), h)))
set_option maxRecDepth 20000 in
theorem t_M_ticksFor_p26 {T : jT} {xs : List Int} {d : Nat} {y : jV × jS} (hd : 7 ≤ d) {h : jH}  {vs0 : Int} {out : (Int × jH)}  (H : M_ticksFor_p26 h vs0 = some out) (HY : ykI T y out) : jEv xs d (305, 26, [(3, 0), (3, 0), (3, 0)], [(1, vs0)]) (T, h) y := by
  unfold M_ticksFor_p26 at H
  refine jEv.blk [(.lstore_n 1, 1, []), (.lload_n 1, 1, []), (.lconst 1, 1, []), (.lcmp, 1, [])] (by decide +kernel) (pc' := 30) (ls' := [(3, 0), (1, vs0), (3, 0)]) (st' := [(0, (jcmp vs0 1))]) rfl ?_
  refine jEv.if_ge (t := 37) (show jfI 305 30 (.ifCond .ge 7) 3 [] = true by decide +kernel) rfl H (fun c4 H => ?_) (fun c4 H => ?_)
  · refine jEv.blk [(.iconst 1, 1, [])] (by decide +kernel) (pc' := 34) (ls' := [(3, 0), (1, vs0), (3, 0)]) (st' := [(0, 1)]) rfl ?_
    refine jEv.goto (t := 52) (show jfI 305 34 (.goto 18) 3 [] = true by decide +kernel) rfl ?_
    exact jEv.retI (show jfI 305 52 (.ireturn) 1 [] = true by decide +kernel) (by decide +kernel) (by cases H; exact HY)
  · refine jEv.blk [(.lload_n 1, 1, []), (.ldc2_w 452, 3, [1, 0, 99, 10070]), (.lcmp, 1, [])] (by decide +kernel) (pc' := 42) (ls' := [(3, 0), (1, vs0), (3, 0)]) (st' := [(0, (jcmp vs0 99))]) rfl ?_
    refine jEv.if_le (t := 50) (show jfI 305 42 (.ifCond .le 8) 3 [] = true by decide +kernel) rfl H (fun c5 H => ?_) (fun c5 H => ?_)
    · refine jEv.blk [(.bipush 99, 2, [])] (by decide +kernel) (pc' := 47) (ls' := [(3, 0), (1, vs0), (3, 0)]) (st' := [(0, 99)]) rfl ?_
      refine jEv.goto (t := 52) (show jfI 305 47 (.goto 5) 3 [] = true by decide +kernel) rfl ?_
      exact jEv.retI (show jfI 305 52 (.ireturn) 1 [] = true by decide +kernel) (by decide +kernel) (by cases H; exact HY)
    · refine jEv.blk [(.lload_n 1, 1, []), (.l2i, 1, [])] (by decide +kernel) (pc' := 52) (ls' := [(3, 0), (1, vs0), (3, 0)]) (st' := [(0, (wr vs0))]) rfl ?_
      exact jEv.retI (show jfI 305 52 (.ireturn) 1 [] = true by decide +kernel) (by decide +kernel) (by cases H; exact HY)
set_option maxRecDepth 20000 in
noncomputable def M_ticksFor  (h : jH) (o0 : Nat) : Option (Int × jH) := Option.bind (M_isCoded h o0 1) (fun b1 => (if b1 = 0 then M_ticksFor_p26 h (wl (1 + (wr (Int.tdiv (h o0 47) 16)))) else Option.bind (M_codesTell h o0 1) (fun b3 => M_ticksFor_p26 b3.2 b3.1)))
set_option maxRecDepth 20000 in
theorem t_M_ticksFor {T : jT} {xs : List Int} {h : jH}  {o0 : Nat} {out : (Int × jH)} (ho0 : isX12 T o0) (H : M_ticksFor h o0 = some out) : jEm xs 8 305 [(2, Int.ofNat o0)] (T, h) ((0, out.1), (T, out.2)) := by
  have hd : 7 ≤ 7 := Nat.le_refl _
  obtain ⟨y, ey⟩ : ∃ y : jV × jS, y = ((0, out.1), (T, out.2)) := ⟨_, rfl⟩
  rw [← ey]
  have HY : ykI T y out := ey
  refine jEm.ent (n := 3) (by decide +kernel) (Nat.le_of_ble_eq_true rfl) ?_
  show jEv xs 7 (305, 0, [(2, Int.ofNat o0), (3, 0), (3, 0)], []) (T, h) y
  unfold M_ticksFor at H
  refine jEv.blk [(.aload_n 0, 1, []), (.iconst 1, 1, [])] (by decide +kernel) (pc' := 2) (ls' := [(2, Int.ofNat o0), (3, 0), (3, 0)]) (st' := [(0, 1), (2, Int.ofNat o0)]) rfl ?_
  refine jbind H (fun b1 Hb1 H => ?_)
  refine jEv.calV (st' := [(0, b1)]) (show jfI 305 2 (.invokevirtual 445) 3 [1, 291, 1, 10010] = true by decide +kernel) rfl (Or.inl rfl) rfl (Nat.le_of_ble_eq_true rfl) (by decide +kernel) (by decide) (isX12_L ho0) ((t_M_isCoded (T := T) (xs := xs) ho0 Hb1).mono (jKle 1 hd)) rfl ?_
  refine jEv.if_eq (t := 16) (show jfI 305 5 (.ifCond .eq 11) 3 [] = true by decide +kernel) rfl H (fun c2 H => ?_) (fun c2 H => ?_)
  · refine jEv.blk [(.lconst 1, 1, []), (.aload_n 0, 1, [])] (by decide +kernel) (pc' := 18) (ls' := [(2, Int.ofNat o0), (3, 0), (3, 0)]) (st' := [(2, Int.ofNat o0), (1, 1)]) rfl ?_
    refine jEv.gfI (show jfI 305 18 (.getfield 439) 3 [12, 47, 0, 0, 7083] = true by decide +kernel) (isX12_L ho0) (by decide) ?_
    refine jEv.blk [(.bipush 16, 2, [])] (by decide +kernel) (pc' := 23) (ls' := [(2, Int.ofNat o0), (3, 0), (3, 0)]) (st' := [(0, 16), (0, (h o0 47)), (1, 1)]) rfl ?_
    refine jEv.idiv (show jfI 305 23 (.idiv) 1 [] = true by decide +kernel) (by decide) ?_
    refine jEv.blk [(.i2l, 1, []), (.ladd, 1, [])] (by decide +kernel) (pc' := 26) (ls' := [(2, Int.ofNat o0), (3, 0), (3, 0)]) (st' := [(1, (wl (1 + (wr (Int.tdiv (h o0 47) 16)))))]) rfl ?_
    exact jEv.weak (a := [(3, 0), (3, 0), (3, 0)]) (jles.c0 (jles.c0 (jles.c0 jles.nl))) (t_M_ticksFor_p26 (T := T) (xs := xs) (y := y) hd H HY)
  · refine jEv.blk [(.aload_n 0, 1, []), (.iconst 1, 1, [])] (by decide +kernel) (pc' := 10) (ls' := [(2, Int.ofNat o0), (3, 0), (3, 0)]) (st' := [(0, 1), (2, Int.ofNat o0)]) rfl ?_
    refine jbind H (fun b3 Hb3 H => ?_)
    refine jEv.calV (st' := [(1, b3.1)]) (show jfI 305 10 (.invokevirtual 448) 3 [1, 292, 1, 10014] = true by decide +kernel) rfl (Or.inl rfl) rfl (Nat.le_of_ble_eq_true rfl) (by decide +kernel) (by decide) (isX12_L ho0) ((t_M_codesTell (T := T) (xs := xs) ho0 Hb3).mono (jKle 7 hd)) rfl ?_
    refine jEv.goto (t := 26) (show jfI 305 13 (.goto 13) 3 [] = true by decide +kernel) rfl ?_
    exact jEv.weak (a := [(3, 0), (3, 0), (3, 0)]) (jles.c0 (jles.c0 (jles.c0 jles.nl))) (t_M_ticksFor_p26 (T := T) (xs := xs) (y := y) hd H HY)
set_option maxRecDepth 20000 in
noncomputable def M_groupCloses_p73  (h : jH) (o0 : Nat) (vs0 : Int) : Option jH := Option.bind (M_areLaid h o0 vs0) (fun b12 => (if b12.1 = 0 then some b12.2 else Option.bind (M_asksOf b12.2 o0 vs0) (fun b14 => Option.bind (M_ticksFor b14 o0) (fun b15 => (if (0 : Int) ≤ 3 ∧ (3 : Int).toNat < 2365 then (if (0 : Int) ≤ 11 ∧ (11 : Int).toNat < 2365 then (if (0 : Int) ≤ 11 ∧ (11 : Int).toNat < 2365 then some (jup (jup b15.2 (o0 + 33) (3 : Int).toNat b15.1) (o0 + 33) (11 : Int).toNat (wr (((jup b15.2 (o0 + 33) (3 : Int).toNat b15.1) (o0 + 33) (11 : Int).toNat) - vs0))) else none) else none) else none)))))
set_option maxRecDepth 20000 in
theorem t_M_groupCloses_p73 {T : jT} {xs : List Int} {d : Nat} {y : jV × jS} (hd : 8 ≤ d) {h : jH}  {o0 : Nat} {vs0 : Int} {out : jH} (ho0 : isX12 T o0) (H : M_groupCloses_p73 h o0 vs0 = some out) (HY : ykV T y out) : jEv xs d (287, 73, [(2, Int.ofNat o0), (3, 0)], [(0, vs0)]) (T, h) y := by
  unfold M_groupCloses_p73 at H
  refine jEv.blk [(.istore_n 1, 1, []), (.aload_n 0, 1, []), (.iload_n 1, 1, [])] (by decide +kernel) (pc' := 76) (ls' := [(2, Int.ofNat o0), (0, vs0)]) (st' := [(0, vs0), (2, Int.ofNat o0)]) rfl ?_
  refine jbind H (fun b12 Hb12 H => ?_)
  refine jEv.calV (st' := [(0, b12.1)]) (show jfI 287 76 (.invokevirtual 458) 3 [1, 298, 1, 10038] = true by decide +kernel) rfl (Or.inl rfl) rfl (Nat.le_of_ble_eq_true rfl) (by decide +kernel) (by decide) (isX12_L ho0) ((t_M_areLaid (T := T) (xs := xs) ho0 Hb12).mono (jKle 5 hd)) rfl ?_
  refine jEv.if_ne (t := 83) (show jfI 287 79 (.ifCond .ne 4) 3 [] = true by decide +kernel) rfl H (fun c13 H => ?_) (fun c13 H => ?_)
  · exact jEv.retV (show jfI 287 82 (.return_) 1 [] = true by decide +kernel) (by decide +kernel) (by cases H; exact HY)
  · refine jEv.blk [(.aload_n 0, 1, []), (.iload_n 1, 1, [])] (by decide +kernel) (pc' := 85) (ls' := [(2, Int.ofNat o0), (0, vs0)]) (st' := [(0, vs0), (2, Int.ofNat o0)]) rfl ?_
    refine jbind H (fun b14 Hb14 H => ?_)
    refine jEv.calV (st' := []) (show jfI 287 85 (.invokevirtual 442) 3 [1, 289, 1, 10002] = true by decide +kernel) rfl (Or.inl rfl) rfl (Nat.le_of_ble_eq_true rfl) (by decide +kernel) (by decide) (isX12_L ho0) ((t_M_asksOf (T := T) (xs := xs) ho0 Hb14).mono (jKle 3 hd)) rfl ?_
    refine jEv.blk [(.aload_n 0, 1, [])] (by decide +kernel) (pc' := 89) (ls' := [(2, Int.ofNat o0), (0, vs0)]) (st' := [(2, Int.ofNat o0)]) rfl ?_
    refine jEv.gfR (o' := (o0 + 33)) (show jfI 287 89 (.getfield 111) 3 [12, 45, 5, 0, 7081] = true by decide +kernel) (isX12_L ho0) (by decide) (isX12_r45 ho0) ?_
    refine jEv.blk [(.iconst 3, 1, []), (.aload_n 0, 1, [])] (by decide +kernel) (pc' := 94) (ls' := [(2, Int.ofNat o0), (0, vs0)]) (st' := [(2, Int.ofNat o0), (0, 3), (2, Int.ofNat (o0 + 33))]) rfl ?_
    refine jbind H (fun b15 Hb15 H => ?_)
    refine jEv.calV (st' := [(0, b15.1), (0, 3), (2, Int.ofNat (o0 + 33))]) (show jfI 287 94 (.invokevirtual 461) 3 [1, 305, 0, 10066] = true by decide +kernel) rfl (Or.inl rfl) rfl (Nat.le_of_ble_eq_true rfl) (by decide +kernel) (by decide) (isX12_L ho0) ((t_M_ticksFor (T := T) (xs := xs) ho0 Hb15).mono (jKle 8 hd)) rfl ?_
    refine jEv.ast (Or.inl ⟨rfl, rfl, rfl⟩) (show jfI 287 97 (.iastore) 1 [] = true by decide +kernel) (isX12_a45 ho0) rfl H (fun c16 H => ?_)
    refine jEv.blk [(.aload_n 0, 1, [])] (by decide +kernel) (pc' := 99) (ls' := [(2, Int.ofNat o0), (0, vs0)]) (st' := [(2, Int.ofNat o0)]) rfl ?_
    refine jEv.gfR (o' := (o0 + 33)) (show jfI 287 99 (.getfield 111) 3 [12, 45, 5, 0, 7081] = true by decide +kernel) (isX12_L ho0) (by decide) (isX12_r45 ho0) ?_
    refine jEv.blk [(.bipush 11, 2, []), (.dup2, 1, [])] (by decide +kernel) (pc' := 105) (ls' := [(2, Int.ofNat o0), (0, vs0)]) (st' := [(0, 11), (2, Int.ofNat (o0 + 33)), (0, 11), (2, Int.ofNat (o0 + 33))]) rfl ?_
    refine jEv.ald (Or.inl ⟨rfl, rfl, rfl⟩) (show jfI 287 105 (.iaload) 1 [] = true by decide +kernel) (isX12_a45 ho0) H (fun c17 H => ?_)
    refine jEv.blk [(.iload_n 1, 1, []), (.isub, 1, [])] (by decide +kernel) (pc' := 108) (ls' := [(2, Int.ofNat o0), (0, vs0)]) (st' := [(0, (wr (((jup b15.2 (o0 + 33) (3 : Int).toNat b15.1) (o0 + 33) (11 : Int).toNat) - vs0))), (0, 11), (2, Int.ofNat (o0 + 33))]) rfl ?_
    refine jEv.ast (Or.inl ⟨rfl, rfl, rfl⟩) (show jfI 287 108 (.iastore) 1 [] = true by decide +kernel) (isX12_a45 ho0) rfl H (fun c18 H => ?_)
    exact jEv.retV (show jfI 287 109 (.return_) 1 [] = true by decide +kernel) (by decide +kernel) (by cases H; exact HY)
set_option maxRecDepth 20000 in
noncomputable def M_groupCloses_p59  (h : jH) (o0 : Nat) : Option jH := (if (0 : Int) ≤ 11 ∧ (11 : Int).toNat < 2365 then M_groupCloses_p73 h o0 (h (o0 + 33) (11 : Int).toNat) else none)
set_option maxRecDepth 20000 in
theorem t_M_groupCloses_p59 {T : jT} {xs : List Int} {d : Nat} {y : jV × jS} (hd : 8 ≤ d) {h : jH}  {o0 : Nat} {out : jH} (ho0 : isX12 T o0) (H : M_groupCloses_p59 h o0 = some out) (HY : ykV T y out) : jEv xs d (287, 59, [(2, Int.ofNat o0), (3, 0)], []) (T, h) y := by
  unfold M_groupCloses_p59 at H
  refine jEv.blk [(.aload_n 0, 1, [])] (by decide +kernel) (pc' := 60) (ls' := [(2, Int.ofNat o0), (3, 0)]) (st' := [(2, Int.ofNat o0)]) rfl ?_
  refine jEv.gfR (o' := (o0 + 33)) (show jfI 287 60 (.getfield 111) 3 [12, 45, 5, 0, 7081] = true by decide +kernel) (isX12_L ho0) (by decide) (isX12_r45 ho0) ?_
  refine jEv.blk [(.bipush 11, 2, [])] (by decide +kernel) (pc' := 65) (ls' := [(2, Int.ofNat o0), (3, 0)]) (st' := [(0, 11), (2, Int.ofNat (o0 + 33))]) rfl ?_
  refine jEv.ald (Or.inl ⟨rfl, rfl, rfl⟩) (show jfI 287 65 (.iaload) 1 [] = true by decide +kernel) (isX12_a45 ho0) H (fun c11 H => ?_)
  refine jEv.goto (t := 73) (show jfI 287 66 (.goto 7) 3 [] = true by decide +kernel) rfl ?_
  exact t_M_groupCloses_p73 (T := T) (xs := xs) (y := y) hd ho0 H HY
set_option maxRecDepth 20000 in
noncomputable def M_groupCloses_p37  (h : jH) (o0 : Nat) : Option jH := (if (h o0 52) = (-1) then M_groupCloses_p59 h o0 else (if (0 : Int) ≤ 11 ∧ (11 : Int).toNat < 2365 then (if (h (o0 + 33) (11 : Int).toNat) < (h o0 52) then M_groupCloses_p59 h o0 else M_groupCloses_p73 h o0 (h o0 52)) else none))
set_option maxRecDepth 20000 in
theorem t_M_groupCloses_p37 {T : jT} {xs : List Int} {d : Nat} {y : jV × jS} (hd : 8 ≤ d) {h : jH}  {o0 : Nat} {out : jH} (ho0 : isX12 T o0) (H : M_groupCloses_p37 h o0 = some out) (HY : ykV T y out) : jEv xs d (287, 37, [(2, Int.ofNat o0), (3, 0)], []) (T, h) y := by
  unfold M_groupCloses_p37 at H
  refine jEv.blk [(.aload_n 0, 1, [])] (by decide +kernel) (pc' := 38) (ls' := [(2, Int.ofNat o0), (3, 0)]) (st' := [(2, Int.ofNat o0)]) rfl ?_
  refine jEv.gfI (show jfI 287 38 (.getfield 120) 3 [12, 52, 0, 0, 7088] = true by decide +kernel) (isX12_L ho0) (by decide) ?_
  refine jEv.blk [(.iconst (-1), 1, [])] (by decide +kernel) (pc' := 42) (ls' := [(2, Int.ofNat o0), (3, 0)]) (st' := [(0, (-1)), (0, (h o0 52))]) rfl ?_
  refine jEv.ic_eq (t := 59) (show jfI 287 42 (.if_icmp .eq 17) 3 [] = true by decide +kernel) rfl H (fun c8 H => ?_) (fun c8 H => ?_)
  · exact t_M_groupCloses_p59 (T := T) (xs := xs) (y := y) hd ho0 H HY
  · refine jEv.blk [(.aload_n 0, 1, [])] (by decide +kernel) (pc' := 46) (ls' := [(2, Int.ofNat o0), (3, 0)]) (st' := [(2, Int.ofNat o0)]) rfl ?_
    refine jEv.gfI (show jfI 287 46 (.getfield 120) 3 [12, 52, 0, 0, 7088] = true by decide +kernel) (isX12_L ho0) (by decide) ?_
    refine jEv.blk [(.aload_n 0, 1, [])] (by decide +kernel) (pc' := 50) (ls' := [(2, Int.ofNat o0), (3, 0)]) (st' := [(2, Int.ofNat o0), (0, (h o0 52))]) rfl ?_
    refine jEv.gfR (o' := (o0 + 33)) (show jfI 287 50 (.getfield 111) 3 [12, 45, 5, 0, 7081] = true by decide +kernel) (isX12_L ho0) (by decide) (isX12_r45 ho0) ?_
    refine jEv.blk [(.bipush 11, 2, [])] (by decide +kernel) (pc' := 55) (ls' := [(2, Int.ofNat o0), (3, 0)]) (st' := [(0, 11), (2, Int.ofNat (o0 + 33)), (0, (h o0 52))]) rfl ?_
    refine jEv.ald (Or.inl ⟨rfl, rfl, rfl⟩) (show jfI 287 55 (.iaload) 1 [] = true by decide +kernel) (isX12_a45 ho0) H (fun c9 H => ?_)
    refine jEv.ic_le (t := 69) (show jfI 287 56 (.if_icmp .le 13) 3 [] = true by decide +kernel) rfl H (fun c10 H => ?_) (fun c10 H => ?_)
    · exact t_M_groupCloses_p59 (T := T) (xs := xs) (y := y) hd ho0 H HY
    · refine jEv.blk [(.aload_n 0, 1, [])] (by decide +kernel) (pc' := 70) (ls' := [(2, Int.ofNat o0), (3, 0)]) (st' := [(2, Int.ofNat o0)]) rfl ?_
      refine jEv.gfI (show jfI 287 70 (.getfield 120) 3 [12, 52, 0, 0, 7088] = true by decide +kernel) (isX12_L ho0) (by decide) ?_
      exact t_M_groupCloses_p73 (T := T) (xs := xs) (y := y) hd ho0 H HY
set_option maxRecDepth 20000 in
noncomputable def M_groupCloses  (h : jH) (o0 : Nat) : Option jH := (if (0 : Int) ≤ 11 ∧ (11 : Int).toNat < 2365 then (if (h (o0 + 33) (11 : Int).toNat) = 0 then some h else (if (0 : Int) ≤ 10 ∧ (10 : Int).toNat < 2365 then (if (h (o0 + 33) (10 : Int).toNat) = 1 then some h else (if (h o0 52) = (-1) then Option.bind (M_doesClose h o0) (fun b6 => (if b6.1 = 0 then some b6.2 else M_groupCloses_p37 b6.2 o0)) else M_groupCloses_p37 h o0)) else none)) else none)
set_option maxRecDepth 20000 in
theorem t_M_groupCloses {T : jT} {xs : List Int} {h : jH}  {o0 : Nat} {out : jH} (ho0 : isX12 T o0) (H : M_groupCloses h o0 = some out) : jEm xs 9 287 [(2, Int.ofNat o0)] (T, h) ((3, 0), (T, out)) := by
  have hd : 8 ≤ 8 := Nat.le_refl _
  obtain ⟨y, ey⟩ : ∃ y : jV × jS, y = ((3, 0), (T, out)) := ⟨_, rfl⟩
  rw [← ey]
  have HY : ykV T y out := ey
  refine jEm.ent (n := 2) (by decide +kernel) (Nat.le_of_ble_eq_true rfl) ?_
  show jEv xs 8 (287, 0, [(2, Int.ofNat o0), (3, 0)], []) (T, h) y
  unfold M_groupCloses at H
  refine jEv.blk [(.aload_n 0, 1, [])] (by decide +kernel) (pc' := 1) (ls' := [(2, Int.ofNat o0), (3, 0)]) (st' := [(2, Int.ofNat o0)]) rfl ?_
  refine jEv.gfR (o' := (o0 + 33)) (show jfI 287 1 (.getfield 111) 3 [12, 45, 5, 0, 7081] = true by decide +kernel) (isX12_L ho0) (by decide) (isX12_r45 ho0) ?_
  refine jEv.blk [(.bipush 11, 2, [])] (by decide +kernel) (pc' := 6) (ls' := [(2, Int.ofNat o0), (3, 0)]) (st' := [(0, 11), (2, Int.ofNat (o0 + 33))]) rfl ?_
  refine jEv.ald (Or.inl ⟨rfl, rfl, rfl⟩) (show jfI 287 6 (.iaload) 1 [] = true by decide +kernel) (isX12_a45 ho0) H (fun c1 H => ?_)
  refine jEv.if_eq (t := 36) (show jfI 287 7 (.ifCond .eq 29) 3 [] = true by decide +kernel) rfl H (fun c2 H => ?_) (fun c2 H => ?_)
  · exact jEv.retV (show jfI 287 36 (.return_) 1 [] = true by decide +kernel) (by decide +kernel) (by cases H; exact HY)
  · refine jEv.blk [(.aload_n 0, 1, [])] (by decide +kernel) (pc' := 11) (ls' := [(2, Int.ofNat o0), (3, 0)]) (st' := [(2, Int.ofNat o0)]) rfl ?_
    refine jEv.gfR (o' := (o0 + 33)) (show jfI 287 11 (.getfield 111) 3 [12, 45, 5, 0, 7081] = true by decide +kernel) (isX12_L ho0) (by decide) (isX12_r45 ho0) ?_
    refine jEv.blk [(.bipush 10, 2, [])] (by decide +kernel) (pc' := 16) (ls' := [(2, Int.ofNat o0), (3, 0)]) (st' := [(0, 10), (2, Int.ofNat (o0 + 33))]) rfl ?_
    refine jEv.ald (Or.inl ⟨rfl, rfl, rfl⟩) (show jfI 287 16 (.iaload) 1 [] = true by decide +kernel) (isX12_a45 ho0) H (fun c3 H => ?_)
    refine jEv.blk [(.iconst 1, 1, [])] (by decide +kernel) (pc' := 18) (ls' := [(2, Int.ofNat o0), (3, 0)]) (st' := [(0, 1), (0, (h (o0 + 33) (10 : Int).toNat))]) rfl ?_
    refine jEv.ic_eq (t := 36) (show jfI 287 18 (.if_icmp .eq 18) 3 [] = true by decide +kernel) rfl H (fun c4 H => ?_) (fun c4 H => ?_)
    · exact jEv.retV (show jfI 287 36 (.return_) 1 [] = true by decide +kernel) (by decide +kernel) (by cases H; exact HY)
    · refine jEv.blk [(.aload_n 0, 1, [])] (by decide +kernel) (pc' := 22) (ls' := [(2, Int.ofNat o0), (3, 0)]) (st' := [(2, Int.ofNat o0)]) rfl ?_
      refine jEv.gfI (show jfI 287 22 (.getfield 120) 3 [12, 52, 0, 0, 7088] = true by decide +kernel) (isX12_L ho0) (by decide) ?_
      refine jEv.blk [(.iconst (-1), 1, [])] (by decide +kernel) (pc' := 26) (ls' := [(2, Int.ofNat o0), (3, 0)]) (st' := [(0, (-1)), (0, (h o0 52))]) rfl ?_
      refine jEv.ic_ne (t := 37) (show jfI 287 26 (.if_icmp .ne 11) 3 [] = true by decide +kernel) rfl H (fun c5 H => ?_) (fun c5 H => ?_)
      · refine jEv.blk [(.aload_n 0, 1, [])] (by decide +kernel) (pc' := 30) (ls' := [(2, Int.ofNat o0), (3, 0)]) (st' := [(2, Int.ofNat o0)]) rfl ?_
        refine jbind H (fun b6 Hb6 H => ?_)
        refine jEv.calV (st' := [(0, b6.1)]) (show jfI 287 30 (.invokevirtual 454) 3 [1, 288, 0, 9238] = true by decide +kernel) rfl (Or.inl rfl) rfl (Nat.le_of_ble_eq_true rfl) (by decide +kernel) (by decide) (isX12_L ho0) ((t_M_doesClose (T := T) (xs := xs) ho0 Hb6).mono (jKle 8 hd)) rfl ?_
        refine jEv.if_ne (t := 37) (show jfI 287 33 (.ifCond .ne 4) 3 [] = true by decide +kernel) rfl H (fun c7 H => ?_) (fun c7 H => ?_)
        · exact jEv.retV (show jfI 287 36 (.return_) 1 [] = true by decide +kernel) (by decide +kernel) (by cases H; exact HY)
        · exact t_M_groupCloses_p37 (T := T) (xs := xs) (y := y) hd ho0 H HY
      · exact t_M_groupCloses_p37 (T := T) (xs := xs) (y := y) hd ho0 H HY
def yk_M_tickGoes_L48 (T : jT) (xs : List Int) (d : Nat) (y : jV × jS)  (o0 : Nat) : (jH ⊕ jH) → Prop
  | .inl h => jEv xs d (283, 48, [(2, Int.ofNat o0)], []) (T, h) y
  | .inr o => ykV T y o
set_option maxRecDepth 20000 in
noncomputable def M_tickGoes_p151  (h : jH) (o0 : Nat) : Option jH := (if (0 : Int) ≤ 0 ∧ (0 : Int).toNat < 2365 then (if (0 : Int) ≤ 0 ∧ (0 : Int).toNat < 2365 then some (jup h (o0 + 33) (0 : Int).toNat (wr ((h (o0 + 33) (0 : Int).toNat) + 1))) else none) else none)
set_option maxRecDepth 20000 in
theorem t_M_tickGoes_p151 {T : jT} {xs : List Int} {d : Nat} {y : jV × jS} (hd : 9 ≤ d) {h : jH}  {o0 : Nat} {out : jH} (ho0 : isX12 T o0) (H : M_tickGoes_p151 h o0 = some out) (HY : ykV T y out) : jEv xs d (283, 151, [(2, Int.ofNat o0)], []) (T, h) y := by
  unfold M_tickGoes_p151 at H
  refine jEv.blk [(.aload_n 0, 1, [])] (by decide +kernel) (pc' := 152) (ls' := [(2, Int.ofNat o0)]) (st' := [(2, Int.ofNat o0)]) rfl ?_
  refine jEv.gfR (o' := (o0 + 33)) (show jfI 283 152 (.getfield 111) 3 [12, 45, 5, 0, 7081] = true by decide +kernel) (isX12_L ho0) (by decide) (isX12_r45 ho0) ?_
  refine jEv.blk [(.iconst 0, 1, []), (.dup2, 1, [])] (by decide +kernel) (pc' := 157) (ls' := [(2, Int.ofNat o0)]) (st' := [(0, 0), (2, Int.ofNat (o0 + 33)), (0, 0), (2, Int.ofNat (o0 + 33))]) rfl ?_
  refine jEv.ald (Or.inl ⟨rfl, rfl, rfl⟩) (show jfI 283 157 (.iaload) 1 [] = true by decide +kernel) (isX12_a45 ho0) H (fun c25 H => ?_)
  refine jEv.blk [(.iconst 1, 1, []), (.iadd, 1, [])] (by decide +kernel) (pc' := 160) (ls' := [(2, Int.ofNat o0)]) (st' := [(0, (wr ((h (o0 + 33) (0 : Int).toNat) + 1))), (0, 0), (2, Int.ofNat (o0 + 33))]) rfl ?_
  refine jEv.ast (Or.inl ⟨rfl, rfl, rfl⟩) (show jfI 283 160 (.iastore) 1 [] = true by decide +kernel) (isX12_a45 ho0) rfl H (fun c26 H => ?_)
  exact jEv.retV (show jfI 283 161 (.return_) 1 [] = true by decide +kernel) (by decide +kernel) (by cases H; exact HY)
set_option maxRecDepth 20000 in
noncomputable def M_tickGoes_p138  (h : jH) (o0 : Nat) : Option jH := (if (0 : Int) ≤ 4 ∧ (4 : Int).toNat < 2365 then (if (h (o0 + 33) (4 : Int).toNat) = 0 then Option.bind (M_groupCloses h o0) (fun b24 => M_tickGoes_p151 b24 o0) else M_tickGoes_p151 h o0) else none)
set_option maxRecDepth 20000 in
theorem t_M_tickGoes_p138 {T : jT} {xs : List Int} {d : Nat} {y : jV × jS} (hd : 9 ≤ d) {h : jH}  {o0 : Nat} {out : jH} (ho0 : isX12 T o0) (H : M_tickGoes_p138 h o0 = some out) (HY : ykV T y out) : jEv xs d (283, 138, [(2, Int.ofNat o0)], []) (T, h) y := by
  unfold M_tickGoes_p138 at H
  refine jEv.blk [(.aload_n 0, 1, [])] (by decide +kernel) (pc' := 139) (ls' := [(2, Int.ofNat o0)]) (st' := [(2, Int.ofNat o0)]) rfl ?_
  refine jEv.gfR (o' := (o0 + 33)) (show jfI 283 139 (.getfield 111) 3 [12, 45, 5, 0, 7081] = true by decide +kernel) (isX12_L ho0) (by decide) (isX12_r45 ho0) ?_
  refine jEv.blk [(.iconst 4, 1, [])] (by decide +kernel) (pc' := 143) (ls' := [(2, Int.ofNat o0)]) (st' := [(0, 4), (2, Int.ofNat (o0 + 33))]) rfl ?_
  refine jEv.ald (Or.inl ⟨rfl, rfl, rfl⟩) (show jfI 283 143 (.iaload) 1 [] = true by decide +kernel) (isX12_a45 ho0) H (fun c22 H => ?_)
  refine jEv.if_ne (t := 151) (show jfI 283 144 (.ifCond .ne 7) 3 [] = true by decide +kernel) rfl H (fun c23 H => ?_) (fun c23 H => ?_)
  · refine jEv.blk [(.aload_n 0, 1, [])] (by decide +kernel) (pc' := 148) (ls' := [(2, Int.ofNat o0)]) (st' := [(2, Int.ofNat o0)]) rfl ?_
    refine jbind H (fun b24 Hb24 H => ?_)
    refine jEv.calV (st' := []) (show jfI 283 148 (.invokevirtual 485) 3 [1, 287, 0, 9234] = true by decide +kernel) rfl (Or.inl rfl) rfl (Nat.le_of_ble_eq_true rfl) (by decide +kernel) (by decide) (isX12_L ho0) ((t_M_groupCloses (T := T) (xs := xs) ho0 Hb24).mono (jKle 9 hd)) rfl ?_
    exact t_M_tickGoes_p151 (T := T) (xs := xs) (y := y) hd ho0 H HY
  · exact t_M_tickGoes_p151 (T := T) (xs := xs) (y := y) hd ho0 H HY
set_option maxRecDepth 20000 in
noncomputable def M_tickGoes_B48  (h : jH) (o0 : Nat) : Option (jH ⊕ jH) := (if (0 : Int) ≤ 2 ∧ (2 : Int).toNat < 2365 then (if (0 : Int) ≤ 1 ∧ (1 : Int).toNat < 2365 then (if (0 : Int) ≤ 11 ∧ (11 : Int).toNat < 2365 then (if (h (o0 + 33) (2 : Int).toNat) < (wr ((h (o0 + 33) (1 : Int).toNat) - (h (o0 + 33) (11 : Int).toNat))) then (if (0 : Int) ≤ 2 ∧ (2 : Int).toNat < 2365 then Option.bind (M_recordOf h o0 (h (o0 + 33) (2 : Int).toNat) 0) (fun b14 => (if (0 : Int) ≤ 2 ∧ (2 : Int).toNat < 2365 then Option.bind (M_recordOf h o0 (h (o0 + 33) (2 : Int).toNat) 1) (fun b16 => (if (0 : Int) ≤ (wr (144 + b14)) ∧ ((wr (144 + b14)) : Int).toNat < 2365 then (if (0 : Int) ≤ 2 ∧ (2 : Int).toNat < 2365 then Option.bind (M_releases (jup h (o0 + 33) ((wr (144 + b14)) : Int).toNat b16) o0 ((jup h (o0 + 33) ((wr (144 + b14)) : Int).toNat b16) (o0 + 33) (2 : Int).toNat)) (fun b19 => (if (0 : Int) ≤ 2 ∧ (2 : Int).toNat < 2365 then (if (0 : Int) ≤ 2 ∧ (2 : Int).toNat < 2365 then some (.inl ((jup (jup b19 (o0 + 33) (2 : Int).toNat (wr ((b19 (o0 + 33) (2 : Int).toNat) + 1))) o0 54 (wr (((jup b19 (o0 + 33) (2 : Int).toNat (wr ((b19 (o0 + 33) (2 : Int).toNat) + 1))) o0 54) + ((jup b19 (o0 + 33) (2 : Int).toNat (wr ((b19 (o0 + 33) (2 : Int).toNat) + 1))) o0 55)))))) else none) else none)) else none) else none)) else none)) else none) else Option.map Sum.inr (M_tickGoes_p138 h o0)) else none) else none) else none)
noncomputable def M_tickGoes_L48  (h : jH) (o0 : Nat) : Option jH := jloop (fun s : jH => M_tickGoes_B48 s o0) (h)
set_option maxRecDepth 20000 in
theorem t_M_tickGoes_B48 {T : jT} {xs : List Int} {d : Nat} {y : jV × jS} (hd : 9 ≤ d) {h : jH}  {o0 : Nat} {out : (jH ⊕ jH)} (ho0 : isX12 T o0) (H : M_tickGoes_B48 h o0 = some out) (HY : yk_M_tickGoes_L48 T xs d y o0 out) : jEv xs d (283, 48, [(2, Int.ofNat o0)], []) (T, h) y := by
  unfold M_tickGoes_B48 at H
  refine jEv.blk [(.aload_n 0, 1, [])] (by decide +kernel) (pc' := 49) (ls' := [(2, Int.ofNat o0)]) (st' := [(2, Int.ofNat o0)]) rfl ?_
  refine jEv.gfR (o' := (o0 + 33)) (show jfI 283 49 (.getfield 111) 3 [12, 45, 5, 0, 7081] = true by decide +kernel) (isX12_L ho0) (by decide) (isX12_r45 ho0) ?_
  refine jEv.blk [(.iconst 2, 1, [])] (by decide +kernel) (pc' := 53) (ls' := [(2, Int.ofNat o0)]) (st' := [(0, 2), (2, Int.ofNat (o0 + 33))]) rfl ?_
  refine jEv.ald (Or.inl ⟨rfl, rfl, rfl⟩) (show jfI 283 53 (.iaload) 1 [] = true by decide +kernel) (isX12_a45 ho0) H (fun c9 H => ?_)
  refine jEv.blk [(.aload_n 0, 1, [])] (by decide +kernel) (pc' := 55) (ls' := [(2, Int.ofNat o0)]) (st' := [(2, Int.ofNat o0), (0, (h (o0 + 33) (2 : Int).toNat))]) rfl ?_
  refine jEv.gfR (o' := (o0 + 33)) (show jfI 283 55 (.getfield 111) 3 [12, 45, 5, 0, 7081] = true by decide +kernel) (isX12_L ho0) (by decide) (isX12_r45 ho0) ?_
  refine jEv.blk [(.iconst 1, 1, [])] (by decide +kernel) (pc' := 59) (ls' := [(2, Int.ofNat o0)]) (st' := [(0, 1), (2, Int.ofNat (o0 + 33)), (0, (h (o0 + 33) (2 : Int).toNat))]) rfl ?_
  refine jEv.ald (Or.inl ⟨rfl, rfl, rfl⟩) (show jfI 283 59 (.iaload) 1 [] = true by decide +kernel) (isX12_a45 ho0) H (fun c10 H => ?_)
  refine jEv.blk [(.aload_n 0, 1, [])] (by decide +kernel) (pc' := 61) (ls' := [(2, Int.ofNat o0)]) (st' := [(2, Int.ofNat o0), (0, (h (o0 + 33) (1 : Int).toNat)), (0, (h (o0 + 33) (2 : Int).toNat))]) rfl ?_
  refine jEv.gfR (o' := (o0 + 33)) (show jfI 283 61 (.getfield 111) 3 [12, 45, 5, 0, 7081] = true by decide +kernel) (isX12_L ho0) (by decide) (isX12_r45 ho0) ?_
  refine jEv.blk [(.bipush 11, 2, [])] (by decide +kernel) (pc' := 66) (ls' := [(2, Int.ofNat o0)]) (st' := [(0, 11), (2, Int.ofNat (o0 + 33)), (0, (h (o0 + 33) (1 : Int).toNat)), (0, (h (o0 + 33) (2 : Int).toNat))]) rfl ?_
  refine jEv.ald (Or.inl ⟨rfl, rfl, rfl⟩) (show jfI 283 66 (.iaload) 1 [] = true by decide +kernel) (isX12_a45 ho0) H (fun c11 H => ?_)
  refine jEv.blk [(.isub, 1, [])] (by decide +kernel) (pc' := 68) (ls' := [(2, Int.ofNat o0)]) (st' := [(0, (wr ((h (o0 + 33) (1 : Int).toNat) - (h (o0 + 33) (11 : Int).toNat)))), (0, (h (o0 + 33) (2 : Int).toNat))]) rfl ?_
  refine jEv.ic_ge (t := 138) (show jfI 283 68 (.if_icmp .ge 70) 3 [] = true by decide +kernel) rfl H (fun c12 H => ?_) (fun c12 H => ?_)
  · refine jEv.blk [(.aload_n 0, 1, [])] (by decide +kernel) (pc' := 72) (ls' := [(2, Int.ofNat o0)]) (st' := [(2, Int.ofNat o0)]) rfl ?_
    refine jEv.gfR (o' := (o0 + 33)) (show jfI 283 72 (.getfield 111) 3 [12, 45, 5, 0, 7081] = true by decide +kernel) (isX12_L ho0) (by decide) (isX12_r45 ho0) ?_
    refine jEv.blk [(.sipush 144, 3, []), (.aload_n 0, 1, []), (.aload_n 0, 1, [])] (by decide +kernel) (pc' := 80) (ls' := [(2, Int.ofNat o0)]) (st' := [(2, Int.ofNat o0), (2, Int.ofNat o0), (0, 144), (2, Int.ofNat (o0 + 33))]) rfl ?_
    refine jEv.gfR (o' := (o0 + 33)) (show jfI 283 80 (.getfield 111) 3 [12, 45, 5, 0, 7081] = true by decide +kernel) (isX12_L ho0) (by decide) (isX12_r45 ho0) ?_
    refine jEv.blk [(.iconst 2, 1, [])] (by decide +kernel) (pc' := 84) (ls' := [(2, Int.ofNat o0)]) (st' := [(0, 2), (2, Int.ofNat (o0 + 33)), (2, Int.ofNat o0), (0, 144), (2, Int.ofNat (o0 + 33))]) rfl ?_
    refine jEv.ald (Or.inl ⟨rfl, rfl, rfl⟩) (show jfI 283 84 (.iaload) 1 [] = true by decide +kernel) (isX12_a45 ho0) H (fun c13 H => ?_)
    refine jEv.blk [(.iconst 0, 1, [])] (by decide +kernel) (pc' := 86) (ls' := [(2, Int.ofNat o0)]) (st' := [(0, 0), (0, (h (o0 + 33) (2 : Int).toNat)), (2, Int.ofNat o0), (0, 144), (2, Int.ofNat (o0 + 33))]) rfl ?_
    refine jbind H (fun b14 Hb14 H => ?_)
    refine jEv.calV (st' := [(0, b14), (0, 144), (2, Int.ofNat (o0 + 33))]) (show jfI 283 86 (.invokevirtual 363) 3 [1, 275, 2, 9184] = true by decide +kernel) rfl (Or.inl rfl) rfl (Nat.le_of_ble_eq_true rfl) (by decide +kernel) (by decide) (isX12_L ho0) ((t_M_recordOf (T := T) (xs := xs) ho0 Hb14).mono (jKle 1 hd)) rfl ?_
    refine jEv.blk [(.iadd, 1, []), (.aload_n 0, 1, []), (.aload_n 0, 1, [])] (by decide +kernel) (pc' := 92) (ls' := [(2, Int.ofNat o0)]) (st' := [(2, Int.ofNat o0), (2, Int.ofNat o0), (0, (wr (144 + b14))), (2, Int.ofNat (o0 + 33))]) rfl ?_
    refine jEv.gfR (o' := (o0 + 33)) (show jfI 283 92 (.getfield 111) 3 [12, 45, 5, 0, 7081] = true by decide +kernel) (isX12_L ho0) (by decide) (isX12_r45 ho0) ?_
    refine jEv.blk [(.iconst 2, 1, [])] (by decide +kernel) (pc' := 96) (ls' := [(2, Int.ofNat o0)]) (st' := [(0, 2), (2, Int.ofNat (o0 + 33)), (2, Int.ofNat o0), (0, (wr (144 + b14))), (2, Int.ofNat (o0 + 33))]) rfl ?_
    refine jEv.ald (Or.inl ⟨rfl, rfl, rfl⟩) (show jfI 283 96 (.iaload) 1 [] = true by decide +kernel) (isX12_a45 ho0) H (fun c15 H => ?_)
    refine jEv.blk [(.iconst 1, 1, [])] (by decide +kernel) (pc' := 98) (ls' := [(2, Int.ofNat o0)]) (st' := [(0, 1), (0, (h (o0 + 33) (2 : Int).toNat)), (2, Int.ofNat o0), (0, (wr (144 + b14))), (2, Int.ofNat (o0 + 33))]) rfl ?_
    refine jbind H (fun b16 Hb16 H => ?_)
    refine jEv.calV (st' := [(0, b16), (0, (wr (144 + b14))), (2, Int.ofNat (o0 + 33))]) (show jfI 283 98 (.invokevirtual 363) 3 [1, 275, 2, 9184] = true by decide +kernel) rfl (Or.inl rfl) rfl (Nat.le_of_ble_eq_true rfl) (by decide +kernel) (by decide) (isX12_L ho0) ((t_M_recordOf (T := T) (xs := xs) ho0 Hb16).mono (jKle 1 hd)) rfl ?_
    refine jEv.ast (Or.inl ⟨rfl, rfl, rfl⟩) (show jfI 283 101 (.iastore) 1 [] = true by decide +kernel) (isX12_a45 ho0) rfl H (fun c17 H => ?_)
    refine jEv.blk [(.aload_n 0, 1, []), (.aload_n 0, 1, [])] (by decide +kernel) (pc' := 104) (ls' := [(2, Int.ofNat o0)]) (st' := [(2, Int.ofNat o0), (2, Int.ofNat o0)]) rfl ?_
    refine jEv.gfR (o' := (o0 + 33)) (show jfI 283 104 (.getfield 111) 3 [12, 45, 5, 0, 7081] = true by decide +kernel) (isX12_L ho0) (by decide) (isX12_r45 ho0) ?_
    refine jEv.blk [(.iconst 2, 1, [])] (by decide +kernel) (pc' := 108) (ls' := [(2, Int.ofNat o0)]) (st' := [(0, 2), (2, Int.ofNat (o0 + 33)), (2, Int.ofNat o0)]) rfl ?_
    refine jEv.ald (Or.inl ⟨rfl, rfl, rfl⟩) (show jfI 283 108 (.iaload) 1 [] = true by decide +kernel) (isX12_a45 ho0) H (fun c18 H => ?_)
    refine jbind H (fun b19 Hb19 H => ?_)
    refine jEv.calV (st' := []) (show jfI 283 109 (.invokevirtual 479) 3 [1, 285, 1, 9226] = true by decide +kernel) rfl (Or.inl rfl) rfl (Nat.le_of_ble_eq_true rfl) (by decide +kernel) (by decide) (isX12_L ho0) ((t_M_releases (T := T) (xs := xs) ho0 Hb19).mono (jKle 2 hd)) rfl ?_
    refine jEv.blk [(.aload_n 0, 1, [])] (by decide +kernel) (pc' := 113) (ls' := [(2, Int.ofNat o0)]) (st' := [(2, Int.ofNat o0)]) rfl ?_
    refine jEv.gfR (o' := (o0 + 33)) (show jfI 283 113 (.getfield 111) 3 [12, 45, 5, 0, 7081] = true by decide +kernel) (isX12_L ho0) (by decide) (isX12_r45 ho0) ?_
    refine jEv.blk [(.iconst 2, 1, []), (.dup2, 1, [])] (by decide +kernel) (pc' := 118) (ls' := [(2, Int.ofNat o0)]) (st' := [(0, 2), (2, Int.ofNat (o0 + 33)), (0, 2), (2, Int.ofNat (o0 + 33))]) rfl ?_
    refine jEv.ald (Or.inl ⟨rfl, rfl, rfl⟩) (show jfI 283 118 (.iaload) 1 [] = true by decide +kernel) (isX12_a45 ho0) H (fun c20 H => ?_)
    refine jEv.blk [(.iconst 1, 1, []), (.iadd, 1, [])] (by decide +kernel) (pc' := 121) (ls' := [(2, Int.ofNat o0)]) (st' := [(0, (wr ((b19 (o0 + 33) (2 : Int).toNat) + 1))), (0, 2), (2, Int.ofNat (o0 + 33))]) rfl ?_
    refine jEv.ast (Or.inl ⟨rfl, rfl, rfl⟩) (show jfI 283 121 (.iastore) 1 [] = true by decide +kernel) (isX12_a45 ho0) rfl H (fun c21 H => ?_)
    refine jEv.blk [(.aload_n 0, 1, []), (.dup, 1, [])] (by decide +kernel) (pc' := 124) (ls' := [(2, Int.ofNat o0)]) (st' := [(2, Int.ofNat o0), (2, Int.ofNat o0)]) rfl ?_
    refine jEv.gfI (show jfI 283 124 (.getfield 482) 3 [12, 54, 0, 0, 7090] = true by decide +kernel) (isX12_L ho0) (by decide) ?_
    refine jEv.blk [(.aload_n 0, 1, [])] (by decide +kernel) (pc' := 128) (ls' := [(2, Int.ofNat o0)]) (st' := [(2, Int.ofNat o0), (0, ((jup b19 (o0 + 33) (2 : Int).toNat (wr ((b19 (o0 + 33) (2 : Int).toNat) + 1))) o0 54)), (2, Int.ofNat o0)]) rfl ?_
    refine jEv.gfI (show jfI 283 128 (.getfield 473) 3 [12, 55, 0, 0, 7091] = true by decide +kernel) (isX12_L ho0) (by decide) ?_
    refine jEv.blk [(.iadd, 1, [])] (by decide +kernel) (pc' := 132) (ls' := [(2, Int.ofNat o0)]) (st' := [(0, (wr (((jup b19 (o0 + 33) (2 : Int).toNat (wr ((b19 (o0 + 33) (2 : Int).toNat) + 1))) o0 54) + ((jup b19 (o0 + 33) (2 : Int).toNat (wr ((b19 (o0 + 33) (2 : Int).toNat) + 1))) o0 55)))), (2, Int.ofNat o0)]) rfl ?_
    refine jEv.pfI (show jfI 283 132 (.putfield 482) 3 [12, 54, 0, 0, 7090] = true by decide +kernel) (isX12_L ho0) (by decide) ?_
    refine jEv.goto (t := 48) (show jfI 283 135 (.goto (-87)) 3 [] = true by decide +kernel) rfl ?_
    exact (by cases H; exact HY)
  · refine jmapr H HY (fun out H (HY : ykV T y out) => ?_)
    exact t_M_tickGoes_p138 (T := T) (xs := xs) (y := y) hd ho0 H HY
theorem t_M_tickGoes_L48 {T : jT} {xs : List Int} {d : Nat} {y : jV × jS} (hd : 9 ≤ d) {h : jH}  {o0 : Nat} {out : jH} (ho0 : isX12 T o0) (H : M_tickGoes_L48 h o0 = some out) (HY : ykV T y out) : jEv xs d (283, 48, [(2, Int.ofNat o0)], []) (T, h) y :=
  jloop_sound (G := fun s : jH => jEv xs d (283, 48, [(2, Int.ofNat o0)], []) (T, s) y) (K := yk_M_tickGoes_L48 T xs d y o0) (fun s out H HY => t_M_tickGoes_B48 hd ho0 H HY) (fun s' hg => hg) (s := (h)) H HY
set_option maxRecDepth 20000 in
noncomputable def M_tickGoes  (h : jH) (o0 : Nat) : Option jH := (if (0 : Int) ≤ 4 ∧ (4 : Int).toNat < 2365 then (if 0 < ((jup h o0 55 (wr ((h o0 55) + 1))) (o0 + 33) (4 : Int).toNat) then (if (0 : Int) ≤ 3 ∧ (3 : Int).toNat < 2365 then (if (0 : Int) ≤ 3 ∧ (3 : Int).toNat < 2365 then (if (0 : Int) ≤ 3 ∧ (3 : Int).toNat < 2365 then (if ((jup (jup h o0 55 (wr ((h o0 55) + 1))) (o0 + 33) (3 : Int).toNat (wr (((jup h o0 55 (wr ((h o0 55) + 1))) (o0 + 33) (3 : Int).toNat) - 1))) (o0 + 33) (3 : Int).toNat) = 0 then (if (0 : Int) ≤ 4 ∧ (4 : Int).toNat < 2365 then Option.bind (M_arrives (jup (jup h o0 55 (wr ((h o0 55) + 1))) (o0 + 33) (3 : Int).toNat (wr (((jup h o0 55 (wr ((h o0 55) + 1))) (o0 + 33) (3 : Int).toNat) - 1))) o0 ((jup (jup h o0 55 (wr ((h o0 55) + 1))) (o0 + 33) (3 : Int).toNat (wr (((jup h o0 55 (wr ((h o0 55) + 1))) (o0 + 33) (3 : Int).toNat) - 1))) (o0 + 33) (4 : Int).toNat)) (fun b8 => M_tickGoes_L48 b8 o0) else none) else M_tickGoes_p138 (jup (jup h o0 55 (wr ((h o0 55) + 1))) (o0 + 33) (3 : Int).toNat (wr (((jup h o0 55 (wr ((h o0 55) + 1))) (o0 + 33) (3 : Int).toNat) - 1))) o0) else none) else none) else none) else M_tickGoes_p138 (jup h o0 55 (wr ((h o0 55) + 1))) o0) else none)
set_option maxRecDepth 20000 in
theorem t_M_tickGoes {T : jT} {xs : List Int} {h : jH}  {o0 : Nat} {out : jH} (ho0 : isX12 T o0) (H : M_tickGoes h o0 = some out) : jEm xs 10 283 [(2, Int.ofNat o0)] (T, h) ((3, 0), (T, out)) := by
  have hd : 9 ≤ 9 := Nat.le_refl _
  obtain ⟨y, ey⟩ : ∃ y : jV × jS, y = ((3, 0), (T, out)) := ⟨_, rfl⟩
  rw [← ey]
  have HY : ykV T y out := ey
  refine jEm.ent (n := 1) (by decide +kernel) (Nat.le_of_ble_eq_true rfl) ?_
  show jEv xs 9 (283, 0, [(2, Int.ofNat o0)], []) (T, h) y
  unfold M_tickGoes at H
  refine jEv.blk [(.aload_n 0, 1, []), (.dup, 1, [])] (by decide +kernel) (pc' := 2) (ls' := [(2, Int.ofNat o0)]) (st' := [(2, Int.ofNat o0), (2, Int.ofNat o0)]) rfl ?_
  refine jEv.gfI (show jfI 283 2 (.getfield 473) 3 [12, 55, 0, 0, 7091] = true by decide +kernel) (isX12_L ho0) (by decide) ?_
  refine jEv.blk [(.iconst 1, 1, []), (.iadd, 1, [])] (by decide +kernel) (pc' := 7) (ls' := [(2, Int.ofNat o0)]) (st' := [(0, (wr ((h o0 55) + 1))), (2, Int.ofNat o0)]) rfl ?_
  refine jEv.pfI (show jfI 283 7 (.putfield 473) 3 [12, 55, 0, 0, 7091] = true by decide +kernel) (isX12_L ho0) (by decide) ?_
  refine jEv.blk [(.aload_n 0, 1, [])] (by decide +kernel) (pc' := 11) (ls' := [(2, Int.ofNat o0)]) (st' := [(2, Int.ofNat o0)]) rfl ?_
  refine jEv.gfR (o' := (o0 + 33)) (show jfI 283 11 (.getfield 111) 3 [12, 45, 5, 0, 7081] = true by decide +kernel) (isX12_L ho0) (by decide) (isX12_r45 ho0) ?_
  refine jEv.blk [(.iconst 4, 1, [])] (by decide +kernel) (pc' := 15) (ls' := [(2, Int.ofNat o0)]) (st' := [(0, 4), (2, Int.ofNat (o0 + 33))]) rfl ?_
  refine jEv.ald (Or.inl ⟨rfl, rfl, rfl⟩) (show jfI 283 15 (.iaload) 1 [] = true by decide +kernel) (isX12_a45 ho0) H (fun c1 H => ?_)
  refine jEv.if_le (t := 138) (show jfI 283 16 (.ifCond .le 122) 3 [] = true by decide +kernel) rfl H (fun c2 H => ?_) (fun c2 H => ?_)
  · refine jEv.blk [(.aload_n 0, 1, [])] (by decide +kernel) (pc' := 20) (ls' := [(2, Int.ofNat o0)]) (st' := [(2, Int.ofNat o0)]) rfl ?_
    refine jEv.gfR (o' := (o0 + 33)) (show jfI 283 20 (.getfield 111) 3 [12, 45, 5, 0, 7081] = true by decide +kernel) (isX12_L ho0) (by decide) (isX12_r45 ho0) ?_
    refine jEv.blk [(.iconst 3, 1, []), (.dup2, 1, [])] (by decide +kernel) (pc' := 25) (ls' := [(2, Int.ofNat o0)]) (st' := [(0, 3), (2, Int.ofNat (o0 + 33)), (0, 3), (2, Int.ofNat (o0 + 33))]) rfl ?_
    refine jEv.ald (Or.inl ⟨rfl, rfl, rfl⟩) (show jfI 283 25 (.iaload) 1 [] = true by decide +kernel) (isX12_a45 ho0) H (fun c3 H => ?_)
    refine jEv.blk [(.iconst 1, 1, []), (.isub, 1, [])] (by decide +kernel) (pc' := 28) (ls' := [(2, Int.ofNat o0)]) (st' := [(0, (wr (((jup h o0 55 (wr ((h o0 55) + 1))) (o0 + 33) (3 : Int).toNat) - 1))), (0, 3), (2, Int.ofNat (o0 + 33))]) rfl ?_
    refine jEv.ast (Or.inl ⟨rfl, rfl, rfl⟩) (show jfI 283 28 (.iastore) 1 [] = true by decide +kernel) (isX12_a45 ho0) rfl H (fun c4 H => ?_)
    refine jEv.blk [(.aload_n 0, 1, [])] (by decide +kernel) (pc' := 30) (ls' := [(2, Int.ofNat o0)]) (st' := [(2, Int.ofNat o0)]) rfl ?_
    refine jEv.gfR (o' := (o0 + 33)) (show jfI 283 30 (.getfield 111) 3 [12, 45, 5, 0, 7081] = true by decide +kernel) (isX12_L ho0) (by decide) (isX12_r45 ho0) ?_
    refine jEv.blk [(.iconst 3, 1, [])] (by decide +kernel) (pc' := 34) (ls' := [(2, Int.ofNat o0)]) (st' := [(0, 3), (2, Int.ofNat (o0 + 33))]) rfl ?_
    refine jEv.ald (Or.inl ⟨rfl, rfl, rfl⟩) (show jfI 283 34 (.iaload) 1 [] = true by decide +kernel) (isX12_a45 ho0) H (fun c5 H => ?_)
    refine jEv.if_ne (t := 138) (show jfI 283 35 (.ifCond .ne 103) 3 [] = true by decide +kernel) rfl H (fun c6 H => ?_) (fun c6 H => ?_)
    · refine jEv.blk [(.aload_n 0, 1, []), (.aload_n 0, 1, [])] (by decide +kernel) (pc' := 40) (ls' := [(2, Int.ofNat o0)]) (st' := [(2, Int.ofNat o0), (2, Int.ofNat o0)]) rfl ?_
      refine jEv.gfR (o' := (o0 + 33)) (show jfI 283 40 (.getfield 111) 3 [12, 45, 5, 0, 7081] = true by decide +kernel) (isX12_L ho0) (by decide) (isX12_r45 ho0) ?_
      refine jEv.blk [(.iconst 4, 1, [])] (by decide +kernel) (pc' := 44) (ls' := [(2, Int.ofNat o0)]) (st' := [(0, 4), (2, Int.ofNat (o0 + 33)), (2, Int.ofNat o0)]) rfl ?_
      refine jEv.ald (Or.inl ⟨rfl, rfl, rfl⟩) (show jfI 283 44 (.iaload) 1 [] = true by decide +kernel) (isX12_a45 ho0) H (fun c7 H => ?_)
      refine jbind H (fun b8 Hb8 H => ?_)
      refine jEv.calV (st' := []) (show jfI 283 45 (.invokevirtual 476) 3 [1, 284, 1, 9222] = true by decide +kernel) rfl (Or.inl rfl) rfl (Nat.le_of_ble_eq_true rfl) (by decide +kernel) (by decide) (isX12_L ho0) ((t_M_arrives (T := T) (xs := xs) ho0 Hb8).mono (jKle 2 hd)) rfl ?_
      exact t_M_tickGoes_L48 (T := T) (xs := xs) (y := y) hd ho0 H HY
    · exact t_M_tickGoes_p138 (T := T) (xs := xs) (y := y) hd ho0 H HY
  · exact t_M_tickGoes_p138 (T := T) (xs := xs) (y := y) hd ho0 H HY
def yk_M_ticksGo_L7 (T : jT) (xs : List Int) (d : Nat) (y : jV × jS)  (o0 : Nat) (v1 : Int) : ((Int × jH) ⊕ jH) → Prop
  | .inl (v2, h) => jEv xs d (282, 7, [(2, Int.ofNat o0), (0, v1), (0, v2)], []) (T, h) y
  | .inr o => ykV T y o
set_option maxRecDepth 20000 in
noncomputable def M_ticksGo_B7  (h : jH) (o0 : Nat) (v1 : Int) (v2 : Int) : Option ((Int × jH) ⊕ jH) := (if v2 < v1 then Option.bind (M_tickGoes h o0) (fun b2 => some (.inl ((wr (v2 + 1)), b2))) else Option.map Sum.inr (some h))
noncomputable def M_ticksGo_L7  (h : jH) (o0 : Nat) (v1 : Int) (v2 : Int) : Option jH := jloop (fun s : (Int × jH) => M_ticksGo_B7 s.2 o0 v1 s.1) (v2, h)
set_option maxRecDepth 20000 in
theorem t_M_ticksGo_B7 {T : jT} {xs : List Int} {d : Nat} {y : jV × jS} (hd : 10 ≤ d) {h : jH}  {o0 : Nat} {v1 : Int} {v2 : Int} {out : ((Int × jH) ⊕ jH)} (ho0 : isX12 T o0) (H : M_ticksGo_B7 h o0 v1 v2 = some out) (HY : yk_M_ticksGo_L7 T xs d y o0 v1 out) : jEv xs d (282, 7, [(2, Int.ofNat o0), (0, v1), (0, v2)], []) (T, h) y := by
  unfold M_ticksGo_B7 at H
  refine jEv.blk [(.iload_n 2, 1, []), (.iload_n 1, 1, [])] (by decide +kernel) (pc' := 9) (ls' := [(2, Int.ofNat o0), (0, v1), (0, v2)]) (st' := [(0, v1), (0, v2)]) rfl ?_
  refine jEv.ic_ge (t := 22) (show jfI 282 9 (.if_icmp .ge 13) 3 [] = true by decide +kernel) rfl H (fun c1 H => ?_) (fun c1 H => ?_)
  · refine jEv.blk [(.aload_n 0, 1, [])] (by decide +kernel) (pc' := 13) (ls' := [(2, Int.ofNat o0), (0, v1), (0, v2)]) (st' := [(2, Int.ofNat o0)]) rfl ?_
    refine jbind H (fun b2 Hb2 H => ?_)
    refine jEv.calV (st' := []) (show jfI 282 13 (.invokevirtual 488) 3 [1, 283, 0, 9218] = true by decide +kernel) rfl (Or.inl rfl) rfl (Nat.le_of_ble_eq_true rfl) (by decide +kernel) (by decide) (isX12_L ho0) ((t_M_tickGoes (T := T) (xs := xs) ho0 Hb2).mono (jKle 10 hd)) rfl ?_
    refine jEv.blk [(.iinc 2 1, 3, [])] (by decide +kernel) (pc' := 19) (ls' := [(2, Int.ofNat o0), (0, v1), (0, (wr (v2 + 1)))]) (st' := []) rfl ?_
    refine jEv.goto (t := 7) (show jfI 282 19 (.goto (-12)) 3 [] = true by decide +kernel) rfl ?_
    exact (by cases H; exact HY)
  · refine jmapr H HY (fun out H (HY : ykV T y out) => ?_)
    exact jEv.retV (show jfI 282 22 (.return_) 1 [] = true by decide +kernel) (by decide +kernel) (by cases H; exact HY)
theorem t_M_ticksGo_L7 {T : jT} {xs : List Int} {d : Nat} {y : jV × jS} (hd : 10 ≤ d) {h : jH}  {o0 : Nat} {v1 : Int} {v2 : Int} {out : jH} (ho0 : isX12 T o0) (H : M_ticksGo_L7 h o0 v1 v2 = some out) (HY : ykV T y out) : jEv xs d (282, 7, [(2, Int.ofNat o0), (0, v1), (0, v2)], []) (T, h) y :=
  jloop_sound (G := fun s : (Int × jH) => jEv xs d (282, 7, [(2, Int.ofNat o0), (0, v1), (0, s.1)], []) (T, s.2) y) (K := yk_M_ticksGo_L7 T xs d y o0 v1) (fun s out H HY => t_M_ticksGo_B7 hd ho0 H HY) (fun s' hg => hg) (s := (v2, h)) H HY
set_option maxRecDepth 20000 in
noncomputable def M_ticksGo  (h : jH) (o0 : Nat) (v1 : Int) : Option jH := M_ticksGo_L7 (jup h o0 53 0) o0 v1 0
set_option maxRecDepth 20000 in
theorem t_M_ticksGo {T : jT} {xs : List Int} {h : jH}  {o0 : Nat} {v1 : Int} {out : jH} (ho0 : isX12 T o0) (H : M_ticksGo h o0 v1 = some out) : jEm xs 11 282 [(2, Int.ofNat o0), (0, v1)] (T, h) ((3, 0), (T, out)) := by
  have hd : 10 ≤ 10 := Nat.le_refl _
  obtain ⟨y, ey⟩ : ∃ y : jV × jS, y = ((3, 0), (T, out)) := ⟨_, rfl⟩
  rw [← ey]
  have HY : ykV T y out := ey
  refine jEm.ent (n := 3) (by decide +kernel) (Nat.le_of_ble_eq_true rfl) ?_
  show jEv xs 10 (282, 0, [(2, Int.ofNat o0), (0, v1), (3, 0)], []) (T, h) y
  unfold M_ticksGo at H
  refine jEv.blk [(.aload_n 0, 1, []), (.iconst 0, 1, [])] (by decide +kernel) (pc' := 2) (ls' := [(2, Int.ofNat o0), (0, v1), (3, 0)]) (st' := [(0, 0), (2, Int.ofNat o0)]) rfl ?_
  refine jEv.pfI (show jfI 282 2 (.putfield 464) 3 [12, 53, 0, 0, 7089] = true by decide +kernel) (isX12_L ho0) (by decide) ?_
  refine jEv.blk [(.iconst 0, 1, []), (.istore_n 2, 1, [])] (by decide +kernel) (pc' := 7) (ls' := [(2, Int.ofNat o0), (0, v1), (0, 0)]) (st' := []) rfl ?_
  exact t_M_ticksGo_L7 (T := T) (xs := xs) (y := y) hd ho0 H HY
