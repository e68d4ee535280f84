/-! the start: what both hold behind their constructors -/
set_option maxRecDepth 100000 in
set_option maxHeartbeats 4000000 in
theorem u_X6 : isX6 (jL, jR) (1 + 5) ∧ isX6 (jL, jR) (1 + 18) ∧ isX2 (jL, jR) (1 + 30) := by
  unfold isX6 isX2
  repeat' apply And.intro
  all_goals decide +kernel
set_option maxRecDepth 100000 in
theorem u_CTn : CTn (jL, jR) 1 := ⟨fun i hi => jXp i hi, u_X6.1, u_X6.2.1, u_X6.2.2, by decide +kernel⟩
theorem u_all {f : Nat → Int} {n : Nat} {v : Int} (h : (List.range n).all (fun i => decide (f i = v)) = true) : ∀ i, i < n → f i = v := fun i hi => of_decide_eq_true (List.all_eq_true.mp h i (List.mem_range.mpr hi))
set_option maxRecDepth 100000 in
theorem u_cn : (jHi 1 8 = ((6 : Nat) : Int) ∧ jHi 18 0 = ((19 : Nat) : Int)) ∧ (jHi 1 1 = 0 ∧ jHi 1 3 = 0 ∧ jHi 1 5 = 1 ∧ jHi 1 7 = 0) ∧ jHi 18 3 = 0 ∧ jHi 18 4 = -1 := by decide +kernel
set_option maxRecDepth 100000 in
theorem u_cm : (jHi 37 2 = 0 ∧ jHi 37 3 = 0) ∧ (jHi 36 7 = 0 ∧ jHi 36 9 = 0 ∧ jHi 36 14 = 0) ∧ (jHi 40 2 = 0 ∧ jHi 40 3 = 0) ∧ (jHi 43 4 = 0 ∧ jHi 43 5 = 0 ∧ jHi 43 6 = 0) ∧ (jHi 48 2 = 0 ∧ jHi 48 6 = 0) := by decide +kernel
set_option maxRecDepth 100000 in
theorem u_ck : jHi 6 0 = 0 ∧ jHi 1 13 = 0 ∧ jHi 1 14 = ((0 : Nat) : Int) := by decide +kernel
set_option maxRecDepth 100000 in
theorem u_c39 : ∀ i, i < 512 → jHi 39 i = 0 := u_all (by decide +kernel)
set_option maxRecDepth 100000 in
theorem u_c54 : ∀ i, i < 16 → jHi 54 i = -1 := u_all (by decide +kernel)
set_option maxRecDepth 100000 in
theorem u_c4 : ∀ i, i < 7 → jHi 4 i = 0 := u_all (by decide +kernel)
set_option maxRecDepth 100000 in
theorem u_mn : (jHi 506 1 = 0 ∧ jHi 506 66 = 0 ∧ jHi 506 109 = 0) ∧ jHi 506 75 = 1 ∧ jHi 506 7 = 0 ∧ jHi 506 8 = -1 := by decide +kernel
set_option maxRecDepth 100000 in
theorem u_mm : (jHi 506 43 = 0 ∧ jHi 534 5 = 0 ∧ jHi 534 6 = 0) ∧ jHi 506 73 = 0 ∧ (jHi 506 52 = -1 ∧ jHi 506 56 = 0 ∧ jHi 506 53 = 0) ∧ jHi 506 74 = ((0 : Nat) : Int) := by decide +kernel
set_option maxRecDepth 100000 in
theorem u_m508 : ∀ i, i < 7 → jHi 508 i = 0 := u_all (by decide +kernel)
set_option maxRecDepth 100000 in
theorem u_m539 : ∀ i, i < 2365 → jHi 539 i = 0 := u_all (by decide +kernel)
theorem u_w {a : Nat} {w : List Int} (h : (List.range w.length).all (fun i => decide (jHi a i = w.getD i 0)) = true) : MWo jHi a w := fun i hi => of_decide_eq_true (List.all_eq_true.mp h i (List.mem_range.mpr hi))
set_option maxRecDepth 100000 in
theorem u_wd : MWd jHi 506 := ⟨⟨u_w (by decide +kernel), u_w (by decide +kernel), u_w (by decide +kernel), u_w (by decide +kernel), u_w (by decide +kernel), u_w (by decide +kernel), u_w (by decide +kernel)⟩, u_w (by decide +kernel), u_w (by decide +kernel), u_w (by decide +kernel), u_w (by decide +kernel), u_w (by decide +kernel), u_w (by decide +kernel), u_w (by decide +kernel), u_w (by decide +kernel), u_w (by decide +kernel), u_w (by decide +kernel)⟩
set_option maxRecDepth 100000 in
theorem u_wj : MWj jHi 506 := ⟨u_w (by decide +kernel), u_w (by decide +kernel), u_w (by decide +kernel), u_w (by decide +kernel), u_w (by decide +kernel), u_w (by decide +kernel), u_w (by decide +kernel), u_w (by decide +kernel)⟩
set_option maxRecDepth 100000 in
theorem u_wq : MWq jHi 506 := ⟨u_w (by decide +kernel), u_w (by decide +kernel), u_w (by decide +kernel), u_w (by decide +kernel), u_w (by decide +kernel), u_w (by decide +kernel)⟩
theorem u_CAl : CAl (jL, jR) jHi 1 6 19 ([], [], [], 1, 0, -1) :=
  ⟨⟨u_CTn, Or.inl ⟨rfl, rfl⟩⟩, u_cn.1.1, u_cn.1.2, ⟨u_cn.2.1.1, by decide, fun j v h => by simp at h⟩, ⟨u_cn.2.1.2.2.2, by decide, fun j v h => by simp at h⟩, ⟨u_cn.2.1.2.1, by decide, fun j v h => by simp at h⟩, u_cn.2.1.2.2.1, u_cn.2.2.1, u_cn.2.2.2⟩
theorem u_MAl : MAl jHi 506 ([], [], [], 1, 0, -1) :=
  ⟨⟨u_wd, u_wj, u_wq⟩, ⟨u_mn.1.1, by decide, fun j v h => by simp at h⟩, ⟨u_mn.1.2.1, by decide, fun j v h => by simp at h⟩, ⟨u_mn.1.2.2, by decide, fun j v h => by simp at h⟩, u_mn.2.1, u_mn.2.2.1, u_mn.2.2.2⟩
theorem u_ok : spGok ([], [], [], 1, 0, -1) := ⟨fun v h => by simp at h, fun e h => by simp at h, by decide, by decide⟩
theorem u_init : WRz (jL, jR) jHi 1 506 0 := Or.inr ⟨6, 19, fun _ => 0, ([], [], [], 1, 0, -1),
  ⟨u_CAl, u_ck.1, ⟨⟨u_cm.1.1, u_cm.1.2, u_c39⟩, u_cm.2.1, u_cm.2.2.1, u_cm.2.2.2.1, u_cm.2.2.2.2, u_c54⟩, u_ck.2.1, ⟨0, u_ck.2.2, by decide⟩, u_c4⟩,
  ⟨u_MAl, ⟨u_mm.1.1, u_mm.1.2.1, u_mm.1.2.2, u_m539⟩, u_mm.2.1, ⟨u_mm.2.2.1.1, u_mm.2.2.1.2.1, by rw [u_mm.2.2.1.2.2]; exact ⟨by decide, by decide⟩⟩, ⟨0, u_mm.2.2.2, by decide⟩, u_m508⟩, u_ok⟩
