/-! the law's body: its calls, case by case -/
def lwL (i : Int) : List jV := [(4, 2), (2, Int.ofNat 1), (2, Int.ofNat 506), (0, i)]
theorem jxI {xs : List Int} (hx : ∀ v ∈ xs, jI32 v) (n : Nat) : jI32 (xs.getD n 0) := by
  rw [List.getD_eq_getElem?_getD]
  cases h : xs[n]? with
  | none => exact ⟨by decide, by decide⟩
  | some v => exact hx v (List.mem_of_getElem? h)
theorem jlA0 {xs : List Int} {d pc : Nat} {ls st : List jV} {σ : jS} {y : jV × jS} {i : Int} (hf : jfI 0 pc .iaload 1 [] = true) (hi : 0 ≤ i ∧ i < (xs.length : Int)) (kk : jEv xs d (0, pc + 1, ls, (0, xs.getD i.toNat 0) :: st) σ y) : jEv xs d (0, pc, ls, (0, i) :: (4, 2) :: st) σ y :=
  jEv.aldX (z := 2) (l := xs) (A := some ()) (out := ()) hf rfl (if_pos ⟨hi.1, by omega⟩) (fun _ _ => kk)
theorem jlaW {xs : List Int} {d pc : Nat} {ls st : List jV} {σ : jS} {y : jV × jS} {i j : Int} (hf : jfI 0 pc .iaload 1 [] = true) (hi : 0 ≤ i ∧ i + 6 ≤ (xs.length : Int)) (hl : xs.length ≤ 3072) (hj : 0 ≤ j ∧ j < 6) (kk : jEv xs d (0, pc + 1, ls, (0, xs.getD (i + j).toNat 0) :: st) σ y) : jEv xs d (0, pc, ls, (0, wr (i + j)) :: (4, 2) :: st) σ y := by
  rw [pw (x := i + j) (by omega) (by omega)]
  exact jlA0 hf ⟨by omega, by omega⟩ kk
theorem jcnd_eq (v : Int) : jcnd .eq v v = false → False := fun h => by simp [jcnd] at h
section LWC
variable {T : jT} {xs : List Int} {h : jH} {k : Nat} {i : Int}
theorem law_feed (hT1 : isX11 T 1) (hT2 : isX12 T 506) (hx : ∀ v ∈ xs, jI32 v) (hi : 0 ≤ i ∧ i + 6 ≤ (xs.length : Int)) (hl : xs.length ≤ 3072) (hk5 : k < 512) (w : WRz T h 1 506 k) (kk : ∀ h', WRz T h' 1 506 (k + 1) → ∃ h2, jEv xs 90 (0, 1192, lwL i, []) (T, h') ((0, 1), (T, h2))) : ∃ h2, jEv xs 90 (0, 204, lwL i, []) (T, h) ((0, 1), (T, h2)) := by
  obtain ⟨v, h1, h2, a, b, c⟩ := wz_feed (T := T) (o0 := 1) (o := 506) (v1 := xs.getD (i + 1).toNat 0) (v2 := xs.getD (i + 2).toNat 0) (v3 := xs.getD (i + 3).toNat 0) (v4 := xs.getD (i + 4).toNat 0) (v5 := xs.getD (i + 5).toNat 0) (jxI hx _) (jxI hx _) (jxI hx _) (jxI hx _) (jxI hx _) rfl hk5 w
  obtain ⟨h3, e⟩ := kk h2 c
  refine ⟨h3, ?_⟩
  refine jEv.blk [(.aload_n 1, 1, []), (.aload_n 0, 1, []), (.iload_n 3, 1, []), (.iconst 1, 1, []), (.iadd, 1, [])] (by decide +kernel) (pc' := 209) (ls' := lwL i) (st' := [(0, wr (i + 1)), (4, 2), (2, Int.ofNat 1)]) rfl ?_
  refine jlaW (j := 1) (show jfI 0 209 .iaload 1 [] = true by decide +kernel) hi hl (by decide) ?_
  refine jEv.blk [(.aload_n 0, 1, []), (.iload_n 3, 1, []), (.iconst 2, 1, []), (.iadd, 1, [])] (by decide +kernel) (pc' := 214) (ls' := lwL i) (st' := [(0, wr (i + 2)), (4, 2), (0, xs.getD (i + 1).toNat 0), (2, Int.ofNat 1)]) rfl ?_
  refine jlaW (j := 2) (show jfI 0 214 .iaload 1 [] = true by decide +kernel) hi hl (by decide) ?_
  refine jEv.blk [(.aload_n 0, 1, []), (.iload_n 3, 1, []), (.iconst 3, 1, []), (.iadd, 1, [])] (by decide +kernel) (pc' := 219) (ls' := lwL i) (st' := [(0, wr (i + 3)), (4, 2), (0, xs.getD (i + 2).toNat 0), (0, xs.getD (i + 1).toNat 0), (2, Int.ofNat 1)]) rfl ?_
  refine jlaW (j := 3) (show jfI 0 219 .iaload 1 [] = true by decide +kernel) hi hl (by decide) ?_
  refine jEv.blk [(.aload_n 0, 1, []), (.iload_n 3, 1, []), (.iconst 4, 1, []), (.iadd, 1, [])] (by decide +kernel) (pc' := 224) (ls' := lwL i) (st' := [(0, wr (i + 4)), (4, 2), (0, xs.getD (i + 3).toNat 0), (0, xs.getD (i + 2).toNat 0), (0, xs.getD (i + 1).toNat 0), (2, Int.ofNat 1)]) rfl ?_
  refine jlaW (j := 4) (show jfI 0 224 .iaload 1 [] = true by decide +kernel) hi hl (by decide) ?_
  refine jEv.blk [(.aload_n 0, 1, []), (.iload_n 3, 1, []), (.iconst 5, 1, []), (.iadd, 1, [])] (by decide +kernel) (pc' := 229) (ls' := lwL i) (st' := [(0, wr (i + 5)), (4, 2), (0, xs.getD (i + 4).toNat 0), (0, xs.getD (i + 3).toNat 0), (0, xs.getD (i + 2).toNat 0), (0, xs.getD (i + 1).toNat 0), (2, Int.ofNat 1)]) rfl ?_
  refine jlaW (j := 5) (show jfI 0 229 .iaload 1 [] = true by decide +kernel) hi hl (by decide) ?_
  refine jEv.calV (st' := [(0, v)]) (show jfI 0 230 (.invokevirtual 13) 3 [1, 135, 5, 3062] = true by decide +kernel) rfl (Or.inl rfl) rfl (Nat.le_of_ble_eq_true rfl) (by decide +kernel) (by decide) (isX11_L hT1) ((t_G_feed (T := T) (xs := xs) hT1 a).mono (by decide)) rfl ?_
  refine jEv.blk [(.aload_n 2, 1, []), (.aload_n 0, 1, []), (.iload_n 3, 1, []), (.iconst 1, 1, []), (.iadd, 1, [])] (by decide +kernel) (pc' := 238) (ls' := lwL i) (st' := [(0, wr (i + 1)), (4, 2), (2, Int.ofNat 506), (0, v)]) rfl ?_
  refine jlaW (j := 1) (show jfI 0 238 .iaload 1 [] = true by decide +kernel) hi hl (by decide) ?_
  refine jEv.blk [(.aload_n 0, 1, []), (.iload_n 3, 1, []), (.iconst 2, 1, []), (.iadd, 1, [])] (by decide +kernel) (pc' := 243) (ls' := lwL i) (st' := [(0, wr (i + 2)), (4, 2), (0, xs.getD (i + 1).toNat 0), (2, Int.ofNat 506), (0, v)]) rfl ?_
  refine jlaW (j := 2) (show jfI 0 243 .iaload 1 [] = true by decide +kernel) hi hl (by decide) ?_
  refine jEv.blk [(.aload_n 0, 1, []), (.iload_n 3, 1, []), (.iconst 3, 1, []), (.iadd, 1, [])] (by decide +kernel) (pc' := 248) (ls' := lwL i) (st' := [(0, wr (i + 3)), (4, 2), (0, xs.getD (i + 2).toNat 0), (0, xs.getD (i + 1).toNat 0), (2, Int.ofNat 506), (0, v)]) rfl ?_
  refine jlaW (j := 3) (show jfI 0 248 .iaload 1 [] = true by decide +kernel) hi hl (by decide) ?_
  refine jEv.blk [(.aload_n 0, 1, []), (.iload_n 3, 1, []), (.iconst 4, 1, []), (.iadd, 1, [])] (by decide +kernel) (pc' := 253) (ls' := lwL i) (st' := [(0, wr (i + 4)), (4, 2), (0, xs.getD (i + 3).toNat 0), (0, xs.getD (i + 2).toNat 0), (0, xs.getD (i + 1).toNat 0), (2, Int.ofNat 506), (0, v)]) rfl ?_
  refine jlaW (j := 4) (show jfI 0 253 .iaload 1 [] = true by decide +kernel) hi hl (by decide) ?_
  refine jEv.blk [(.aload_n 0, 1, []), (.iload_n 3, 1, []), (.iconst 5, 1, []), (.iadd, 1, [])] (by decide +kernel) (pc' := 258) (ls' := lwL i) (st' := [(0, wr (i + 5)), (4, 2), (0, xs.getD (i + 4).toNat 0), (0, xs.getD (i + 3).toNat 0), (0, xs.getD (i + 2).toNat 0), (0, xs.getD (i + 1).toNat 0), (2, Int.ofNat 506), (0, v)]) rfl ?_
  refine jlaW (j := 5) (show jfI 0 258 .iaload 1 [] = true by decide +kernel) hi hl (by decide) ?_
  refine jEv.calV (st' := [(0, v), (0, v)]) (show jfI 0 259 (.invokevirtual 17) 3 [1, 201, 5, 8130] = true by decide +kernel) rfl (Or.inl rfl) rfl (Nat.le_of_ble_eq_true rfl) (by decide +kernel) (by decide) (isX12_L hT2) ((t_M_feed (T := T) (xs := xs) hT2 b).mono (by decide)) rfl ?_
  exact jEv.cnd (t := 1192) (show jfI 0 262 (.if_icmp .eq 930) 3 [] = true by decide +kernel) rfl (fun _ => e) (fun hf => (jcnd_eq _ hf).elim)
theorem law_end (hT1 : isX11 T 1) (hT2 : isX12 T 506) (hx : ∀ v ∈ xs, jI32 v) (hi : 0 ≤ i ∧ i + 6 ≤ (xs.length : Int)) (hl : xs.length ≤ 3072) (hk5 : k < 512) (w : WRz T h 1 506 k) (kk : ∀ h', WRz T h' 1 506 (k + 1) → ∃ h2, jEv xs 90 (0, 1192, lwL i, []) (T, h') ((0, 1), (T, h2))) : ∃ h2, jEv xs 90 (0, 267, lwL i, []) (T, h) ((0, 1), (T, h2)) := by
  obtain ⟨v, h1, h2, a, b, c⟩ := wz_end (T := T) (o0 := 1) (o := 506) (v1 := xs.getD (i + 1).toNat 0) rfl hk5 w
  obtain ⟨h3, e⟩ := kk h2 c
  refine ⟨h3, ?_⟩
  refine jEv.blk [(.aload_n 1, 1, []), (.aload_n 0, 1, []), (.iload_n 3, 1, []), (.iconst 1, 1, []), (.iadd, 1, [])] (by decide +kernel) (pc' := 272) (ls' := lwL i) (st' := [(0, wr (i + 1)), (4, 2), (2, Int.ofNat 1)]) rfl ?_
  refine jlaW (j := 1) (show jfI 0 272 .iaload 1 [] = true by decide +kernel) hi hl (by decide) ?_
  refine jEv.calV (st' := [(0, v)]) (show jfI 0 273 (.invokevirtual 18) 3 [1, 140, 1, 3080] = true by decide +kernel) rfl (Or.inl rfl) rfl (Nat.le_of_ble_eq_true rfl) (by decide +kernel) (by decide) (isX11_L hT1) ((t_G_end (T := T) (xs := xs) hT1 a).mono (by decide)) rfl ?_
  refine jEv.blk [(.aload_n 2, 1, []), (.aload_n 0, 1, []), (.iload_n 3, 1, []), (.iconst 1, 1, []), (.iadd, 1, [])] (by decide +kernel) (pc' := 281) (ls' := lwL i) (st' := [(0, wr (i + 1)), (4, 2), (2, Int.ofNat 506), (0, v)]) rfl ?_
  refine jlaW (j := 1) (show jfI 0 281 .iaload 1 [] = true by decide +kernel) hi hl (by decide) ?_
  refine jEv.calV (st' := [(0, v), (0, v)]) (show jfI 0 282 (.invokevirtual 22) 3 [1, 202, 1, 8134] = true by decide +kernel) rfl (Or.inl rfl) rfl (Nat.le_of_ble_eq_true rfl) (by decide +kernel) (by decide) (isX12_L hT2) ((t_M_end (T := T) (xs := xs) hT2 b).mono (by decide)) rfl ?_
  exact jEv.cnd (t := 1192) (show jfI 0 285 (.if_icmp .eq 907) 3 [] = true by decide +kernel) rfl (fun _ => e) (fun hf => (jcnd_eq _ hf).elim)
theorem law_journal (hT1 : isX11 T 1) (hT2 : isX12 T 506) (hx : ∀ v ∈ xs, jI32 v) (hi : 0 ≤ i ∧ i + 6 ≤ (xs.length : Int)) (hl : xs.length ≤ 3072) (hk5 : k < 512) (w : WRz T h 1 506 k) (kk : ∀ h', WRz T h' 1 506 (k + 1) → ∃ h2, jEv xs 90 (0, 1192, lwL i, []) (T, h') ((0, 1), (T, h2))) : ∃ h2, jEv xs 90 (0, 290, lwL i, []) (T, h) ((0, 1), (T, h2)) := by
  obtain ⟨v, h1, h2, a, b, c⟩ := wz_journal (T := T) (o0 := 1) (o := 506) rfl hk5 w
  obtain ⟨h3, e⟩ := kk h2 c
  refine ⟨h3, ?_⟩
  refine jEv.blk [(.aload_n 1, 1, [])] (by decide +kernel) (pc' := 291) (ls' := lwL i) (st' := [(2, Int.ofNat 1)]) rfl ?_
  refine jEv.calV (st' := [(0, v)]) (show jfI 0 291 (.invokevirtual 23) 3 [1, 142, 0, 3088] = true by decide +kernel) rfl (Or.inl rfl) rfl (Nat.le_of_ble_eq_true rfl) (by decide +kernel) (by decide) (isX11_L hT1) ((t_G_journal (T := T) (xs := xs) hT1 a).mono (by decide)) rfl ?_
  refine jEv.blk [(.aload_n 2, 1, [])] (by decide +kernel) (pc' := 295) (ls' := lwL i) (st' := [(2, Int.ofNat 506), (0, v)]) rfl ?_
  refine jEv.calV (st' := [(0, v), (0, v)]) (show jfI 0 295 (.invokevirtual 27) 3 [1, 203, 0, 8138] = true by decide +kernel) rfl (Or.inl rfl) rfl (Nat.le_of_ble_eq_true rfl) (by decide +kernel) (by decide) (isX12_L hT2) ((t_M_journal (T := T) (xs := xs) hT2 b).mono (by decide)) rfl ?_
  exact jEv.cnd (t := 1192) (show jfI 0 298 (.if_icmp .eq 894) 3 [] = true by decide +kernel) rfl (fun _ => e) (fun hf => (jcnd_eq _ hf).elim)
theorem law_fault (hT1 : isX11 T 1) (hT2 : isX12 T 506) (hx : ∀ v ∈ xs, jI32 v) (hi : 0 ≤ i ∧ i + 6 ≤ (xs.length : Int)) (hl : xs.length ≤ 3072) (hk5 : k < 512) (w : WRz T h 1 506 k) (kk : ∀ h', WRz T h' 1 506 (k + 1) → ∃ h2, jEv xs 90 (0, 1192, lwL i, []) (T, h') ((0, 1), (T, h2))) : ∃ h2, jEv xs 90 (0, 303, lwL i, []) (T, h) ((0, 1), (T, h2)) := by
  obtain ⟨v, a, b, c⟩ := wz_fault (T := T) (o0 := 1) (o := 506) (v1 := xs.getD (i + 1).toNat 0) w
  obtain ⟨h3, e⟩ := kk h c
  refine ⟨h3, ?_⟩
  refine jEv.blk [(.aload_n 1, 1, []), (.aload_n 0, 1, []), (.iload_n 3, 1, []), (.iconst 1, 1, []), (.iadd, 1, [])] (by decide +kernel) (pc' := 308) (ls' := lwL i) (st' := [(0, wr (i + 1)), (4, 2), (2, Int.ofNat 1)]) rfl ?_
  refine jlaW (j := 1) (show jfI 0 308 .iaload 1 [] = true by decide +kernel) hi hl (by decide) ?_
  refine jEv.calV (st' := [(0, v)]) (show jfI 0 309 (.invokevirtual 28) 3 [1, 146, 1, 4138] = true by decide +kernel) rfl (Or.inl rfl) rfl (Nat.le_of_ble_eq_true rfl) (by decide +kernel) (by decide) (isX11_L hT1) ((t_G_fault (T := T) (xs := xs) hT1 a).mono (by decide)) rfl ?_
  refine jEv.blk [(.aload_n 2, 1, []), (.aload_n 0, 1, []), (.iload_n 3, 1, []), (.iconst 1, 1, []), (.iadd, 1, [])] (by decide +kernel) (pc' := 317) (ls' := lwL i) (st' := [(0, wr (i + 1)), (4, 2), (2, Int.ofNat 506), (0, v)]) rfl ?_
  refine jlaW (j := 1) (show jfI 0 317 .iaload 1 [] = true by decide +kernel) hi hl (by decide) ?_
  refine jEv.calV (st' := [(0, v), (0, v)]) (show jfI 0 318 (.invokevirtual 32) 3 [1, 252, 1, 9088] = true by decide +kernel) rfl (Or.inl rfl) rfl (Nat.le_of_ble_eq_true rfl) (by decide +kernel) (by decide) (isX12_L hT2) ((t_M_fault (T := T) (xs := xs) hT2 b).mono (by decide)) rfl ?_
  exact jEv.cnd (t := 1192) (show jfI 0 321 (.if_icmp .eq 871) 3 [] = true by decide +kernel) rfl (fun _ => e) (fun hf => (jcnd_eq _ hf).elim)
theorem law_has (hT1 : isX11 T 1) (hT2 : isX12 T 506) (hx : ∀ v ∈ xs, jI32 v) (hi : 0 ≤ i ∧ i + 6 ≤ (xs.length : Int)) (hl : xs.length ≤ 3072) (hk5 : k < 512) (w : WRz T h 1 506 k) (kk : ∀ h', WRz T h' 1 506 (k + 1) → ∃ h2, jEv xs 90 (0, 1192, lwL i, []) (T, h') ((0, 1), (T, h2))) : ∃ h2, jEv xs 90 (0, 326, lwL i, []) (T, h) ((0, 1), (T, h2)) := by
  obtain ⟨v, a, b, c⟩ := wz_has (T := T) (o0 := 1) (o := 506) (v1 := xs.getD (i + 1).toNat 0) w
  obtain ⟨h3, e⟩ := kk h c
  refine ⟨h3, ?_⟩
  refine jEv.blk [(.aload_n 1, 1, []), (.aload_n 0, 1, []), (.iload_n 3, 1, []), (.iconst 1, 1, []), (.iadd, 1, [])] (by decide +kernel) (pc' := 331) (ls' := lwL i) (st' := [(0, wr (i + 1)), (4, 2), (2, Int.ofNat 1)]) rfl ?_
  refine jlaW (j := 1) (show jfI 0 331 .iaload 1 [] = true by decide +kernel) hi hl (by decide) ?_
  refine jEv.calV (st' := [(0, v)]) (show jfI 0 332 (.invokevirtual 33) 3 [1, 147, 1, 4142] = true by decide +kernel) rfl (Or.inl rfl) rfl (Nat.le_of_ble_eq_true rfl) (by decide +kernel) (by decide) (isX11_L hT1) ((t_G_has (T := T) (xs := xs) hT1 a).mono (by decide)) rfl ?_
  refine jEv.blk [(.aload_n 2, 1, []), (.aload_n 0, 1, []), (.iload_n 3, 1, []), (.iconst 1, 1, []), (.iadd, 1, [])] (by decide +kernel) (pc' := 340) (ls' := lwL i) (st' := [(0, wr (i + 1)), (4, 2), (2, Int.ofNat 506), (0, v)]) rfl ?_
  refine jlaW (j := 1) (show jfI 0 340 .iaload 1 [] = true by decide +kernel) hi hl (by decide) ?_
  refine jEv.calV (st' := [(0, v), (0, v)]) (show jfI 0 341 (.invokevirtual 36) 3 [1, 253, 1, 9092] = true by decide +kernel) rfl (Or.inl rfl) rfl (Nat.le_of_ble_eq_true rfl) (by decide +kernel) (by decide) (isX12_L hT2) ((t_M_has (T := T) (xs := xs) hT2 b).mono (by decide)) rfl ?_
  exact jEv.cnd (t := 1192) (show jfI 0 344 (.if_icmp .eq 848) 3 [] = true by decide +kernel) rfl (fun _ => e) (fun hf => (jcnd_eq _ hf).elim)
theorem law_segment (hT1 : isX11 T 1) (hT2 : isX12 T 506) (hx : ∀ v ∈ xs, jI32 v) (hi : 0 ≤ i ∧ i + 6 ≤ (xs.length : Int)) (hl : xs.length ≤ 3072) (hk5 : k < 512) (w : WRz T h 1 506 k) (kk : ∀ h', WRz T h' 1 506 (k + 1) → ∃ h2, jEv xs 90 (0, 1192, lwL i, []) (T, h') ((0, 1), (T, h2))) : ∃ h2, jEv xs 90 (0, 349, lwL i, []) (T, h) ((0, 1), (T, h2)) := by
  obtain ⟨v, h1, h2, a, b, c⟩ := wz_segment (T := T) (o0 := 1) (o := 506) (v1 := xs.getD (i + 1).toNat 0) (v2 := xs.getD (i + 2).toNat 0) rfl hk5 w
  obtain ⟨h3, e⟩ := kk h2 c
  refine ⟨h3, ?_⟩
  refine jEv.blk [(.aload_n 1, 1, []), (.aload_n 0, 1, []), (.iload_n 3, 1, []), (.iconst 1, 1, []), (.iadd, 1, [])] (by decide +kernel) (pc' := 354) (ls' := lwL i) (st' := [(0, wr (i + 1)), (4, 2), (2, Int.ofNat 1)]) rfl ?_
  refine jlaW (j := 1) (show jfI 0 354 .iaload 1 [] = true by decide +kernel) hi hl (by decide) ?_
  refine jEv.blk [(.aload_n 0, 1, []), (.iload_n 3, 1, []), (.iconst 2, 1, []), (.iadd, 1, [])] (by decide +kernel) (pc' := 359) (ls' := lwL i) (st' := [(0, wr (i + 2)), (4, 2), (0, xs.getD (i + 1).toNat 0), (2, Int.ofNat 1)]) rfl ?_
  refine jlaW (j := 2) (show jfI 0 359 .iaload 1 [] = true by decide +kernel) hi hl (by decide) ?_
  refine jEv.calV (st' := [(0, v)]) (show jfI 0 360 (.invokevirtual 37) 3 [1, 148, 2, 4160] = true by decide +kernel) rfl (Or.inl rfl) rfl (Nat.le_of_ble_eq_true rfl) (by decide +kernel) (by decide) (isX11_L hT1) ((t_G_segment (T := T) (xs := xs) hT1 a).mono (by decide)) rfl ?_
  refine jEv.blk [(.aload_n 2, 1, []), (.aload_n 0, 1, []), (.iload_n 3, 1, []), (.iconst 1, 1, []), (.iadd, 1, [])] (by decide +kernel) (pc' := 368) (ls' := lwL i) (st' := [(0, wr (i + 1)), (4, 2), (2, Int.ofNat 506), (0, v)]) rfl ?_
  refine jlaW (j := 1) (show jfI 0 368 .iaload 1 [] = true by decide +kernel) hi hl (by decide) ?_
  refine jEv.blk [(.aload_n 0, 1, []), (.iload_n 3, 1, []), (.iconst 2, 1, []), (.iadd, 1, [])] (by decide +kernel) (pc' := 373) (ls' := lwL i) (st' := [(0, wr (i + 2)), (4, 2), (0, xs.getD (i + 1).toNat 0), (2, Int.ofNat 506), (0, v)]) rfl ?_
  refine jlaW (j := 2) (show jfI 0 373 .iaload 1 [] = true by decide +kernel) hi hl (by decide) ?_
  refine jEv.calV (st' := [(0, v), (0, v)]) (show jfI 0 374 (.invokevirtual 41) 3 [1, 256, 2, 9104] = true by decide +kernel) rfl (Or.inl rfl) rfl (Nat.le_of_ble_eq_true rfl) (by decide +kernel) (by decide) (isX12_L hT2) ((t_M_segment (T := T) (xs := xs) hT2 b).mono (by decide)) rfl ?_
  exact jEv.cnd (t := 1192) (show jfI 0 377 (.if_icmp .eq 815) 3 [] = true by decide +kernel) rfl (fun _ => e) (fun hf => (jcnd_eq _ hf).elim)
theorem law_frame (hT1 : isX11 T 1) (hT2 : isX12 T 506) (hx : ∀ v ∈ xs, jI32 v) (hi : 0 ≤ i ∧ i + 6 ≤ (xs.length : Int)) (hl : xs.length ≤ 3072) (hk5 : k < 512) (w : WRz T h 1 506 k) (kk : ∀ h', WRz T h' 1 506 (k + 1) → ∃ h2, jEv xs 90 (0, 1192, lwL i, []) (T, h') ((0, 1), (T, h2))) : ∃ h2, jEv xs 90 (0, 382, lwL i, []) (T, h) ((0, 1), (T, h2)) := by
  obtain ⟨v, h1, h2, a, b, c⟩ := wz_frame (T := T) (o0 := 1) (o := 506) (v1 := xs.getD (i + 1).toNat 0) (v2 := xs.getD (i + 2).toNat 0) (v3 := xs.getD (i + 3).toNat 0) rfl hk5 w
  obtain ⟨h3, e⟩ := kk h2 c
  refine ⟨h3, ?_⟩
  refine jEv.blk [(.aload_n 1, 1, []), (.aload_n 0, 1, []), (.iload_n 3, 1, []), (.iconst 1, 1, []), (.iadd, 1, [])] (by decide +kernel) (pc' := 387) (ls' := lwL i) (st' := [(0, wr (i + 1)), (4, 2), (2, Int.ofNat 1)]) rfl ?_
  refine jlaW (j := 1) (show jfI 0 387 .iaload 1 [] = true by decide +kernel) hi hl (by decide) ?_
  refine jEv.blk [(.aload_n 0, 1, []), (.iload_n 3, 1, []), (.iconst 2, 1, []), (.iadd, 1, [])] (by decide +kernel) (pc' := 392) (ls' := lwL i) (st' := [(0, wr (i + 2)), (4, 2), (0, xs.getD (i + 1).toNat 0), (2, Int.ofNat 1)]) rfl ?_
  refine jlaW (j := 2) (show jfI 0 392 .iaload 1 [] = true by decide +kernel) hi hl (by decide) ?_
  refine jEv.blk [(.aload_n 0, 1, []), (.iload_n 3, 1, []), (.iconst 3, 1, []), (.iadd, 1, [])] (by decide +kernel) (pc' := 397) (ls' := lwL i) (st' := [(0, wr (i + 3)), (4, 2), (0, xs.getD (i + 2).toNat 0), (0, xs.getD (i + 1).toNat 0), (2, Int.ofNat 1)]) rfl ?_
  refine jlaW (j := 3) (show jfI 0 397 .iaload 1 [] = true by decide +kernel) hi hl (by decide) ?_
  refine jEv.calV (st' := [(0, v)]) (show jfI 0 398 (.invokevirtual 42) 3 [1, 149, 3, 4229] = true by decide +kernel) rfl (Or.inl rfl) rfl (Nat.le_of_ble_eq_true rfl) (by decide +kernel) (by decide) (isX11_L hT1) ((t_G_frame (T := T) (xs := xs) hT1 a).mono (by decide)) rfl ?_
  refine jEv.blk [(.aload_n 2, 1, []), (.aload_n 0, 1, []), (.iload_n 3, 1, []), (.iconst 1, 1, []), (.iadd, 1, [])] (by decide +kernel) (pc' := 406) (ls' := lwL i) (st' := [(0, wr (i + 1)), (4, 2), (2, Int.ofNat 506), (0, v)]) rfl ?_
  refine jlaW (j := 1) (show jfI 0 406 .iaload 1 [] = true by decide +kernel) hi hl (by decide) ?_
  refine jEv.blk [(.aload_n 0, 1, []), (.iload_n 3, 1, []), (.iconst 2, 1, []), (.iadd, 1, [])] (by decide +kernel) (pc' := 411) (ls' := lwL i) (st' := [(0, wr (i + 2)), (4, 2), (0, xs.getD (i + 1).toNat 0), (2, Int.ofNat 506), (0, v)]) rfl ?_
  refine jlaW (j := 2) (show jfI 0 411 .iaload 1 [] = true by decide +kernel) hi hl (by decide) ?_
  refine jEv.blk [(.aload_n 0, 1, []), (.iload_n 3, 1, []), (.iconst 3, 1, []), (.iadd, 1, [])] (by decide +kernel) (pc' := 416) (ls' := lwL i) (st' := [(0, wr (i + 3)), (4, 2), (0, xs.getD (i + 2).toNat 0), (0, xs.getD (i + 1).toNat 0), (2, Int.ofNat 506), (0, v)]) rfl ?_
  refine jlaW (j := 3) (show jfI 0 416 .iaload 1 [] = true by decide +kernel) hi hl (by decide) ?_
  refine jEv.calV (st' := [(0, v), (0, v)]) (show jfI 0 417 (.invokevirtual 46) 3 [1, 270, 3, 9161] = true by decide +kernel) rfl (Or.inl rfl) rfl (Nat.le_of_ble_eq_true rfl) (by decide +kernel) (by decide) (isX12_L hT2) ((t_M_frame (T := T) (xs := xs) hT2 b).mono (by decide)) rfl ?_
  exact jEv.cnd (t := 1192) (show jfI 0 420 (.if_icmp .eq 772) 3 [] = true by decide +kernel) rfl (fun _ => e) (fun hf => (jcnd_eq _ hf).elim)
theorem law_octetOf (hT1 : isX11 T 1) (hT2 : isX12 T 506) (hx : ∀ v ∈ xs, jI32 v) (hi : 0 ≤ i ∧ i + 6 ≤ (xs.length : Int)) (hl : xs.length ≤ 3072) (hk5 : k < 512) (w : WRz T h 1 506 k) (kk : ∀ h', WRz T h' 1 506 (k + 1) → ∃ h2, jEv xs 90 (0, 1192, lwL i, []) (T, h') ((0, 1), (T, h2))) : ∃ h2, jEv xs 90 (0, 425, lwL i, []) (T, h) ((0, 1), (T, h2)) := by
  obtain ⟨v, a, b, c⟩ := wz_octetOf (T := T) (o0 := 1) (o := 506) (v1 := xs.getD (i + 1).toNat 0) (v2 := xs.getD (i + 2).toNat 0) w
  obtain ⟨h3, e⟩ := kk h c
  refine ⟨h3, ?_⟩
  refine jEv.blk [(.aload_n 1, 1, []), (.aload_n 0, 1, []), (.iload_n 3, 1, []), (.iconst 1, 1, []), (.iadd, 1, [])] (by decide +kernel) (pc' := 430) (ls' := lwL i) (st' := [(0, wr (i + 1)), (4, 2), (2, Int.ofNat 1)]) rfl ?_
  refine jlaW (j := 1) (show jfI 0 430 .iaload 1 [] = true by decide +kernel) hi hl (by decide) ?_
  refine jEv.blk [(.aload_n 0, 1, []), (.iload_n 3, 1, []), (.iconst 2, 1, []), (.iadd, 1, [])] (by decide +kernel) (pc' := 435) (ls' := lwL i) (st' := [(0, wr (i + 2)), (4, 2), (0, xs.getD (i + 1).toNat 0), (2, Int.ofNat 1)]) rfl ?_
  refine jlaW (j := 2) (show jfI 0 435 .iaload 1 [] = true by decide +kernel) hi hl (by decide) ?_
  refine jEv.calV (st' := [(0, v)]) (show jfI 0 436 (.invokevirtual 47) 3 [1, 150, 2, 4235] = true by decide +kernel) rfl (Or.inl rfl) rfl (Nat.le_of_ble_eq_true rfl) (by decide +kernel) (by decide) (isX11_L hT1) ((t_G_octetOf (T := T) (xs := xs) hT1 a).mono (by decide)) rfl ?_
  refine jEv.blk [(.aload_n 2, 1, []), (.aload_n 0, 1, []), (.iload_n 3, 1, []), (.iconst 1, 1, []), (.iadd, 1, [])] (by decide +kernel) (pc' := 444) (ls' := lwL i) (st' := [(0, wr (i + 1)), (4, 2), (2, Int.ofNat 506), (0, v)]) rfl ?_
  refine jlaW (j := 1) (show jfI 0 444 .iaload 1 [] = true by decide +kernel) hi hl (by decide) ?_
  refine jEv.blk [(.aload_n 0, 1, []), (.iload_n 3, 1, []), (.iconst 2, 1, []), (.iadd, 1, [])] (by decide +kernel) (pc' := 449) (ls' := lwL i) (st' := [(0, wr (i + 2)), (4, 2), (0, xs.getD (i + 1).toNat 0), (2, Int.ofNat 506), (0, v)]) rfl ?_
  refine jlaW (j := 2) (show jfI 0 449 .iaload 1 [] = true by decide +kernel) hi hl (by decide) ?_
  refine jEv.calV (st' := [(0, v), (0, v)]) (show jfI 0 450 (.invokevirtual 50) 3 [1, 271, 2, 9166] = true by decide +kernel) rfl (Or.inl rfl) rfl (Nat.le_of_ble_eq_true rfl) (by decide +kernel) (by decide) (isX12_L hT2) ((t_M_octetOf (T := T) (xs := xs) hT2 b).mono (by decide)) rfl ?_
  exact jEv.cnd (t := 1192) (show jfI 0 453 (.if_icmp .eq 739) 3 [] = true by decide +kernel) rfl (fun _ => e) (fun hf => (jcnd_eq _ hf).elim)
theorem law_place (hT1 : isX11 T 1) (hT2 : isX12 T 506) (hx : ∀ v ∈ xs, jI32 v) (hi : 0 ≤ i ∧ i + 6 ≤ (xs.length : Int)) (hl : xs.length ≤ 3072) (hk5 : k < 512) (w : WRz T h 1 506 k) (kk : ∀ h', WRz T h' 1 506 (k + 1) → ∃ h2, jEv xs 90 (0, 1192, lwL i, []) (T, h') ((0, 1), (T, h2))) : ∃ h2, jEv xs 90 (0, 458, lwL i, []) (T, h) ((0, 1), (T, h2)) := by
  obtain ⟨v, a, b, c⟩ := wz_place (T := T) (o0 := 1) (o := 506) (v1 := xs.getD (i + 1).toNat 0) w
  obtain ⟨h3, e⟩ := kk h c
  refine ⟨h3, ?_⟩
  refine jEv.blk [(.aload_n 1, 1, []), (.aload_n 0, 1, []), (.iload_n 3, 1, []), (.iconst 1, 1, []), (.iadd, 1, [])] (by decide +kernel) (pc' := 463) (ls' := lwL i) (st' := [(0, wr (i + 1)), (4, 2), (2, Int.ofNat 1)]) rfl ?_
  refine jlaW (j := 1) (show jfI 0 463 .iaload 1 [] = true by decide +kernel) hi hl (by decide) ?_
  refine jEv.calV (st' := [(0, v)]) (show jfI 0 464 (.invokevirtual 51) 3 [1, 151, 1, 5000] = true by decide +kernel) rfl (Or.inl rfl) rfl (Nat.le_of_ble_eq_true rfl) (by decide +kernel) (by decide) (isX11_L hT1) ((t_G_place (T := T) (xs := xs) hT1 a).mono (by decide)) rfl ?_
  refine jEv.blk [(.aload_n 2, 1, []), (.aload_n 0, 1, []), (.iload_n 3, 1, []), (.iconst 1, 1, []), (.iadd, 1, [])] (by decide +kernel) (pc' := 472) (ls' := lwL i) (st' := [(0, wr (i + 1)), (4, 2), (2, Int.ofNat 506), (0, v)]) rfl ?_
  refine jlaW (j := 1) (show jfI 0 472 .iaload 1 [] = true by decide +kernel) hi hl (by decide) ?_
  refine jEv.calV (st' := [(0, v), (0, v)]) (show jfI 0 473 (.invokevirtual 54) 3 [1, 272, 1, 9170] = true by decide +kernel) rfl (Or.inl rfl) rfl (Nat.le_of_ble_eq_true rfl) (by decide +kernel) (by decide) (isX12_L hT2) ((t_M_place (T := T) (xs := xs) hT2 b).mono (by decide)) rfl ?_
  exact jEv.cnd (t := 1192) (show jfI 0 476 (.if_icmp .eq 716) 3 [] = true by decide +kernel) rfl (fun _ => e) (fun hf => (jcnd_eq _ hf).elim)
theorem law_value (hT1 : isX11 T 1) (hT2 : isX12 T 506) (hx : ∀ v ∈ xs, jI32 v) (hi : 0 ≤ i ∧ i + 6 ≤ (xs.length : Int)) (hl : xs.length ≤ 3072) (hk5 : k < 512) (w : WRz T h 1 506 k) (kk : ∀ h', WRz T h' 1 506 (k + 1) → ∃ h2, jEv xs 90 (0, 1192, lwL i, []) (T, h') ((0, 1), (T, h2))) : ∃ h2, jEv xs 90 (0, 481, lwL i, []) (T, h) ((0, 1), (T, h2)) := by
  obtain ⟨v, a, b, c⟩ := wz_value (T := T) (o0 := 1) (o := 506) (v1 := xs.getD (i + 1).toNat 0) w
  obtain ⟨h3, e⟩ := kk h c
  refine ⟨h3, ?_⟩
  refine jEv.blk [(.aload_n 1, 1, []), (.aload_n 0, 1, []), (.iload_n 3, 1, []), (.iconst 1, 1, []), (.iadd, 1, [])] (by decide +kernel) (pc' := 486) (ls' := lwL i) (st' := [(0, wr (i + 1)), (4, 2), (2, Int.ofNat 1)]) rfl ?_
  refine jlaW (j := 1) (show jfI 0 486 .iaload 1 [] = true by decide +kernel) hi hl (by decide) ?_
  refine jEv.calV (st' := [(0, v)]) (show jfI 0 487 (.invokevirtual 55) 3 [1, 153, 1, 5008] = true by decide +kernel) rfl (Or.inl rfl) rfl (Nat.le_of_ble_eq_true rfl) (by decide +kernel) (by decide) (isX11_L hT1) ((t_G_value (T := T) (xs := xs) hT1 a).mono (by decide)) rfl ?_
  refine jEv.blk [(.aload_n 2, 1, []), (.aload_n 0, 1, []), (.iload_n 3, 1, []), (.iconst 1, 1, []), (.iadd, 1, [])] (by decide +kernel) (pc' := 495) (ls' := lwL i) (st' := [(0, wr (i + 1)), (4, 2), (2, Int.ofNat 506), (0, v)]) rfl ?_
  refine jlaW (j := 1) (show jfI 0 495 .iaload 1 [] = true by decide +kernel) hi hl (by decide) ?_
  refine jEv.calV (st' := [(0, v), (0, v)]) (show jfI 0 496 (.invokevirtual 58) 3 [1, 273, 1, 9174] = true by decide +kernel) rfl (Or.inl rfl) rfl (Nat.le_of_ble_eq_true rfl) (by decide +kernel) (by decide) (isX12_L hT2) ((t_M_value (T := T) (xs := xs) hT2 b).mono (by decide)) rfl ?_
  exact jEv.cnd (t := 1192) (show jfI 0 499 (.if_icmp .eq 693) 3 [] = true by decide +kernel) rfl (fun _ => e) (fun hf => (jcnd_eq _ hf).elim)
theorem law_soon (hT1 : isX11 T 1) (hT2 : isX12 T 506) (hx : ∀ v ∈ xs, jI32 v) (hi : 0 ≤ i ∧ i + 6 ≤ (xs.length : Int)) (hl : xs.length ≤ 3072) (hk5 : k < 512) (w : WRz T h 1 506 k) (kk : ∀ h', WRz T h' 1 506 (k + 1) → ∃ h2, jEv xs 90 (0, 1192, lwL i, []) (T, h') ((0, 1), (T, h2))) : ∃ h2, jEv xs 90 (0, 504, lwL i, []) (T, h) ((0, 1), (T, h2)) := by
  obtain ⟨v, a, b, c⟩ := wz_soon (T := T) (o0 := 1) (o := 506) (v1 := xs.getD (i + 1).toNat 0) w
  obtain ⟨h3, e⟩ := kk h c
  refine ⟨h3, ?_⟩
  refine jEv.blk [(.aload_n 1, 1, []), (.aload_n 0, 1, []), (.iload_n 3, 1, []), (.iconst 1, 1, []), (.iadd, 1, [])] (by decide +kernel) (pc' := 509) (ls' := lwL i) (st' := [(0, wr (i + 1)), (4, 2), (2, Int.ofNat 1)]) rfl ?_
  refine jlaW (j := 1) (show jfI 0 509 .iaload 1 [] = true by decide +kernel) hi hl (by decide) ?_
  refine jEv.calV (st' := [(0, v)]) (show jfI 0 510 (.invokevirtual 59) 3 [1, 154, 1, 5012] = true by decide +kernel) rfl (Or.inl rfl) rfl (Nat.le_of_ble_eq_true rfl) (by decide +kernel) (by decide) (isX11_L hT1) ((t_G_soon (T := T) (xs := xs) hT1 a).mono (by decide)) rfl ?_
  refine jEv.blk [(.aload_n 2, 1, []), (.aload_n 0, 1, []), (.iload_n 3, 1, []), (.iconst 1, 1, []), (.iadd, 1, [])] (by decide +kernel) (pc' := 518) (ls' := lwL i) (st' := [(0, wr (i + 1)), (4, 2), (2, Int.ofNat 506), (0, v)]) rfl ?_
  refine jlaW (j := 1) (show jfI 0 518 .iaload 1 [] = true by decide +kernel) hi hl (by decide) ?_
  refine jEv.calV (st' := [(0, v), (0, v)]) (show jfI 0 519 (.invokevirtual 62) 3 [1, 274, 1, 9179] = true by decide +kernel) rfl (Or.inl rfl) rfl (Nat.le_of_ble_eq_true rfl) (by decide +kernel) (by decide) (isX12_L hT2) ((t_M_soon (T := T) (xs := xs) hT2 b).mono (by decide)) rfl ?_
  exact jEv.cnd (t := 1192) (show jfI 0 522 (.if_icmp .eq 670) 3 [] = true by decide +kernel) rfl (fun _ => e) (fun hf => (jcnd_eq _ hf).elim)
theorem law_waiting (hT1 : isX11 T 1) (hT2 : isX12 T 506) (hx : ∀ v ∈ xs, jI32 v) (hi : 0 ≤ i ∧ i + 6 ≤ (xs.length : Int)) (hl : xs.length ≤ 3072) (hk5 : k < 512) (w : WRz T h 1 506 k) (kk : ∀ h', WRz T h' 1 506 (k + 1) → ∃ h2, jEv xs 90 (0, 1192, lwL i, []) (T, h') ((0, 1), (T, h2))) : ∃ h2, jEv xs 90 (0, 527, lwL i, []) (T, h) ((0, 1), (T, h2)) := by
  obtain ⟨v, a, b, c⟩ := wz_waiting (T := T) (o0 := 1) (o := 506) (v1 := xs.getD (i + 1).toNat 0) (v2 := xs.getD (i + 2).toNat 0) w
  obtain ⟨h3, e⟩ := kk h c
  refine ⟨h3, ?_⟩
  refine jEv.blk [(.aload_n 1, 1, []), (.aload_n 0, 1, []), (.iload_n 3, 1, []), (.iconst 1, 1, []), (.iadd, 1, [])] (by decide +kernel) (pc' := 532) (ls' := lwL i) (st' := [(0, wr (i + 1)), (4, 2), (2, Int.ofNat 1)]) rfl ?_
  refine jlaW (j := 1) (show jfI 0 532 .iaload 1 [] = true by decide +kernel) hi hl (by decide) ?_
  refine jEv.blk [(.aload_n 0, 1, []), (.iload_n 3, 1, []), (.iconst 2, 1, []), (.iadd, 1, [])] (by decide +kernel) (pc' := 537) (ls' := lwL i) (st' := [(0, wr (i + 2)), (4, 2), (0, xs.getD (i + 1).toNat 0), (2, Int.ofNat 1)]) rfl ?_
  refine jlaW (j := 2) (show jfI 0 537 .iaload 1 [] = true by decide +kernel) hi hl (by decide) ?_
  refine jEv.calV (st' := [(0, v)]) (show jfI 0 538 (.invokevirtual 63) 3 [1, 155, 2, 5021] = true by decide +kernel) rfl (Or.inl rfl) rfl (Nat.le_of_ble_eq_true rfl) (by decide +kernel) (by decide) (isX11_L hT1) ((t_G_waiting (T := T) (xs := xs) hT1 a).mono (by decide)) rfl ?_
  refine jEv.blk [(.aload_n 2, 1, []), (.aload_n 0, 1, []), (.iload_n 3, 1, []), (.iconst 1, 1, []), (.iadd, 1, [])] (by decide +kernel) (pc' := 546) (ls' := lwL i) (st' := [(0, wr (i + 1)), (4, 2), (2, Int.ofNat 506), (0, v)]) rfl ?_
  refine jlaW (j := 1) (show jfI 0 546 .iaload 1 [] = true by decide +kernel) hi hl (by decide) ?_
  refine jEv.blk [(.aload_n 0, 1, []), (.iload_n 3, 1, []), (.iconst 2, 1, []), (.iadd, 1, [])] (by decide +kernel) (pc' := 551) (ls' := lwL i) (st' := [(0, wr (i + 2)), (4, 2), (0, xs.getD (i + 1).toNat 0), (2, Int.ofNat 506), (0, v)]) rfl ?_
  refine jlaW (j := 2) (show jfI 0 551 .iaload 1 [] = true by decide +kernel) hi hl (by decide) ?_
  refine jEv.calV (st' := [(0, v), (0, v)]) (show jfI 0 552 (.invokevirtual 66) 3 [1, 276, 2, 9188] = true by decide +kernel) rfl (Or.inl rfl) rfl (Nat.le_of_ble_eq_true rfl) (by decide +kernel) (by decide) (isX12_L hT2) ((t_M_waiting (T := T) (xs := xs) hT2 b).mono (by decide)) rfl ?_
  exact jEv.cnd (t := 1192) (show jfI 0 555 (.if_icmp .eq 637) 3 [] = true by decide +kernel) rfl (fun _ => e) (fun hf => (jcnd_eq _ hf).elim)
theorem law_waiter (hT1 : isX11 T 1) (hT2 : isX12 T 506) (hx : ∀ v ∈ xs, jI32 v) (hi : 0 ≤ i ∧ i + 6 ≤ (xs.length : Int)) (hl : xs.length ≤ 3072) (hk5 : k < 512) (w : WRz T h 1 506 k) (kk : ∀ h', WRz T h' 1 506 (k + 1) → ∃ h2, jEv xs 90 (0, 1192, lwL i, []) (T, h') ((0, 1), (T, h2))) : ∃ h2, jEv xs 90 (0, 560, lwL i, []) (T, h) ((0, 1), (T, h2)) := by
  obtain ⟨v, a, b, c⟩ := wz_waiter (T := T) (o0 := 1) (o := 506) (v1 := xs.getD (i + 1).toNat 0) w
  obtain ⟨h3, e⟩ := kk h c
  refine ⟨h3, ?_⟩
  refine jEv.blk [(.aload_n 1, 1, []), (.aload_n 0, 1, []), (.iload_n 3, 1, []), (.iconst 1, 1, []), (.iadd, 1, [])] (by decide +kernel) (pc' := 565) (ls' := lwL i) (st' := [(0, wr (i + 1)), (4, 2), (2, Int.ofNat 1)]) rfl ?_
  refine jlaW (j := 1) (show jfI 0 565 .iaload 1 [] = true by decide +kernel) hi hl (by decide) ?_
  refine jEv.calV (st' := [(0, v)]) (show jfI 0 566 (.invokevirtual 67) 3 [1, 156, 1, 5025] = true by decide +kernel) rfl (Or.inl rfl) rfl (Nat.le_of_ble_eq_true rfl) (by decide +kernel) (by decide) (isX11_L hT1) ((t_G_waiter (T := T) (xs := xs) hT1 a).mono (by decide)) rfl ?_
  refine jEv.blk [(.aload_n 2, 1, []), (.aload_n 0, 1, []), (.iload_n 3, 1, []), (.iconst 1, 1, []), (.iadd, 1, [])] (by decide +kernel) (pc' := 574) (ls' := lwL i) (st' := [(0, wr (i + 1)), (4, 2), (2, Int.ofNat 506), (0, v)]) rfl ?_
  refine jlaW (j := 1) (show jfI 0 574 .iaload 1 [] = true by decide +kernel) hi hl (by decide) ?_
  refine jEv.calV (st' := [(0, v), (0, v)]) (show jfI 0 575 (.invokevirtual 70) 3 [1, 277, 1, 9193] = true by decide +kernel) rfl (Or.inl rfl) rfl (Nat.le_of_ble_eq_true rfl) (by decide +kernel) (by decide) (isX12_L hT2) ((t_M_waiter (T := T) (xs := xs) hT2 b).mono (by decide)) rfl ?_
  exact jEv.cnd (t := 1192) (show jfI 0 578 (.if_icmp .eq 614) 3 [] = true by decide +kernel) rfl (fun _ => e) (fun hf => (jcnd_eq _ hf).elim)
theorem law_kept (hT1 : isX11 T 1) (hT2 : isX12 T 506) (hx : ∀ v ∈ xs, jI32 v) (hi : 0 ≤ i ∧ i + 6 ≤ (xs.length : Int)) (hl : xs.length ≤ 3072) (hk5 : k < 512) (w : WRz T h 1 506 k) (kk : ∀ h', WRz T h' 1 506 (k + 1) → ∃ h2, jEv xs 90 (0, 1192, lwL i, []) (T, h') ((0, 1), (T, h2))) : ∃ h2, jEv xs 90 (0, 583, lwL i, []) (T, h) ((0, 1), (T, h2)) := by
  obtain ⟨v, a, b, c⟩ := wz_kept (T := T) (o0 := 1) (o := 506) (v1 := xs.getD (i + 1).toNat 0) (v2 := xs.getD (i + 2).toNat 0) w
  obtain ⟨h3, e⟩ := kk h c
  refine ⟨h3, ?_⟩
  refine jEv.blk [(.aload_n 1, 1, []), (.aload_n 0, 1, []), (.iload_n 3, 1, []), (.iconst 1, 1, []), (.iadd, 1, [])] (by decide +kernel) (pc' := 588) (ls' := lwL i) (st' := [(0, wr (i + 1)), (4, 2), (2, Int.ofNat 1)]) rfl ?_
  refine jlaW (j := 1) (show jfI 0 588 .iaload 1 [] = true by decide +kernel) hi hl (by decide) ?_
  refine jEv.blk [(.aload_n 0, 1, []), (.iload_n 3, 1, []), (.iconst 2, 1, []), (.iadd, 1, [])] (by decide +kernel) (pc' := 593) (ls' := lwL i) (st' := [(0, wr (i + 2)), (4, 2), (0, xs.getD (i + 1).toNat 0), (2, Int.ofNat 1)]) rfl ?_
  refine jlaW (j := 2) (show jfI 0 593 .iaload 1 [] = true by decide +kernel) hi hl (by decide) ?_
  refine jEv.calV (st' := [(0, v)]) (show jfI 0 594 (.invokevirtual 71) 3 [1, 157, 2, 5034] = true by decide +kernel) rfl (Or.inl rfl) rfl (Nat.le_of_ble_eq_true rfl) (by decide +kernel) (by decide) (isX11_L hT1) ((t_G_kept (T := T) (xs := xs) hT1 a).mono (by decide)) rfl ?_
  refine jEv.blk [(.aload_n 2, 1, []), (.aload_n 0, 1, []), (.iload_n 3, 1, []), (.iconst 1, 1, []), (.iadd, 1, [])] (by decide +kernel) (pc' := 602) (ls' := lwL i) (st' := [(0, wr (i + 1)), (4, 2), (2, Int.ofNat 506), (0, v)]) rfl ?_
  refine jlaW (j := 1) (show jfI 0 602 .iaload 1 [] = true by decide +kernel) hi hl (by decide) ?_
  refine jEv.blk [(.aload_n 0, 1, []), (.iload_n 3, 1, []), (.iconst 2, 1, []), (.iadd, 1, [])] (by decide +kernel) (pc' := 607) (ls' := lwL i) (st' := [(0, wr (i + 2)), (4, 2), (0, xs.getD (i + 1).toNat 0), (2, Int.ofNat 506), (0, v)]) rfl ?_
  refine jlaW (j := 2) (show jfI 0 607 .iaload 1 [] = true by decide +kernel) hi hl (by decide) ?_
  refine jEv.calV (st' := [(0, v), (0, v)]) (show jfI 0 608 (.invokevirtual 74) 3 [1, 278, 2, 9198] = true by decide +kernel) rfl (Or.inl rfl) rfl (Nat.le_of_ble_eq_true rfl) (by decide +kernel) (by decide) (isX12_L hT2) ((t_M_kept (T := T) (xs := xs) hT2 b).mono (by decide)) rfl ?_
  exact jEv.cnd (t := 1192) (show jfI 0 611 (.if_icmp .eq 581) 3 [] = true by decide +kernel) rfl (fun _ => e) (fun hf => (jcnd_eq _ hf).elim)
theorem law_later (hT1 : isX11 T 1) (hT2 : isX12 T 506) (hx : ∀ v ∈ xs, jI32 v) (hi : 0 ≤ i ∧ i + 6 ≤ (xs.length : Int)) (hl : xs.length ≤ 3072) (hk5 : k < 512) (w : WRz T h 1 506 k) (kk : ∀ h', WRz T h' 1 506 (k + 1) → ∃ h2, jEv xs 90 (0, 1192, lwL i, []) (T, h') ((0, 1), (T, h2))) : ∃ h2, jEv xs 90 (0, 616, lwL i, []) (T, h) ((0, 1), (T, h2)) := by
  obtain ⟨v, h1, h2, a, b, c⟩ := wz_later (T := T) (o0 := 1) (o := 506) (v1 := xs.getD (i + 1).toNat 0) (v2 := xs.getD (i + 2).toNat 0) (jxI hx _) rfl hk5 w
  obtain ⟨h3, e⟩ := kk h2 c
  refine ⟨h3, ?_⟩
  refine jEv.blk [(.aload_n 1, 1, []), (.aload_n 0, 1, []), (.iload_n 3, 1, []), (.iconst 1, 1, []), (.iadd, 1, [])] (by decide +kernel) (pc' := 621) (ls' := lwL i) (st' := [(0, wr (i + 1)), (4, 2), (2, Int.ofNat 1)]) rfl ?_
  refine jlaW (j := 1) (show jfI 0 621 .iaload 1 [] = true by decide +kernel) hi hl (by decide) ?_
  refine jEv.blk [(.aload_n 0, 1, []), (.iload_n 3, 1, []), (.iconst 2, 1, []), (.iadd, 1, [])] (by decide +kernel) (pc' := 626) (ls' := lwL i) (st' := [(0, wr (i + 2)), (4, 2), (0, xs.getD (i + 1).toNat 0), (2, Int.ofNat 1)]) rfl ?_
  refine jlaW (j := 2) (show jfI 0 626 .iaload 1 [] = true by decide +kernel) hi hl (by decide) ?_
  refine jEv.calV (st' := [(0, v)]) (show jfI 0 627 (.invokevirtual 75) 3 [1, 158, 2, 5043] = true by decide +kernel) rfl (Or.inl rfl) rfl (Nat.le_of_ble_eq_true rfl) (by decide +kernel) (by decide) (isX11_L hT1) ((t_G_later (T := T) (xs := xs) hT1 a).mono (by decide)) rfl ?_
  refine jEv.blk [(.aload_n 2, 1, []), (.aload_n 0, 1, []), (.iload_n 3, 1, []), (.iconst 1, 1, []), (.iadd, 1, [])] (by decide +kernel) (pc' := 635) (ls' := lwL i) (st' := [(0, wr (i + 1)), (4, 2), (2, Int.ofNat 506), (0, v)]) rfl ?_
  refine jlaW (j := 1) (show jfI 0 635 .iaload 1 [] = true by decide +kernel) hi hl (by decide) ?_
  refine jEv.blk [(.aload_n 0, 1, []), (.iload_n 3, 1, []), (.iconst 2, 1, []), (.iadd, 1, [])] (by decide +kernel) (pc' := 640) (ls' := lwL i) (st' := [(0, wr (i + 2)), (4, 2), (0, xs.getD (i + 1).toNat 0), (2, Int.ofNat 506), (0, v)]) rfl ?_
  refine jlaW (j := 2) (show jfI 0 640 .iaload 1 [] = true by decide +kernel) hi hl (by decide) ?_
  refine jEv.calV (st' := [(0, v), (0, v)]) (show jfI 0 641 (.invokevirtual 78) 3 [1, 279, 2, 9202] = true by decide +kernel) rfl (Or.inl rfl) rfl (Nat.le_of_ble_eq_true rfl) (by decide +kernel) (by decide) (isX12_L hT2) ((t_M_later (T := T) (xs := xs) hT2 b).mono (by decide)) rfl ?_
  exact jEv.cnd (t := 1192) (show jfI 0 644 (.if_icmp .eq 548) 3 [] = true by decide +kernel) rfl (fun _ => e) (fun hf => (jcnd_eq _ hf).elim)
theorem law_when (hT1 : isX11 T 1) (hT2 : isX12 T 506) (hx : ∀ v ∈ xs, jI32 v) (hi : 0 ≤ i ∧ i + 6 ≤ (xs.length : Int)) (hl : xs.length ≤ 3072) (hk5 : k < 512) (w : WRz T h 1 506 k) (kk : ∀ h', WRz T h' 1 506 (k + 1) → ∃ h2, jEv xs 90 (0, 1192, lwL i, []) (T, h') ((0, 1), (T, h2))) : ∃ h2, jEv xs 90 (0, 649, lwL i, []) (T, h) ((0, 1), (T, h2)) := by
  obtain ⟨v, h1, h2, a, b, c⟩ := wz_when (T := T) (o0 := 1) (o := 506) (v1 := xs.getD (i + 1).toNat 0) rfl hk5 w
  obtain ⟨h3, e⟩ := kk h2 c
  refine ⟨h3, ?_⟩
  refine jEv.blk [(.aload_n 1, 1, []), (.aload_n 0, 1, []), (.iload_n 3, 1, []), (.iconst 1, 1, []), (.iadd, 1, [])] (by decide +kernel) (pc' := 654) (ls' := lwL i) (st' := [(0, wr (i + 1)), (4, 2), (2, Int.ofNat 1)]) rfl ?_
  refine jlaW (j := 1) (show jfI 0 654 .iaload 1 [] = true by decide +kernel) hi hl (by decide) ?_
  refine jEv.calV (st' := [(0, v)]) (show jfI 0 655 (.invokevirtual 79) 3 [1, 161, 1, 5228] = true by decide +kernel) rfl (Or.inl rfl) rfl (Nat.le_of_ble_eq_true rfl) (by decide +kernel) (by decide) (isX11_L hT1) ((t_G_when (T := T) (xs := xs) hT1 a).mono (by decide)) rfl ?_
  refine jEv.blk [(.aload_n 2, 1, []), (.aload_n 0, 1, []), (.iload_n 3, 1, []), (.iconst 1, 1, []), (.iadd, 1, [])] (by decide +kernel) (pc' := 663) (ls' := lwL i) (st' := [(0, wr (i + 1)), (4, 2), (2, Int.ofNat 506), (0, v)]) rfl ?_
  refine jlaW (j := 1) (show jfI 0 663 .iaload 1 [] = true by decide +kernel) hi hl (by decide) ?_
  refine jEv.calV (st' := [(0, v), (0, v)]) (show jfI 0 664 (.invokevirtual 82) 3 [1, 308, 1, 10079] = true by decide +kernel) rfl (Or.inl rfl) rfl (Nat.le_of_ble_eq_true rfl) (by decide +kernel) (by decide) (isX12_L hT2) ((t_M_when (T := T) (xs := xs) hT2 b).mono (by decide)) rfl ?_
  exact jEv.cnd (t := 1192) (show jfI 0 667 (.if_icmp .eq 525) 3 [] = true by decide +kernel) rfl (fun _ => e) (fun hf => (jcnd_eq _ hf).elim)
theorem law_rule (hT1 : isX11 T 1) (hT2 : isX12 T 506) (hx : ∀ v ∈ xs, jI32 v) (hi : 0 ≤ i ∧ i + 6 ≤ (xs.length : Int)) (hl : xs.length ≤ 3072) (hk5 : k < 512) (w : WRz T h 1 506 k) (kk : ∀ h', WRz T h' 1 506 (k + 1) → ∃ h2, jEv xs 90 (0, 1192, lwL i, []) (T, h') ((0, 1), (T, h2))) : ∃ h2, jEv xs 90 (0, 672, lwL i, []) (T, h) ((0, 1), (T, h2)) := by
  obtain ⟨v, h1, h2, a, b, c⟩ := wz_rule (T := T) (o0 := 1) (o := 506) (v1 := xs.getD (i + 1).toNat 0) (v2 := xs.getD (i + 2).toNat 0) rfl hk5 w
  obtain ⟨h3, e⟩ := kk h2 c
  refine ⟨h3, ?_⟩
  refine jEv.blk [(.aload_n 1, 1, []), (.aload_n 0, 1, []), (.iload_n 3, 1, []), (.iconst 1, 1, []), (.iadd, 1, [])] (by decide +kernel) (pc' := 677) (ls' := lwL i) (st' := [(0, wr (i + 1)), (4, 2), (2, Int.ofNat 1)]) rfl ?_
  refine jlaW (j := 1) (show jfI 0 677 .iaload 1 [] = true by decide +kernel) hi hl (by decide) ?_
  refine jEv.blk [(.aload_n 0, 1, []), (.iload_n 3, 1, []), (.iconst 2, 1, []), (.iadd, 1, [])] (by decide +kernel) (pc' := 682) (ls' := lwL i) (st' := [(0, wr (i + 2)), (4, 2), (0, xs.getD (i + 1).toNat 0), (2, Int.ofNat 1)]) rfl ?_
  refine jlaW (j := 2) (show jfI 0 682 .iaload 1 [] = true by decide +kernel) hi hl (by decide) ?_
  refine jEv.calV (st' := [(0, v)]) (show jfI 0 683 (.invokevirtual 83) 3 [1, 162, 2, 5232] = true by decide +kernel) rfl (Or.inl rfl) rfl (Nat.le_of_ble_eq_true rfl) (by decide +kernel) (by decide) (isX11_L hT1) ((t_G_rule (T := T) (xs := xs) hT1 a).mono (by decide)) rfl ?_
  refine jEv.blk [(.aload_n 2, 1, []), (.aload_n 0, 1, []), (.iload_n 3, 1, []), (.iconst 1, 1, []), (.iadd, 1, [])] (by decide +kernel) (pc' := 691) (ls' := lwL i) (st' := [(0, wr (i + 1)), (4, 2), (2, Int.ofNat 506), (0, v)]) rfl ?_
  refine jlaW (j := 1) (show jfI 0 691 .iaload 1 [] = true by decide +kernel) hi hl (by decide) ?_
  refine jEv.blk [(.aload_n 0, 1, []), (.iload_n 3, 1, []), (.iconst 2, 1, []), (.iadd, 1, [])] (by decide +kernel) (pc' := 696) (ls' := lwL i) (st' := [(0, wr (i + 2)), (4, 2), (0, xs.getD (i + 1).toNat 0), (2, Int.ofNat 506), (0, v)]) rfl ?_
  refine jlaW (j := 2) (show jfI 0 696 .iaload 1 [] = true by decide +kernel) hi hl (by decide) ?_
  refine jEv.calV (st' := [(0, v), (0, v)]) (show jfI 0 697 (.invokevirtual 86) 3 [1, 310, 2, 10087] = true by decide +kernel) rfl (Or.inl rfl) rfl (Nat.le_of_ble_eq_true rfl) (by decide +kernel) (by decide) (isX12_L hT2) ((t_M_rule (T := T) (xs := xs) hT2 b).mono (by decide)) rfl ?_
  exact jEv.cnd (t := 1192) (show jfI 0 700 (.if_icmp .eq 492) 3 [] = true by decide +kernel) rfl (fun _ => e) (fun hf => (jcnd_eq _ hf).elim)
theorem law_best (hT1 : isX11 T 1) (hT2 : isX12 T 506) (hx : ∀ v ∈ xs, jI32 v) (hi : 0 ≤ i ∧ i + 6 ≤ (xs.length : Int)) (hl : xs.length ≤ 3072) (hk5 : k < 512) (w : WRz T h 1 506 k) (kk : ∀ h', WRz T h' 1 506 (k + 1) → ∃ h2, jEv xs 90 (0, 1192, lwL i, []) (T, h') ((0, 1), (T, h2))) : ∃ h2, jEv xs 90 (0, 705, lwL i, []) (T, h) ((0, 1), (T, h2)) := by
  obtain ⟨v, h1, h2, a, b, c⟩ := wz_best (T := T) (o0 := 1) (o := 506) (v1 := xs.getD (i + 1).toNat 0) rfl hk5 w
  obtain ⟨h3, e⟩ := kk h2 c
  refine ⟨h3, ?_⟩
  refine jEv.blk [(.aload_n 1, 1, []), (.aload_n 0, 1, []), (.iload_n 3, 1, []), (.iconst 1, 1, []), (.iadd, 1, [])] (by decide +kernel) (pc' := 710) (ls' := lwL i) (st' := [(0, wr (i + 1)), (4, 2), (2, Int.ofNat 1)]) rfl ?_
  refine jlaW (j := 1) (show jfI 0 710 .iaload 1 [] = true by decide +kernel) hi hl (by decide) ?_
  refine jEv.calV (st' := [(0, v)]) (show jfI 0 711 (.invokevirtual 87) 3 [1, 164, 1, 6000] = true by decide +kernel) rfl (Or.inl rfl) rfl (Nat.le_of_ble_eq_true rfl) (by decide +kernel) (by decide) (isX11_L hT1) ((t_G_best (T := T) (xs := xs) hT1 a).mono (by decide)) rfl ?_
  refine jEv.blk [(.aload_n 2, 1, []), (.aload_n 0, 1, []), (.iload_n 3, 1, []), (.iconst 1, 1, []), (.iadd, 1, [])] (by decide +kernel) (pc' := 719) (ls' := lwL i) (st' := [(0, wr (i + 1)), (4, 2), (2, Int.ofNat 506), (0, v)]) rfl ?_
  refine jlaW (j := 1) (show jfI 0 719 .iaload 1 [] = true by decide +kernel) hi hl (by decide) ?_
  refine jEv.calV (st' := [(0, v), (0, v)]) (show jfI 0 720 (.invokevirtual 90) 3 [1, 311, 1, 10092] = true by decide +kernel) rfl (Or.inl rfl) rfl (Nat.le_of_ble_eq_true rfl) (by decide +kernel) (by decide) (isX12_L hT2) ((t_M_best (T := T) (xs := xs) hT2 b).mono (by decide)) rfl ?_
  exact jEv.cnd (t := 1192) (show jfI 0 723 (.if_icmp .eq 469) 3 [] = true by decide +kernel) rfl (fun _ => e) (fun hf => (jcnd_eq _ hf).elim)
theorem law_room (hT1 : isX11 T 1) (hT2 : isX12 T 506) (hx : ∀ v ∈ xs, jI32 v) (hi : 0 ≤ i ∧ i + 6 ≤ (xs.length : Int)) (hl : xs.length ≤ 3072) (hk5 : k < 512) (w : WRz T h 1 506 k) (kk : ∀ h', WRz T h' 1 506 (k + 1) → ∃ h2, jEv xs 90 (0, 1192, lwL i, []) (T, h') ((0, 1), (T, h2))) : ∃ h2, jEv xs 90 (0, 728, lwL i, []) (T, h) ((0, 1), (T, h2)) := by
  obtain ⟨v, h1, h2, a, b, c⟩ := wz_room (T := T) (o0 := 1) (o := 506) (v1 := xs.getD (i + 1).toNat 0) rfl hk5 w
  obtain ⟨h3, e⟩ := kk h2 c
  refine ⟨h3, ?_⟩
  refine jEv.blk [(.aload_n 1, 1, []), (.aload_n 0, 1, []), (.iload_n 3, 1, []), (.iconst 1, 1, []), (.iadd, 1, [])] (by decide +kernel) (pc' := 733) (ls' := lwL i) (st' := [(0, wr (i + 1)), (4, 2), (2, Int.ofNat 1)]) rfl ?_
  refine jlaW (j := 1) (show jfI 0 733 .iaload 1 [] = true by decide +kernel) hi hl (by decide) ?_
  refine jEv.calV (st' := [(0, v)]) (show jfI 0 734 (.invokevirtual 91) 3 [1, 165, 1, 6004] = true by decide +kernel) rfl (Or.inl rfl) rfl (Nat.le_of_ble_eq_true rfl) (by decide +kernel) (by decide) (isX11_L hT1) ((t_G_room (T := T) (xs := xs) hT1 a).mono (by decide)) rfl ?_
  refine jEv.blk [(.aload_n 2, 1, []), (.aload_n 0, 1, []), (.iload_n 3, 1, []), (.iconst 1, 1, []), (.iadd, 1, [])] (by decide +kernel) (pc' := 742) (ls' := lwL i) (st' := [(0, wr (i + 1)), (4, 2), (2, Int.ofNat 506), (0, v)]) rfl ?_
  refine jlaW (j := 1) (show jfI 0 742 .iaload 1 [] = true by decide +kernel) hi hl (by decide) ?_
  refine jEv.calV (st' := [(0, v), (0, v)]) (show jfI 0 743 (.invokevirtual 94) 3 [1, 312, 1, 10097] = true by decide +kernel) rfl (Or.inl rfl) rfl (Nat.le_of_ble_eq_true rfl) (by decide +kernel) (by decide) (isX12_L hT2) ((t_M_room (T := T) (xs := xs) hT2 b).mono (by decide)) rfl ?_
  exact jEv.cnd (t := 1192) (show jfI 0 746 (.if_icmp .eq 446) 3 [] = true by decide +kernel) rfl (fun _ => e) (fun hf => (jcnd_eq _ hf).elim)
theorem law_recovers (hT1 : isX11 T 1) (hT2 : isX12 T 506) (hx : ∀ v ∈ xs, jI32 v) (hi : 0 ≤ i ∧ i + 6 ≤ (xs.length : Int)) (hl : xs.length ≤ 3072) (hk5 : k < 512) (w : WRz T h 1 506 k) (kk : ∀ h', WRz T h' 1 506 (k + 1) → ∃ h2, jEv xs 90 (0, 1192, lwL i, []) (T, h') ((0, 1), (T, h2))) : ∃ h2, jEv xs 90 (0, 751, lwL i, []) (T, h) ((0, 1), (T, h2)) := by
  obtain ⟨v, h1, h2, a, b, c⟩ := wz_recovers (T := T) (o0 := 1) (o := 506) (v1 := xs.getD (i + 1).toNat 0) (v2 := xs.getD (i + 2).toNat 0) rfl hk5 w
  obtain ⟨h3, e⟩ := kk h2 c
  refine ⟨h3, ?_⟩
  refine jEv.blk [(.aload_n 1, 1, []), (.aload_n 0, 1, []), (.iload_n 3, 1, []), (.iconst 1, 1, []), (.iadd, 1, [])] (by decide +kernel) (pc' := 756) (ls' := lwL i) (st' := [(0, wr (i + 1)), (4, 2), (2, Int.ofNat 1)]) rfl ?_
  refine jlaW (j := 1) (show jfI 0 756 .iaload 1 [] = true by decide +kernel) hi hl (by decide) ?_
  refine jEv.blk [(.aload_n 0, 1, []), (.iload_n 3, 1, []), (.iconst 2, 1, []), (.iadd, 1, [])] (by decide +kernel) (pc' := 761) (ls' := lwL i) (st' := [(0, wr (i + 2)), (4, 2), (0, xs.getD (i + 1).toNat 0), (2, Int.ofNat 1)]) rfl ?_
  refine jlaW (j := 2) (show jfI 0 761 .iaload 1 [] = true by decide +kernel) hi hl (by decide) ?_
  refine jEv.calV (st' := [(0, v)]) (show jfI 0 762 (.invokevirtual 95) 3 [1, 166, 2, 6012] = true by decide +kernel) rfl (Or.inl rfl) rfl (Nat.le_of_ble_eq_true rfl) (by decide +kernel) (by decide) (isX11_L hT1) ((t_G_recovers (T := T) (xs := xs) hT1 a).mono (by decide)) rfl ?_
  refine jEv.blk [(.aload_n 2, 1, []), (.aload_n 0, 1, []), (.iload_n 3, 1, []), (.iconst 1, 1, []), (.iadd, 1, [])] (by decide +kernel) (pc' := 770) (ls' := lwL i) (st' := [(0, wr (i + 1)), (4, 2), (2, Int.ofNat 506), (0, v)]) rfl ?_
  refine jlaW (j := 1) (show jfI 0 770 .iaload 1 [] = true by decide +kernel) hi hl (by decide) ?_
  refine jEv.blk [(.aload_n 0, 1, []), (.iload_n 3, 1, []), (.iconst 2, 1, []), (.iadd, 1, [])] (by decide +kernel) (pc' := 775) (ls' := lwL i) (st' := [(0, wr (i + 2)), (4, 2), (0, xs.getD (i + 1).toNat 0), (2, Int.ofNat 506), (0, v)]) rfl ?_
  refine jlaW (j := 2) (show jfI 0 775 .iaload 1 [] = true by decide +kernel) hi hl (by decide) ?_
  refine jEv.calV (st' := [(0, v), (0, v)]) (show jfI 0 776 (.invokevirtual 98) 3 [1, 314, 2, 10106] = true by decide +kernel) rfl (Or.inl rfl) rfl (Nat.le_of_ble_eq_true rfl) (by decide +kernel) (by decide) (isX12_L hT2) ((t_M_recovers (T := T) (xs := xs) hT2 b).mono (by decide)) rfl ?_
  exact jEv.cnd (t := 1192) (show jfI 0 779 (.if_icmp .eq 413) 3 [] = true by decide +kernel) rfl (fun _ => e) (fun hf => (jcnd_eq _ hf).elim)
theorem law_flips (hT1 : isX11 T 1) (hT2 : isX12 T 506) (hx : ∀ v ∈ xs, jI32 v) (hi : 0 ≤ i ∧ i + 6 ≤ (xs.length : Int)) (hl : xs.length ≤ 3072) (hk5 : k < 512) (w : WRz T h 1 506 k) (kk : ∀ h', WRz T h' 1 506 (k + 1) → ∃ h2, jEv xs 90 (0, 1192, lwL i, []) (T, h') ((0, 1), (T, h2))) : ∃ h2, jEv xs 90 (0, 784, lwL i, []) (T, h) ((0, 1), (T, h2)) := by
  obtain ⟨v, h1, h2, a, b, c⟩ := wz_flips (T := T) (o0 := 1) (o := 506) (v1 := xs.getD (i + 1).toNat 0) rfl hk5 w
  obtain ⟨h3, e⟩ := kk h2 c
  refine ⟨h3, ?_⟩
  refine jEv.blk [(.aload_n 1, 1, []), (.aload_n 0, 1, []), (.iload_n 3, 1, []), (.iconst 1, 1, []), (.iadd, 1, [])] (by decide +kernel) (pc' := 789) (ls' := lwL i) (st' := [(0, wr (i + 1)), (4, 2), (2, Int.ofNat 1)]) rfl ?_
  refine jlaW (j := 1) (show jfI 0 789 .iaload 1 [] = true by decide +kernel) hi hl (by decide) ?_
  refine jEv.calV (st' := [(0, v)]) (show jfI 0 790 (.invokevirtual 99) 3 [1, 167, 1, 6061] = true by decide +kernel) rfl (Or.inl rfl) rfl (Nat.le_of_ble_eq_true rfl) (by decide +kernel) (by decide) (isX11_L hT1) ((t_G_flips (T := T) (xs := xs) hT1 a).mono (by decide)) rfl ?_
  refine jEv.blk [(.aload_n 2, 1, []), (.aload_n 0, 1, []), (.iload_n 3, 1, []), (.iconst 1, 1, []), (.iadd, 1, [])] (by decide +kernel) (pc' := 798) (ls' := lwL i) (st' := [(0, wr (i + 1)), (4, 2), (2, Int.ofNat 506), (0, v)]) rfl ?_
  refine jlaW (j := 1) (show jfI 0 798 .iaload 1 [] = true by decide +kernel) hi hl (by decide) ?_
  refine jEv.calV (st' := [(0, v), (0, v)]) (show jfI 0 799 (.invokevirtual 102) 3 [1, 324, 1, 10147] = true by decide +kernel) rfl (Or.inl rfl) rfl (Nat.le_of_ble_eq_true rfl) (by decide +kernel) (by decide) (isX12_L hT2) ((t_M_flips (T := T) (xs := xs) hT2 b).mono (by decide)) rfl ?_
  exact jEv.cnd (t := 1192) (show jfI 0 802 (.if_icmp .eq 390) 3 [] = true by decide +kernel) rfl (fun _ => e) (fun hf => (jcnd_eq _ hf).elim)
theorem law_see (hT1 : isX11 T 1) (hT2 : isX12 T 506) (hx : ∀ v ∈ xs, jI32 v) (hi : 0 ≤ i ∧ i + 6 ≤ (xs.length : Int)) (hl : xs.length ≤ 3072) (hk5 : k < 512) (w : WRz T h 1 506 k) (kk : ∀ h', WRz T h' 1 506 (k + 1) → ∃ h2, jEv xs 90 (0, 1192, lwL i, []) (T, h') ((0, 1), (T, h2))) : ∃ h2, jEv xs 90 (0, 807, lwL i, []) (T, h) ((0, 1), (T, h2)) := by
  obtain ⟨v, h1, h2, a, b, c⟩ := wz_see (T := T) (o0 := 1) (o := 506) rfl hk5 w
  obtain ⟨h3, e⟩ := kk h2 c
  refine ⟨h3, ?_⟩
  refine jEv.blk [(.aload_n 1, 1, [])] (by decide +kernel) (pc' := 808) (ls' := lwL i) (st' := [(2, Int.ofNat 1)]) rfl ?_
  refine jEv.calV (st' := [(0, v)]) (show jfI 0 808 (.invokevirtual 103) 3 [1, 168, 0, 6074] = true by decide +kernel) rfl (Or.inl rfl) rfl (Nat.le_of_ble_eq_true rfl) (by decide +kernel) (by decide) (isX11_L hT1) ((t_G_see (T := T) (xs := xs) hT1 a).mono (by decide)) rfl ?_
  refine jEv.blk [(.aload_n 2, 1, [])] (by decide +kernel) (pc' := 812) (ls' := lwL i) (st' := [(2, Int.ofNat 506), (0, v)]) rfl ?_
  refine jEv.calV (st' := [(0, v), (0, v)]) (show jfI 0 812 (.invokevirtual 106) 3 [1, 326, 0, 10155] = true by decide +kernel) rfl (Or.inl rfl) rfl (Nat.le_of_ble_eq_true rfl) (by decide +kernel) (by decide) (isX12_L hT2) ((t_M_see (T := T) (xs := xs) hT2 b).mono (by decide)) rfl ?_
  exact jEv.cnd (t := 1192) (show jfI 0 815 (.if_icmp .eq 377) 3 [] = true by decide +kernel) rfl (fun _ => e) (fun hf => (jcnd_eq _ hf).elim)
theorem law_arrived (hT1 : isX11 T 1) (hT2 : isX12 T 506) (hx : ∀ v ∈ xs, jI32 v) (hi : 0 ≤ i ∧ i + 6 ≤ (xs.length : Int)) (hl : xs.length ≤ 3072) (hk5 : k < 512) (w : WRz T h 1 506 k) (kk : ∀ h', WRz T h' 1 506 (k + 1) → ∃ h2, jEv xs 90 (0, 1192, lwL i, []) (T, h') ((0, 1), (T, h2))) : ∃ h2, jEv xs 90 (0, 820, lwL i, []) (T, h) ((0, 1), (T, h2)) := by
  obtain ⟨v, h1, h2, a, b, c⟩ := wz_arrived (T := T) (o0 := 1) (o := 506) (v1 := xs.getD (i + 1).toNat 0) rfl hk5 w
  obtain ⟨h3, e⟩ := kk h2 c
  refine ⟨h3, ?_⟩
  refine jEv.blk [(.aload_n 1, 1, []), (.aload_n 0, 1, []), (.iload_n 3, 1, []), (.iconst 1, 1, []), (.iadd, 1, [])] (by decide +kernel) (pc' := 825) (ls' := lwL i) (st' := [(0, wr (i + 1)), (4, 2), (2, Int.ofNat 1)]) rfl ?_
  refine jlaW (j := 1) (show jfI 0 825 .iaload 1 [] = true by decide +kernel) hi hl (by decide) ?_
  refine jEv.calV (st' := [(0, v)]) (show jfI 0 826 (.invokevirtual 107) 3 [1, 171, 1, 6086] = true by decide +kernel) rfl (Or.inl rfl) rfl (Nat.le_of_ble_eq_true rfl) (by decide +kernel) (by decide) (isX11_L hT1) ((t_G_arrived (T := T) (xs := xs) hT1 a).mono (by decide)) rfl ?_
  refine jEv.blk [(.aload_n 2, 1, []), (.aload_n 0, 1, []), (.iload_n 3, 1, []), (.iconst 1, 1, []), (.iadd, 1, [])] (by decide +kernel) (pc' := 834) (ls' := lwL i) (st' := [(0, wr (i + 1)), (4, 2), (2, Int.ofNat 506), (0, v)]) rfl ?_
  refine jlaW (j := 1) (show jfI 0 834 .iaload 1 [] = true by decide +kernel) hi hl (by decide) ?_
  refine jEv.calV (st' := [(0, v), (0, v)]) (show jfI 0 835 (.invokevirtual 110) 3 [1, 327, 1, 10159] = true by decide +kernel) rfl (Or.inl rfl) rfl (Nat.le_of_ble_eq_true rfl) (by decide +kernel) (by decide) (isX12_L hT2) ((t_M_arrived (T := T) (xs := xs) hT2 b).mono (by decide)) rfl ?_
  exact jEv.cnd (t := 1192) (show jfI 0 838 (.if_icmp .eq 354) 3 [] = true by decide +kernel) rfl (fun _ => e) (fun hf => (jcnd_eq _ hf).elim)
theorem law_tells (hT1 : isX11 T 1) (hT2 : isX12 T 506) (hx : ∀ v ∈ xs, jI32 v) (hi : 0 ≤ i ∧ i + 6 ≤ (xs.length : Int)) (hl : xs.length ≤ 3072) (hk5 : k < 512) (w : WRz T h 1 506 k) (kk : ∀ h', WRz T h' 1 506 (k + 1) → ∃ h2, jEv xs 90 (0, 1192, lwL i, []) (T, h') ((0, 1), (T, h2))) : ∃ h2, jEv xs 90 (0, 843, lwL i, []) (T, h) ((0, 1), (T, h2)) := by
  obtain ⟨v, h1, h2, a, b, c⟩ := wz_tells (T := T) (o0 := 1) (o := 506) (v1 := xs.getD (i + 1).toNat 0) rfl hk5 w
  obtain ⟨h3, e⟩ := kk h2 c
  refine ⟨h3, ?_⟩
  refine jEv.blk [(.aload_n 1, 1, []), (.aload_n 0, 1, []), (.iload_n 3, 1, []), (.iconst 1, 1, []), (.iadd, 1, [])] (by decide +kernel) (pc' := 848) (ls' := lwL i) (st' := [(0, wr (i + 1)), (4, 2), (2, Int.ofNat 1)]) rfl ?_
  refine jlaW (j := 1) (show jfI 0 848 .iaload 1 [] = true by decide +kernel) hi hl (by decide) ?_
  refine jEv.calV (st' := [(0, v)]) (show jfI 0 849 (.invokevirtual 111) 3 [1, 175, 1, 6103] = true by decide +kernel) rfl (Or.inl rfl) rfl (Nat.le_of_ble_eq_true rfl) (by decide +kernel) (by decide) (isX11_L hT1) ((t_G_tells (T := T) (xs := xs) hT1 a).mono (by decide)) rfl ?_
  refine jEv.blk [(.aload_n 2, 1, []), (.aload_n 0, 1, []), (.iload_n 3, 1, []), (.iconst 1, 1, []), (.iadd, 1, [])] (by decide +kernel) (pc' := 857) (ls' := lwL i) (st' := [(0, wr (i + 1)), (4, 2), (2, Int.ofNat 506), (0, v)]) rfl ?_
  refine jlaW (j := 1) (show jfI 0 857 .iaload 1 [] = true by decide +kernel) hi hl (by decide) ?_
  refine jEv.calV (st' := [(0, v), (0, v)]) (show jfI 0 858 (.invokevirtual 114) 3 [1, 330, 1, 10171] = true by decide +kernel) rfl (Or.inl rfl) rfl (Nat.le_of_ble_eq_true rfl) (by decide +kernel) (by decide) (isX12_L hT2) ((t_M_tells (T := T) (xs := xs) hT2 b).mono (by decide)) rfl ?_
  exact jEv.cnd (t := 1192) (show jfI 0 861 (.if_icmp .eq 331) 3 [] = true by decide +kernel) rfl (fun _ => e) (fun hf => (jcnd_eq _ hf).elim)
theorem law_append (hT1 : isX11 T 1) (hT2 : isX12 T 506) (hx : ∀ v ∈ xs, jI32 v) (hi : 0 ≤ i ∧ i + 6 ≤ (xs.length : Int)) (hl : xs.length ≤ 3072) (hk5 : k < 512) (w : WRz T h 1 506 k) (kk : ∀ h', WRz T h' 1 506 (k + 1) → ∃ h2, jEv xs 90 (0, 1192, lwL i, []) (T, h') ((0, 1), (T, h2))) : ∃ h2, jEv xs 90 (0, 866, lwL i, []) (T, h) ((0, 1), (T, h2)) := by
  obtain ⟨v, h1, h2, a, b, c⟩ := wz_append (T := T) (o0 := 1) (o := 506) (v1 := xs.getD (i + 1).toNat 0) (v2 := xs.getD (i + 2).toNat 0) (v3 := xs.getD (i + 3).toNat 0) rfl hk5 w
  obtain ⟨h3, e⟩ := kk h2 c
  refine ⟨h3, ?_⟩
  refine jEv.blk [(.aload_n 1, 1, []), (.aload_n 0, 1, []), (.iload_n 3, 1, []), (.iconst 1, 1, []), (.iadd, 1, [])] (by decide +kernel) (pc' := 871) (ls' := lwL i) (st' := [(0, wr (i + 1)), (4, 2), (2, Int.ofNat 1)]) rfl ?_
  refine jlaW (j := 1) (show jfI 0 871 .iaload 1 [] = true by decide +kernel) hi hl (by decide) ?_
  refine jEv.blk [(.aload_n 0, 1, []), (.iload_n 3, 1, []), (.iconst 2, 1, []), (.iadd, 1, [])] (by decide +kernel) (pc' := 876) (ls' := lwL i) (st' := [(0, wr (i + 2)), (4, 2), (0, xs.getD (i + 1).toNat 0), (2, Int.ofNat 1)]) rfl ?_
  refine jlaW (j := 2) (show jfI 0 876 .iaload 1 [] = true by decide +kernel) hi hl (by decide) ?_
  refine jEv.blk [(.aload_n 0, 1, []), (.iload_n 3, 1, []), (.iconst 3, 1, []), (.iadd, 1, [])] (by decide +kernel) (pc' := 881) (ls' := lwL i) (st' := [(0, wr (i + 3)), (4, 2), (0, xs.getD (i + 2).toNat 0), (0, xs.getD (i + 1).toNat 0), (2, Int.ofNat 1)]) rfl ?_
  refine jlaW (j := 3) (show jfI 0 881 .iaload 1 [] = true by decide +kernel) hi hl (by decide) ?_
  refine jEv.calV (st' := [(0, v)]) (show jfI 0 882 (.invokevirtual 115) 3 [1, 177, 3, 6112] = true by decide +kernel) rfl (Or.inl rfl) rfl (Nat.le_of_ble_eq_true rfl) (by decide +kernel) (by decide) (isX11_L hT1) ((t_G_append (T := T) (xs := xs) hT1 a).mono (by decide)) rfl ?_
  refine jEv.blk [(.aload_n 2, 1, []), (.aload_n 0, 1, []), (.iload_n 3, 1, []), (.iconst 1, 1, []), (.iadd, 1, [])] (by decide +kernel) (pc' := 890) (ls' := lwL i) (st' := [(0, wr (i + 1)), (4, 2), (2, Int.ofNat 506), (0, v)]) rfl ?_
  refine jlaW (j := 1) (show jfI 0 890 .iaload 1 [] = true by decide +kernel) hi hl (by decide) ?_
  refine jEv.blk [(.aload_n 0, 1, []), (.iload_n 3, 1, []), (.iconst 2, 1, []), (.iadd, 1, [])] (by decide +kernel) (pc' := 895) (ls' := lwL i) (st' := [(0, wr (i + 2)), (4, 2), (0, xs.getD (i + 1).toNat 0), (2, Int.ofNat 506), (0, v)]) rfl ?_
  refine jlaW (j := 2) (show jfI 0 895 .iaload 1 [] = true by decide +kernel) hi hl (by decide) ?_
  refine jEv.blk [(.aload_n 0, 1, []), (.iload_n 3, 1, []), (.iconst 3, 1, []), (.iadd, 1, [])] (by decide +kernel) (pc' := 900) (ls' := lwL i) (st' := [(0, wr (i + 3)), (4, 2), (0, xs.getD (i + 2).toNat 0), (0, xs.getD (i + 1).toNat 0), (2, Int.ofNat 506), (0, v)]) rfl ?_
  refine jlaW (j := 3) (show jfI 0 900 .iaload 1 [] = true by decide +kernel) hi hl (by decide) ?_
  refine jEv.calV (st' := [(0, v), (0, v)]) (show jfI 0 901 (.invokevirtual 118) 3 [1, 333, 3, 10183] = true by decide +kernel) rfl (Or.inl rfl) rfl (Nat.le_of_ble_eq_true rfl) (by decide +kernel) (by decide) (isX12_L hT2) ((t_M_append (T := T) (xs := xs) hT2 b).mono (by decide)) rfl ?_
  exact jEv.cnd (t := 1192) (show jfI 0 904 (.if_icmp .eq 288) 3 [] = true by decide +kernel) rfl (fun _ => e) (fun hf => (jcnd_eq _ hf).elim)
theorem law_waits (hT1 : isX11 T 1) (hT2 : isX12 T 506) (hx : ∀ v ∈ xs, jI32 v) (hi : 0 ≤ i ∧ i + 6 ≤ (xs.length : Int)) (hl : xs.length ≤ 3072) (hk5 : k < 512) (w : WRz T h 1 506 k) (kk : ∀ h', WRz T h' 1 506 (k + 1) → ∃ h2, jEv xs 90 (0, 1192, lwL i, []) (T, h') ((0, 1), (T, h2))) : ∃ h2, jEv xs 90 (0, 909, lwL i, []) (T, h) ((0, 1), (T, h2)) := by
  obtain ⟨v, h1, h2, a, b, c⟩ := wz_waits (T := T) (o0 := 1) (o := 506) (v1 := xs.getD (i + 1).toNat 0) (v2 := xs.getD (i + 2).toNat 0) rfl hk5 w
  obtain ⟨h3, e⟩ := kk h2 c
  refine ⟨h3, ?_⟩
  refine jEv.blk [(.aload_n 1, 1, []), (.aload_n 0, 1, []), (.iload_n 3, 1, []), (.iconst 1, 1, []), (.iadd, 1, [])] (by decide +kernel) (pc' := 914) (ls' := lwL i) (st' := [(0, wr (i + 1)), (4, 2), (2, Int.ofNat 1)]) rfl ?_
  refine jlaW (j := 1) (show jfI 0 914 .iaload 1 [] = true by decide +kernel) hi hl (by decide) ?_
  refine jEv.blk [(.aload_n 0, 1, []), (.iload_n 3, 1, []), (.iconst 2, 1, []), (.iadd, 1, [])] (by decide +kernel) (pc' := 919) (ls' := lwL i) (st' := [(0, wr (i + 2)), (4, 2), (0, xs.getD (i + 1).toNat 0), (2, Int.ofNat 1)]) rfl ?_
  refine jlaW (j := 2) (show jfI 0 919 .iaload 1 [] = true by decide +kernel) hi hl (by decide) ?_
  refine jEv.calV (st' := [(0, v)]) (show jfI 0 920 (.invokevirtual 119) 3 [1, 179, 2, 6124] = true by decide +kernel) rfl (Or.inl rfl) rfl (Nat.le_of_ble_eq_true rfl) (by decide +kernel) (by decide) (isX11_L hT1) ((t_G_waits (T := T) (xs := xs) hT1 a).mono (by decide)) rfl ?_
  refine jEv.blk [(.aload_n 2, 1, []), (.aload_n 0, 1, []), (.iload_n 3, 1, []), (.iconst 1, 1, []), (.iadd, 1, [])] (by decide +kernel) (pc' := 928) (ls' := lwL i) (st' := [(0, wr (i + 1)), (4, 2), (2, Int.ofNat 506), (0, v)]) rfl ?_
  refine jlaW (j := 1) (show jfI 0 928 .iaload 1 [] = true by decide +kernel) hi hl (by decide) ?_
  refine jEv.blk [(.aload_n 0, 1, []), (.iload_n 3, 1, []), (.iconst 2, 1, []), (.iadd, 1, [])] (by decide +kernel) (pc' := 933) (ls' := lwL i) (st' := [(0, wr (i + 2)), (4, 2), (0, xs.getD (i + 1).toNat 0), (2, Int.ofNat 506), (0, v)]) rfl ?_
  refine jlaW (j := 2) (show jfI 0 933 .iaload 1 [] = true by decide +kernel) hi hl (by decide) ?_
  refine jEv.calV (st' := [(0, v), (0, v)]) (show jfI 0 934 (.invokevirtual 123) 3 [1, 335, 2, 10192] = true by decide +kernel) rfl (Or.inl rfl) rfl (Nat.le_of_ble_eq_true rfl) (by decide +kernel) (by decide) (isX12_L hT2) ((t_M_waits (T := T) (xs := xs) hT2 b).mono (by decide)) rfl ?_
  exact jEv.cnd (t := 1192) (show jfI 0 937 (.if_icmp .eq 255) 3 [] = true by decide +kernel) rfl (fun _ => e) (fun hf => (jcnd_eq _ hf).elim)
theorem law_ticks (hT1 : isX11 T 1) (hT2 : isX12 T 506) (hx : ∀ v ∈ xs, jI32 v) (hi : 0 ≤ i ∧ i + 6 ≤ (xs.length : Int)) (hl : xs.length ≤ 3072) (hk5 : k < 512) (w : WRz T h 1 506 k) (kk : ∀ h', WRz T h' 1 506 (k + 1) → ∃ h2, jEv xs 90 (0, 1192, lwL i, []) (T, h') ((0, 1), (T, h2))) : ∃ h2, jEv xs 90 (0, 942, lwL i, []) (T, h) ((0, 1), (T, h2)) := by
  obtain ⟨v, h1, h2, a, b, c⟩ := wz_ticks (T := T) (o0 := 1) (o := 506) (v1 := xs.getD (i + 1).toNat 0) (jxI hx _) rfl hk5 w
  obtain ⟨h3, e⟩ := kk h2 c
  refine ⟨h3, ?_⟩
  refine jEv.blk [(.aload_n 1, 1, []), (.aload_n 0, 1, []), (.iload_n 3, 1, []), (.iconst 1, 1, []), (.iadd, 1, [])] (by decide +kernel) (pc' := 947) (ls' := lwL i) (st' := [(0, wr (i + 1)), (4, 2), (2, Int.ofNat 1)]) rfl ?_
  refine jlaW (j := 1) (show jfI 0 947 .iaload 1 [] = true by decide +kernel) hi hl (by decide) ?_
  refine jEv.calV (st' := [(0, v)]) (show jfI 0 948 (.invokevirtual 124) 3 [1, 180, 1, 6132] = true by decide +kernel) rfl (Or.inl rfl) rfl (Nat.le_of_ble_eq_true rfl) (by decide +kernel) (by decide) (isX11_L hT1) ((t_G_ticks (T := T) (xs := xs) hT1 a).mono (by decide)) rfl ?_
  refine jEv.blk [(.aload_n 2, 1, []), (.aload_n 0, 1, []), (.iload_n 3, 1, []), (.iconst 1, 1, []), (.iadd, 1, [])] (by decide +kernel) (pc' := 956) (ls' := lwL i) (st' := [(0, wr (i + 1)), (4, 2), (2, Int.ofNat 506), (0, v)]) rfl ?_
  refine jlaW (j := 1) (show jfI 0 956 .iaload 1 [] = true by decide +kernel) hi hl (by decide) ?_
  refine jEv.calV (st' := [(0, v), (0, v)]) (show jfI 0 957 (.invokevirtual 127) 3 [1, 337, 1, 10200] = true by decide +kernel) rfl (Or.inl rfl) rfl (Nat.le_of_ble_eq_true rfl) (by decide +kernel) (by decide) (isX12_L hT2) ((t_M_ticks (T := T) (xs := xs) hT2 b).mono (by decide)) rfl ?_
  exact jEv.cnd (t := 1192) (show jfI 0 960 (.if_icmp .eq 232) 3 [] = true by decide +kernel) rfl (fun _ => e) (fun hf => (jcnd_eq _ hf).elim)
theorem law_chance (hT1 : isX11 T 1) (hT2 : isX12 T 506) (hx : ∀ v ∈ xs, jI32 v) (hi : 0 ≤ i ∧ i + 6 ≤ (xs.length : Int)) (hl : xs.length ≤ 3072) (hk5 : k < 512) (w : WRz T h 1 506 k) (kk : ∀ h', WRz T h' 1 506 (k + 1) → ∃ h2, jEv xs 90 (0, 1192, lwL i, []) (T, h') ((0, 1), (T, h2))) : ∃ h2, jEv xs 90 (0, 965, lwL i, []) (T, h) ((0, 1), (T, h2)) := by
  obtain ⟨v, h1, h2, a, b, c⟩ := wz_chance (T := T) (o0 := 1) (o := 506) (v1 := xs.getD (i + 1).toNat 0) (jxI hx _) rfl hk5 w
  obtain ⟨h3, e⟩ := kk h2 c
  refine ⟨h3, ?_⟩
  refine jEv.blk [(.aload_n 1, 1, []), (.aload_n 0, 1, []), (.iload_n 3, 1, []), (.iconst 1, 1, []), (.iadd, 1, [])] (by decide +kernel) (pc' := 970) (ls' := lwL i) (st' := [(0, wr (i + 1)), (4, 2), (2, Int.ofNat 1)]) rfl ?_
  refine jlaW (j := 1) (show jfI 0 970 .iaload 1 [] = true by decide +kernel) hi hl (by decide) ?_
  refine jEv.calV (st' := [(0, v)]) (show jfI 0 971 (.invokevirtual 128) 3 [1, 182, 1, 6140] = true by decide +kernel) rfl (Or.inl rfl) rfl (Nat.le_of_ble_eq_true rfl) (by decide +kernel) (by decide) (isX11_L hT1) ((t_G_chance (T := T) (xs := xs) hT1 a).mono (by decide)) rfl ?_
  refine jEv.blk [(.aload_n 2, 1, []), (.aload_n 0, 1, []), (.iload_n 3, 1, []), (.iconst 1, 1, []), (.iadd, 1, [])] (by decide +kernel) (pc' := 979) (ls' := lwL i) (st' := [(0, wr (i + 1)), (4, 2), (2, Int.ofNat 506), (0, v)]) rfl ?_
  refine jlaW (j := 1) (show jfI 0 979 .iaload 1 [] = true by decide +kernel) hi hl (by decide) ?_
  refine jEv.calV (st' := [(0, v), (0, v)]) (show jfI 0 980 (.invokevirtual 131) 3 [1, 339, 1, 10208] = true by decide +kernel) rfl (Or.inl rfl) rfl (Nat.le_of_ble_eq_true rfl) (by decide +kernel) (by decide) (isX12_L hT2) ((t_M_chance (T := T) (xs := xs) hT2 b).mono (by decide)) rfl ?_
  exact jEv.cnd (t := 1192) (show jfI 0 983 (.if_icmp .eq 209) 3 [] = true by decide +kernel) rfl (fun _ => e) (fun hf => (jcnd_eq _ hf).elim)
theorem law_snap (hT1 : isX11 T 1) (hT2 : isX12 T 506) (hx : ∀ v ∈ xs, jI32 v) (hi : 0 ≤ i ∧ i + 6 ≤ (xs.length : Int)) (hl : xs.length ≤ 3072) (hk5 : k < 512) (w : WRz T h 1 506 k) (kk : ∀ h', WRz T h' 1 506 (k + 1) → ∃ h2, jEv xs 90 (0, 1192, lwL i, []) (T, h') ((0, 1), (T, h2))) : ∃ h2, jEv xs 90 (0, 988, lwL i, []) (T, h) ((0, 1), (T, h2)) := by
  obtain ⟨v, h1, h2, a, b, c⟩ := wz_snap (T := T) (o0 := 1) (o := 506) rfl hk5 w
  obtain ⟨h3, e⟩ := kk h2 c
  refine ⟨h3, ?_⟩
  refine jEv.blk [(.aload_n 1, 1, [])] (by decide +kernel) (pc' := 989) (ls' := lwL i) (st' := [(2, Int.ofNat 1)]) rfl ?_
  refine jEv.calV (st' := [(0, v)]) (show jfI 0 989 (.invokevirtual 132) 3 [1, 184, 0, 6152] = true by decide +kernel) rfl (Or.inl rfl) rfl (Nat.le_of_ble_eq_true rfl) (by decide +kernel) (by decide) (isX11_L hT1) ((t_G_snap (T := T) (xs := xs) hT1 a).mono (by decide)) rfl ?_
  refine jEv.blk [(.aload_n 2, 1, [])] (by decide +kernel) (pc' := 993) (ls' := lwL i) (st' := [(2, Int.ofNat 506), (0, v)]) rfl ?_
  refine jEv.calV (st' := [(0, v), (0, v)]) (show jfI 0 993 (.invokevirtual 135) 3 [1, 341, 0, 10220] = true by decide +kernel) rfl (Or.inl rfl) rfl (Nat.le_of_ble_eq_true rfl) (by decide +kernel) (by decide) (isX12_L hT2) ((t_M_snap (T := T) (xs := xs) hT2 b).mono (by decide)) rfl ?_
  exact jEv.cnd (t := 1192) (show jfI 0 996 (.if_icmp .eq 196) 3 [] = true by decide +kernel) rfl (fun _ => e) (fun hf => (jcnd_eq _ hf).elim)
theorem law_crash (hT1 : isX11 T 1) (hT2 : isX12 T 506) (hx : ∀ v ∈ xs, jI32 v) (hi : 0 ≤ i ∧ i + 6 ≤ (xs.length : Int)) (hl : xs.length ≤ 3072) (hk5 : k < 512) (w : WRz T h 1 506 k) (kk : ∀ h', WRz T h' 1 506 (k + 1) → ∃ h2, jEv xs 90 (0, 1192, lwL i, []) (T, h') ((0, 1), (T, h2))) : ∃ h2, jEv xs 90 (0, 1001, lwL i, []) (T, h) ((0, 1), (T, h2)) := by
  obtain ⟨v, h1, h2, a, b, c⟩ := wz_crash (T := T) (o0 := 1) (o := 506) (v1 := xs.getD (i + 1).toNat 0) rfl hk5 w
  obtain ⟨h3, e⟩ := kk h2 c
  refine ⟨h3, ?_⟩
  refine jEv.blk [(.aload_n 1, 1, []), (.aload_n 0, 1, []), (.iload_n 3, 1, []), (.iconst 1, 1, []), (.iadd, 1, [])] (by decide +kernel) (pc' := 1006) (ls' := lwL i) (st' := [(0, wr (i + 1)), (4, 2), (2, Int.ofNat 1)]) rfl ?_
  refine jlaW (j := 1) (show jfI 0 1006 .iaload 1 [] = true by decide +kernel) hi hl (by decide) ?_
  refine jEv.calV (st' := [(0, v)]) (show jfI 0 1007 (.invokevirtual 136) 3 [1, 185, 1, 6160] = true by decide +kernel) rfl (Or.inl rfl) rfl (Nat.le_of_ble_eq_true rfl) (by decide +kernel) (by decide) (isX11_L hT1) ((t_G_crash (T := T) (xs := xs) hT1 a).mono (by decide)) rfl ?_
  refine jEv.blk [(.aload_n 2, 1, []), (.aload_n 0, 1, []), (.iload_n 3, 1, []), (.iconst 1, 1, []), (.iadd, 1, [])] (by decide +kernel) (pc' := 1015) (ls' := lwL i) (st' := [(0, wr (i + 1)), (4, 2), (2, Int.ofNat 506), (0, v)]) rfl ?_
  refine jlaW (j := 1) (show jfI 0 1015 .iaload 1 [] = true by decide +kernel) hi hl (by decide) ?_
  refine jEv.calV (st' := [(0, v), (0, v)]) (show jfI 0 1016 (.invokevirtual 139) 3 [1, 342, 1, 10224] = true by decide +kernel) rfl (Or.inl rfl) rfl (Nat.le_of_ble_eq_true rfl) (by decide +kernel) (by decide) (isX12_L hT2) ((t_M_crash (T := T) (xs := xs) hT2 b).mono (by decide)) rfl ?_
  exact jEv.cnd (t := 1192) (show jfI 0 1019 (.if_icmp .eq 173) 3 [] = true by decide +kernel) rfl (fun _ => e) (fun hf => (jcnd_eq _ hf).elim)
theorem law_giveUp (hT1 : isX11 T 1) (hT2 : isX12 T 506) (hx : ∀ v ∈ xs, jI32 v) (hi : 0 ≤ i ∧ i + 6 ≤ (xs.length : Int)) (hl : xs.length ≤ 3072) (hk5 : k < 512) (w : WRz T h 1 506 k) (kk : ∀ h', WRz T h' 1 506 (k + 1) → ∃ h2, jEv xs 90 (0, 1192, lwL i, []) (T, h') ((0, 1), (T, h2))) : ∃ h2, jEv xs 90 (0, 1024, lwL i, []) (T, h) ((0, 1), (T, h2)) := by
  obtain ⟨v, h1, h2, a, b, c⟩ := wz_giveUp (T := T) (o0 := 1) (o := 506) rfl hk5 w
  obtain ⟨h3, e⟩ := kk h2 c
  refine ⟨h3, ?_⟩
  refine jEv.blk [(.aload_n 1, 1, [])] (by decide +kernel) (pc' := 1025) (ls' := lwL i) (st' := [(2, Int.ofNat 1)]) rfl ?_
  refine jEv.calV (st' := [(0, v)]) (show jfI 0 1025 (.invokevirtual 140) 3 [1, 186, 0, 6177] = true by decide +kernel) rfl (Or.inl rfl) rfl (Nat.le_of_ble_eq_true rfl) (by decide +kernel) (by decide) (isX11_L hT1) ((t_G_giveUp (T := T) (xs := xs) hT1 a).mono (by decide)) rfl ?_
  refine jEv.blk [(.aload_n 2, 1, [])] (by decide +kernel) (pc' := 1029) (ls' := lwL i) (st' := [(2, Int.ofNat 506), (0, v)]) rfl ?_
  refine jEv.calV (st' := [(0, v), (0, v)]) (show jfI 0 1029 (.invokevirtual 143) 3 [1, 343, 0, 10228] = true by decide +kernel) rfl (Or.inl rfl) rfl (Nat.le_of_ble_eq_true rfl) (by decide +kernel) (by decide) (isX12_L hT2) ((t_M_giveUp (T := T) (xs := xs) hT2 b).mono (by decide)) rfl ?_
  exact jEv.cnd (t := 1192) (show jfI 0 1032 (.if_icmp .eq 160) 3 [] = true by decide +kernel) rfl (fun _ => e) (fun hf => (jcnd_eq _ hf).elim)
theorem law_flip (hT1 : isX11 T 1) (hT2 : isX12 T 506) (hx : ∀ v ∈ xs, jI32 v) (hi : 0 ≤ i ∧ i + 6 ≤ (xs.length : Int)) (hl : xs.length ≤ 3072) (hk5 : k < 512) (w : WRz T h 1 506 k) (kk : ∀ h', WRz T h' 1 506 (k + 1) → ∃ h2, jEv xs 90 (0, 1192, lwL i, []) (T, h') ((0, 1), (T, h2))) : ∃ h2, jEv xs 90 (0, 1037, lwL i, []) (T, h) ((0, 1), (T, h2)) := by
  obtain ⟨v, h1, h2, a, b, c⟩ := wz_flip (T := T) (o0 := 1) (o := 506) (v1 := xs.getD (i + 1).toNat 0) (v2 := xs.getD (i + 2).toNat 0) rfl hk5 w
  obtain ⟨h3, e⟩ := kk h2 c
  refine ⟨h3, ?_⟩
  refine jEv.blk [(.aload_n 1, 1, []), (.aload_n 0, 1, []), (.iload_n 3, 1, []), (.iconst 1, 1, []), (.iadd, 1, [])] (by decide +kernel) (pc' := 1042) (ls' := lwL i) (st' := [(0, wr (i + 1)), (4, 2), (2, Int.ofNat 1)]) rfl ?_
  refine jlaW (j := 1) (show jfI 0 1042 .iaload 1 [] = true by decide +kernel) hi hl (by decide) ?_
  refine jEv.blk [(.aload_n 0, 1, []), (.iload_n 3, 1, []), (.iconst 2, 1, []), (.iadd, 1, [])] (by decide +kernel) (pc' := 1047) (ls' := lwL i) (st' := [(0, wr (i + 2)), (4, 2), (0, xs.getD (i + 1).toNat 0), (2, Int.ofNat 1)]) rfl ?_
  refine jlaW (j := 2) (show jfI 0 1047 .iaload 1 [] = true by decide +kernel) hi hl (by decide) ?_
  refine jEv.calV (st' := [(0, v)]) (show jfI 0 1048 (.invokevirtual 144) 3 [1, 187, 2, 6188] = true by decide +kernel) rfl (Or.inl rfl) rfl (Nat.le_of_ble_eq_true rfl) (by decide +kernel) (by decide) (isX11_L hT1) ((t_G_flip (T := T) (xs := xs) hT1 a).mono (by decide)) rfl ?_
  refine jEv.blk [(.aload_n 2, 1, []), (.aload_n 0, 1, []), (.iload_n 3, 1, []), (.iconst 1, 1, []), (.iadd, 1, [])] (by decide +kernel) (pc' := 1056) (ls' := lwL i) (st' := [(0, wr (i + 1)), (4, 2), (2, Int.ofNat 506), (0, v)]) rfl ?_
  refine jlaW (j := 1) (show jfI 0 1056 .iaload 1 [] = true by decide +kernel) hi hl (by decide) ?_
  refine jEv.blk [(.aload_n 0, 1, []), (.iload_n 3, 1, []), (.iconst 2, 1, []), (.iadd, 1, [])] (by decide +kernel) (pc' := 1061) (ls' := lwL i) (st' := [(0, wr (i + 2)), (4, 2), (0, xs.getD (i + 1).toNat 0), (2, Int.ofNat 506), (0, v)]) rfl ?_
  refine jlaW (j := 2) (show jfI 0 1061 .iaload 1 [] = true by decide +kernel) hi hl (by decide) ?_
  refine jEv.calV (st' := [(0, v), (0, v)]) (show jfI 0 1062 (.invokevirtual 147) 3 [1, 344, 2, 10232] = true by decide +kernel) rfl (Or.inl rfl) rfl (Nat.le_of_ble_eq_true rfl) (by decide +kernel) (by decide) (isX12_L hT2) ((t_M_flip (T := T) (xs := xs) hT2 b).mono (by decide)) rfl ?_
  exact jEv.cnd (t := 1192) (show jfI 0 1065 (.if_icmp .eq 127) 3 [] = true by decide +kernel) rfl (fun _ => e) (fun hf => (jcnd_eq _ hf).elim)
theorem law_undo (hT1 : isX11 T 1) (hT2 : isX12 T 506) (hx : ∀ v ∈ xs, jI32 v) (hi : 0 ≤ i ∧ i + 6 ≤ (xs.length : Int)) (hl : xs.length ≤ 3072) (hk5 : k < 512) (w : WRz T h 1 506 k) (kk : ∀ h', WRz T h' 1 506 (k + 1) → ∃ h2, jEv xs 90 (0, 1192, lwL i, []) (T, h') ((0, 1), (T, h2))) : ∃ h2, jEv xs 90 (0, 1070, lwL i, []) (T, h) ((0, 1), (T, h2)) := by
  obtain ⟨v, h1, h2, a, b, c⟩ := wz_undo (T := T) (o0 := 1) (o := 506) rfl hk5 w
  obtain ⟨h3, e⟩ := kk h2 c
  refine ⟨h3, ?_⟩
  refine jEv.blk [(.aload_n 1, 1, [])] (by decide +kernel) (pc' := 1071) (ls' := lwL i) (st' := [(2, Int.ofNat 1)]) rfl ?_
  refine jEv.calV (st' := [(0, v)]) (show jfI 0 1071 (.invokevirtual 148) 3 [1, 188, 0, 6193] = true by decide +kernel) rfl (Or.inl rfl) rfl (Nat.le_of_ble_eq_true rfl) (by decide +kernel) (by decide) (isX11_L hT1) ((t_G_undo (T := T) (xs := xs) hT1 a).mono (by decide)) rfl ?_
  refine jEv.blk [(.aload_n 2, 1, [])] (by decide +kernel) (pc' := 1075) (ls' := lwL i) (st' := [(2, Int.ofNat 506), (0, v)]) rfl ?_
  refine jEv.calV (st' := [(0, v), (0, v)]) (show jfI 0 1075 (.invokevirtual 152) 3 [1, 332, 0, 10179] = true by decide +kernel) rfl (Or.inl rfl) rfl (Nat.le_of_ble_eq_true rfl) (by decide +kernel) (by decide) (isX12_L hT2) ((t_M_undo (T := T) (xs := xs) hT2 b).mono (by decide)) rfl ?_
  exact jEv.cnd (t := 1192) (show jfI 0 1078 (.if_icmp .eq 114) 3 [] = true by decide +kernel) rfl (fun _ => e) (fun hf => (jcnd_eq _ hf).elim)
theorem law_seed (hT1 : isX11 T 1) (hT2 : isX12 T 506) (hx : ∀ v ∈ xs, jI32 v) (hi : 0 ≤ i ∧ i + 6 ≤ (xs.length : Int)) (hl : xs.length ≤ 3072) (hk5 : k < 512) (w : WRz T h 1 506 k) (kk : ∀ h', WRz T h' 1 506 (k + 1) → ∃ h2, jEv xs 90 (0, 1192, lwL i, []) (T, h') ((0, 1), (T, h2))) : ∃ h2, jEv xs 90 (0, 1083, lwL i, []) (T, h) ((0, 1), (T, h2)) := by
  obtain ⟨v, h1, h2, a, b, c⟩ := wz_seed (T := T) (o0 := 1) (o := 506) (v1 := xs.getD (i + 1).toNat 0) (jxI hx _) rfl hk5 w
  obtain ⟨h3, e⟩ := kk h2 c
  refine ⟨h3, ?_⟩
  refine jEv.blk [(.aload_n 1, 1, []), (.aload_n 0, 1, []), (.iload_n 3, 1, []), (.iconst 1, 1, []), (.iadd, 1, [])] (by decide +kernel) (pc' := 1088) (ls' := lwL i) (st' := [(0, wr (i + 1)), (4, 2), (2, Int.ofNat 1)]) rfl ?_
  refine jlaW (j := 1) (show jfI 0 1088 .iaload 1 [] = true by decide +kernel) hi hl (by decide) ?_
  refine jEv.calV (st' := [(0, v)]) (show jfI 0 1089 (.invokevirtual 153) 3 [1, 189, 1, 6197] = true by decide +kernel) rfl (Or.inl rfl) rfl (Nat.le_of_ble_eq_true rfl) (by decide +kernel) (by decide) (isX11_L hT1) ((t_G_seed (T := T) (xs := xs) hT1 a).mono (by decide)) rfl ?_
  refine jEv.blk [(.aload_n 2, 1, []), (.aload_n 0, 1, []), (.iload_n 3, 1, []), (.iconst 1, 1, []), (.iadd, 1, [])] (by decide +kernel) (pc' := 1097) (ls' := lwL i) (st' := [(0, wr (i + 1)), (4, 2), (2, Int.ofNat 506), (0, v)]) rfl ?_
  refine jlaW (j := 1) (show jfI 0 1097 .iaload 1 [] = true by decide +kernel) hi hl (by decide) ?_
  refine jEv.calV (st' := [(0, v), (0, v)]) (show jfI 0 1098 (.invokevirtual 156) 3 [1, 338, 1, 10204] = true by decide +kernel) rfl (Or.inl rfl) rfl (Nat.le_of_ble_eq_true rfl) (by decide +kernel) (by decide) (isX12_L hT2) ((t_M_seed (T := T) (xs := xs) hT2 b).mono (by decide)) rfl ?_
  exact jEv.cnd (t := 1192) (show jfI 0 1101 (.if_icmp .eq 91) 3 [] = true by decide +kernel) rfl (fun _ => e) (fun hf => (jcnd_eq _ hf).elim)
theorem law_ask (hT1 : isX11 T 1) (hT2 : isX12 T 506) (hx : ∀ v ∈ xs, jI32 v) (hi : 0 ≤ i ∧ i + 6 ≤ (xs.length : Int)) (hl : xs.length ≤ 3072) (hk5 : k < 512) (w : WRz T h 1 506 k) (kk : ∀ h', WRz T h' 1 506 (k + 1) → ∃ h2, jEv xs 90 (0, 1192, lwL i, []) (T, h') ((0, 1), (T, h2))) : ∃ h2, jEv xs 90 (0, 1106, lwL i, []) (T, h) ((0, 1), (T, h2)) := by
  obtain ⟨v, h1, h2, a, b, c⟩ := wz_ask (T := T) (o0 := 1) (o := 506) rfl hk5 w
  obtain ⟨h3, e⟩ := kk h2 c
  refine ⟨h3, ?_⟩
  refine jEv.blk [(.aload_n 1, 1, [])] (by decide +kernel) (pc' := 1107) (ls' := lwL i) (st' := [(2, Int.ofNat 1)]) rfl ?_
  refine jEv.calV (st' := [(1, v)]) (show jfI 0 1107 (.invokevirtual 157) 3 [1, 190, 0, 6201] = true by decide +kernel) rfl (Or.inl rfl) rfl (Nat.le_of_ble_eq_true rfl) (by decide +kernel) (by decide) (isX11_L hT1) ((t_G_ask (T := T) (xs := xs) hT1 a).mono (by decide)) rfl ?_
  refine jEv.blk [(.aload_n 2, 1, [])] (by decide +kernel) (pc' := 1111) (ls' := lwL i) (st' := [(2, Int.ofNat 506), (1, v)]) rfl ?_
  refine jEv.calV (st' := [(1, v), (1, v)]) (show jfI 0 1111 (.invokevirtual 161) 3 [1, 345, 0, 10236] = true by decide +kernel) rfl (Or.inl rfl) rfl (Nat.le_of_ble_eq_true rfl) (by decide +kernel) (by decide) (isX12_L hT2) ((t_M_ask (T := T) (xs := xs) hT2 b).mono (by decide)) rfl ?_
  refine jEv.blk [(.lcmp, 1, [])] (by decide +kernel) (pc' := 1115) (ls' := lwL i) (st' := [(0, jcmp v v)]) rfl ?_
  rw [show jcmp v v = 0 by unfold jcmp; rw [if_neg (Int.lt_irrefl v), if_pos rfl]]
  exact jEv.cnd0 (t := 1192) (show jfI 0 1115 (.ifCond .eq 77) 3 [] = true by decide +kernel) rfl (fun _ => e) (fun hf => (jcnd_eq _ hf).elim)
theorem law_image (hT1 : isX11 T 1) (hT2 : isX12 T 506) (hx : ∀ v ∈ xs, jI32 v) (hi : 0 ≤ i ∧ i + 6 ≤ (xs.length : Int)) (hl : xs.length ≤ 3072) (hk5 : k < 512) (w : WRz T h 1 506 k) (kk : ∀ h', WRz T h' 1 506 (k + 1) → ∃ h2, jEv xs 90 (0, 1192, lwL i, []) (T, h') ((0, 1), (T, h2))) : ∃ h2, jEv xs 90 (0, 1120, lwL i, []) (T, h) ((0, 1), (T, h2)) := by
  obtain ⟨v, h1, h2, a, b, c⟩ := wz_image (T := T) (o0 := 1) (o := 506) rfl hk5 w
  obtain ⟨h3, e⟩ := kk h2 c
  refine ⟨h3, ?_⟩
  refine jEv.blk [(.aload_n 1, 1, [])] (by decide +kernel) (pc' := 1121) (ls' := lwL i) (st' := [(2, Int.ofNat 1)]) rfl ?_
  refine jEv.calV (st' := [(0, v)]) (show jfI 0 1121 (.invokevirtual 162) 3 [1, 193, 0, 6236] = true by decide +kernel) rfl (Or.inl rfl) rfl (Nat.le_of_ble_eq_true rfl) (by decide +kernel) (by decide) (isX11_L hT1) ((t_G_image (T := T) (xs := xs) hT1 a).mono (by decide)) rfl ?_
  refine jEv.blk [(.aload_n 2, 1, [])] (by decide +kernel) (pc' := 1125) (ls' := lwL i) (st' := [(2, Int.ofNat 506), (0, v)]) rfl ?_
  refine jEv.calV (st' := [(0, v), (0, v)]) (show jfI 0 1125 (.invokevirtual 165) 3 [1, 352, 0, 11027] = true by decide +kernel) rfl (Or.inl rfl) rfl (Nat.le_of_ble_eq_true rfl) (by decide +kernel) (by decide) (isX12_L hT2) ((t_M_image (T := T) (xs := xs) hT2 b).mono (by decide)) rfl ?_
  exact jEv.cnd (t := 1192) (show jfI 0 1128 (.if_icmp .eq 64) 3 [] = true by decide +kernel) rfl (fun _ => e) (fun hf => (jcnd_eq _ hf).elim)
theorem law_octet (hT1 : isX11 T 1) (hT2 : isX12 T 506) (hx : ∀ v ∈ xs, jI32 v) (hi : 0 ≤ i ∧ i + 6 ≤ (xs.length : Int)) (hl : xs.length ≤ 3072) (hk5 : k < 512) (w : WRz T h 1 506 k) (kk : ∀ h', WRz T h' 1 506 (k + 1) → ∃ h2, jEv xs 90 (0, 1192, lwL i, []) (T, h') ((0, 1), (T, h2))) : ∃ h2, jEv xs 90 (0, 1133, lwL i, []) (T, h) ((0, 1), (T, h2)) := by
  obtain ⟨v, a, b, c⟩ := wz_octet (T := T) (o0 := 1) (o := 506) (v1 := xs.getD (i + 1).toNat 0) w
  obtain ⟨h3, e⟩ := kk h c
  refine ⟨h3, ?_⟩
  refine jEv.blk [(.aload_n 1, 1, []), (.aload_n 0, 1, []), (.iload_n 3, 1, []), (.iconst 1, 1, []), (.iadd, 1, [])] (by decide +kernel) (pc' := 1138) (ls' := lwL i) (st' := [(0, wr (i + 1)), (4, 2), (2, Int.ofNat 1)]) rfl ?_
  refine jlaW (j := 1) (show jfI 0 1138 .iaload 1 [] = true by decide +kernel) hi hl (by decide) ?_
  refine jEv.calV (st' := [(0, v)]) (show jfI 0 1139 (.invokevirtual 166) 3 [1, 196, 1, 7010] = true by decide +kernel) rfl (Or.inl rfl) rfl (Nat.le_of_ble_eq_true rfl) (by decide +kernel) (by decide) (isX11_L hT1) ((t_G_octet (T := T) (xs := xs) hT1 a).mono (by decide)) rfl ?_
  refine jEv.blk [(.aload_n 2, 1, []), (.aload_n 0, 1, []), (.iload_n 3, 1, []), (.iconst 1, 1, []), (.iadd, 1, [])] (by decide +kernel) (pc' := 1147) (ls' := lwL i) (st' := [(0, wr (i + 1)), (4, 2), (2, Int.ofNat 506), (0, v)]) rfl ?_
  refine jlaW (j := 1) (show jfI 0 1147 .iaload 1 [] = true by decide +kernel) hi hl (by decide) ?_
  refine jEv.calV (st' := [(0, v), (0, v)]) (show jfI 0 1148 (.invokevirtual 169) 3 [1, 350, 1, 11018] = true by decide +kernel) rfl (Or.inl rfl) rfl (Nat.le_of_ble_eq_true rfl) (by decide +kernel) (by decide) (isX12_L hT2) ((t_M_octet (T := T) (xs := xs) hT2 b).mono (by decide)) rfl ?_
  exact jEv.cnd (t := 1192) (show jfI 0 1151 (.if_icmp .eq 41) 3 [] = true by decide +kernel) rfl (fun _ => e) (fun hf => (jcnd_eq _ hf).elim)
theorem law_on (hT1 : isX11 T 1) (hT2 : isX12 T 506) (hx : ∀ v ∈ xs, jI32 v) (hi : 0 ≤ i ∧ i + 6 ≤ (xs.length : Int)) (hl : xs.length ≤ 3072) (hk5 : k < 512) (w : WRz T h 1 506 k) (kk : ∀ h', WRz T h' 1 506 (k + 1) → ∃ h2, jEv xs 90 (0, 1192, lwL i, []) (T, h') ((0, 1), (T, h2))) : ∃ h2, jEv xs 90 (0, 1156, lwL i, []) (T, h) ((0, 1), (T, h2)) := by
  obtain ⟨v, h1, h2, a, b, c⟩ := wz_on (T := T) (o0 := 1) (o := 506) rfl hk5 w
  obtain ⟨h3, e⟩ := kk h2 c
  refine ⟨h3, ?_⟩
  refine jEv.blk [(.aload_n 1, 1, [])] (by decide +kernel) (pc' := 1157) (ls' := lwL i) (st' := [(2, Int.ofNat 1)]) rfl ?_
  refine jEv.calV (st' := [(0, v)]) (show jfI 0 1157 (.invokevirtual 170) 3 [1, 197, 0, 7014] = true by decide +kernel) rfl (Or.inl rfl) rfl (Nat.le_of_ble_eq_true rfl) (by decide +kernel) (by decide) (isX11_L hT1) ((t_G_on (T := T) (xs := xs) hT1 a).mono (by decide)) rfl ?_
  refine jEv.blk [(.aload_n 2, 1, [])] (by decide +kernel) (pc' := 1161) (ls' := lwL i) (st' := [(2, Int.ofNat 506), (0, v)]) rfl ?_
  refine jEv.calV (st' := [(0, v), (0, v)]) (show jfI 0 1161 (.invokevirtual 173) 3 [1, 356, 0, 11043] = true by decide +kernel) rfl (Or.inl rfl) rfl (Nat.le_of_ble_eq_true rfl) (by decide +kernel) (by decide) (isX12_L hT2) ((t_M_on (T := T) (xs := xs) hT2 b).mono (by decide)) rfl ?_
  exact jEv.cnd (t := 1192) (show jfI 0 1164 (.if_icmp .eq 28) 3 [] = true by decide +kernel) rfl (fun _ => e) (fun hf => (jcnd_eq _ hf).elim)
theorem law_status (hT1 : isX11 T 1) (hT2 : isX12 T 506) (hx : ∀ v ∈ xs, jI32 v) (hi : 0 ≤ i ∧ i + 6 ≤ (xs.length : Int)) (hl : xs.length ≤ 3072) (hk5 : k < 512) (w : WRz T h 1 506 k) (kk : ∀ h', WRz T h' 1 506 (k + 1) → ∃ h2, jEv xs 90 (0, 1192, lwL i, []) (T, h') ((0, 1), (T, h2))) : ∃ h2, jEv xs 90 (0, 1169, lwL i, []) (T, h) ((0, 1), (T, h2)) := by
  obtain ⟨v, a, b, c⟩ := wz_status (T := T) (o0 := 1) (o := 506) (v1 := xs.getD (i + 1).toNat 0) w
  obtain ⟨h3, e⟩ := kk h c
  refine ⟨h3, ?_⟩
  refine jEv.blk [(.aload_n 1, 1, []), (.aload_n 0, 1, []), (.iload_n 3, 1, []), (.iconst 1, 1, []), (.iadd, 1, [])] (by decide +kernel) (pc' := 1174) (ls' := lwL i) (st' := [(0, wr (i + 1)), (4, 2), (2, Int.ofNat 1)]) rfl ?_
  refine jlaW (j := 1) (show jfI 0 1174 .iaload 1 [] = true by decide +kernel) hi hl (by decide) ?_
  refine jEv.calV (st' := [(0, v)]) (show jfI 0 1175 (.invokevirtual 174) 3 [1, 199, 1, 7025] = true by decide +kernel) rfl (Or.inl rfl) rfl (Nat.le_of_ble_eq_true rfl) (by decide +kernel) (by decide) (isX11_L hT1) ((t_G_status (T := T) (xs := xs) hT1 a).mono (by decide)) rfl ?_
  refine jEv.blk [(.aload_n 2, 1, []), (.aload_n 0, 1, []), (.iload_n 3, 1, []), (.iconst 1, 1, []), (.iadd, 1, [])] (by decide +kernel) (pc' := 1183) (ls' := lwL i) (st' := [(0, wr (i + 1)), (4, 2), (2, Int.ofNat 506), (0, v)]) rfl ?_
  refine jlaW (j := 1) (show jfI 0 1183 .iaload 1 [] = true by decide +kernel) hi hl (by decide) ?_
  refine jEv.calV (st' := [(0, v), (0, v)]) (show jfI 0 1184 (.invokevirtual 177) 3 [1, 351, 1, 11022] = true by decide +kernel) rfl (Or.inl rfl) rfl (Nat.le_of_ble_eq_true rfl) (by decide +kernel) (by decide) (isX12_L hT2) ((t_M_status (T := T) (xs := xs) hT2 b).mono (by decide)) rfl ?_
  exact jEv.cnd (t := 1192) (show jfI 0 1187 (.if_icmp .eq 5) 3 [] = true by decide +kernel) rfl (fun _ => e) (fun hf => (jcnd_eq _ hf).elim)
end LWC
