/-! the law's loop, its start -/
section LWL
variable {T : jT} {xs : List Int}
theorem WRz.up {h : jH} {o0 o k : Nat} (w : WRz T h o0 o k) : WRz T h o0 o (k + 1) := w.imp WRt.up id
theorem law_sw {h : jH} {k : Nat} {i : Int} (hT1 : isX11 T 1) (hT2 : isX12 T 506) (hx : ∀ v ∈ xs, jI32 v) (hi : 0 ≤ i ∧ i + 6 ≤ (xs.length : Int)) (hl : xs.length ≤ 3072) (hk5 : k < 512) (w : WRz T h 1 506 k) (kk : ∀ h', WRz T h' 1 506 (k + 1) → ∃ h2, jEv xs 90 (0, 1192, lwL i, []) (T, h') ((0, 1), (T, h2))) : ∃ h2, jEv xs 90 (0, 27, lwL i, []) (T, h) ((0, 1), (T, h2)) := by
  obtain ⟨m, hm⟩ : ∃ m : Int, m = jand (xs.getD i.toNat 0) 63 := ⟨_, rfl⟩
  have hm2 : 0 ≤ m ∧ m < 64 := by rw [hm, pj_63]; omega
  have hsw : jfI 0 33 (.tableswitch 1159 0 38 #[171, 234, 257, 270, 293, 316, 349, 392, 425, 448, 471, 494, 527, 550, 583, 616, 639, 672, 695, 718, 751, 774, 787, 810, 833, 876, 909, 932, 955, 968, 991, 1004, 1037, 1050, 1073, 1087, 1100, 1123, 1136]) 171 [] = true := by decide +kernel
  have key : (∃ h2, jEv xs 90 (0, 33, lwL i, [(0, m)]) (T, h) ((0, 1), (T, h2))) → ∃ h2, jEv xs 90 (0, 27, lwL i, []) (T, h) ((0, 1), (T, h2)) := by
    rintro ⟨h2, e⟩
    refine ⟨h2, ?_⟩
    refine jEv.blk [(.aload_n 0, 1, []), (.iload_n 3, 1, [])] (by decide +kernel) (pc' := 29) (ls' := lwL i) (st' := [(0, i), (4, 2)]) rfl ?_
    refine jlA0 (show jfI 0 29 .iaload 1 [] = true by decide +kernel) ⟨hi.1, by omega⟩ ?_
    refine jEv.blk [(.bipush 63, 2, []), (.iand, 1, [])] (by decide +kernel) (pc' := 33) (ls' := lwL i) (st' := [(0, jand (xs.getD i.toNat 0) 63)]) rfl ?_
    rw [← hm]
    exact e
  apply key
  by_cases c : m < 39
  rotate_left
  · obtain ⟨h2, e⟩ := kk h w.up
    exact ⟨h2, jEv.tsO (t := 1192) hsw (Or.inr (by omega)) rfl (by decide) e⟩
  have hc : m = 0 ∨ m = 1 ∨ m = 2 ∨ m = 3 ∨ m = 4 ∨ m = 5 ∨ m = 6 ∨ m = 7 ∨ m = 8 ∨ m = 9 ∨ m = 10 ∨ m = 11 ∨ m = 12 ∨ m = 13 ∨ m = 14 ∨ m = 15 ∨ m = 16 ∨ m = 17 ∨ m = 18 ∨ m = 19 ∨ m = 20 ∨ m = 21 ∨ m = 22 ∨ m = 23 ∨ m = 24 ∨ m = 25 ∨ m = 26 ∨ m = 27 ∨ m = 28 ∨ m = 29 ∨ m = 30 ∨ m = 31 ∨ m = 32 ∨ m = 33 ∨ m = 34 ∨ m = 35 ∨ m = 36 ∨ m = 37 ∨ m = 38 := by omega
  rcases hc with e | e | e | e | e | e | e | e | e | e | e | e | e | e | e | e | e | e | e | e | e | e | e | e | e | e | e | e | e | e | e | e | e | e | e | e | e | e | e
  · obtain ⟨h2, e2⟩ := law_feed hT1 hT2 hx hi hl hk5 w kk
    exact ⟨h2, jEv.tsI (t := 204) (v := 0) (off := 171) hsw e (by decide) rfl rfl (by decide) e2⟩
  · obtain ⟨h2, e2⟩ := law_end hT1 hT2 hx hi hl hk5 w kk
    exact ⟨h2, jEv.tsI (t := 267) (v := 1) (off := 234) hsw e (by decide) rfl rfl (by decide) e2⟩
  · obtain ⟨h2, e2⟩ := law_journal hT1 hT2 hx hi hl hk5 w kk
    exact ⟨h2, jEv.tsI (t := 290) (v := 2) (off := 257) hsw e (by decide) rfl rfl (by decide) e2⟩
  · obtain ⟨h2, e2⟩ := law_fault hT1 hT2 hx hi hl hk5 w kk
    exact ⟨h2, jEv.tsI (t := 303) (v := 3) (off := 270) hsw e (by decide) rfl rfl (by decide) e2⟩
  · obtain ⟨h2, e2⟩ := law_has hT1 hT2 hx hi hl hk5 w kk
    exact ⟨h2, jEv.tsI (t := 326) (v := 4) (off := 293) hsw e (by decide) rfl rfl (by decide) e2⟩
  · obtain ⟨h2, e2⟩ := law_segment hT1 hT2 hx hi hl hk5 w kk
    exact ⟨h2, jEv.tsI (t := 349) (v := 5) (off := 316) hsw e (by decide) rfl rfl (by decide) e2⟩
  · obtain ⟨h2, e2⟩ := law_frame hT1 hT2 hx hi hl hk5 w kk
    exact ⟨h2, jEv.tsI (t := 382) (v := 6) (off := 349) hsw e (by decide) rfl rfl (by decide) e2⟩
  · obtain ⟨h2, e2⟩ := law_octetOf hT1 hT2 hx hi hl hk5 w kk
    exact ⟨h2, jEv.tsI (t := 425) (v := 7) (off := 392) hsw e (by decide) rfl rfl (by decide) e2⟩
  · obtain ⟨h2, e2⟩ := law_place hT1 hT2 hx hi hl hk5 w kk
    exact ⟨h2, jEv.tsI (t := 458) (v := 8) (off := 425) hsw e (by decide) rfl rfl (by decide) e2⟩
  · obtain ⟨h2, e2⟩ := law_value hT1 hT2 hx hi hl hk5 w kk
    exact ⟨h2, jEv.tsI (t := 481) (v := 9) (off := 448) hsw e (by decide) rfl rfl (by decide) e2⟩
  · obtain ⟨h2, e2⟩ := law_soon hT1 hT2 hx hi hl hk5 w kk
    exact ⟨h2, jEv.tsI (t := 504) (v := 10) (off := 471) hsw e (by decide) rfl rfl (by decide) e2⟩
  · obtain ⟨h2, e2⟩ := law_waiting hT1 hT2 hx hi hl hk5 w kk
    exact ⟨h2, jEv.tsI (t := 527) (v := 11) (off := 494) hsw e (by decide) rfl rfl (by decide) e2⟩
  · obtain ⟨h2, e2⟩ := law_waiter hT1 hT2 hx hi hl hk5 w kk
    exact ⟨h2, jEv.tsI (t := 560) (v := 12) (off := 527) hsw e (by decide) rfl rfl (by decide) e2⟩
  · obtain ⟨h2, e2⟩ := law_kept hT1 hT2 hx hi hl hk5 w kk
    exact ⟨h2, jEv.tsI (t := 583) (v := 13) (off := 550) hsw e (by decide) rfl rfl (by decide) e2⟩
  · obtain ⟨h2, e2⟩ := law_later hT1 hT2 hx hi hl hk5 w kk
    exact ⟨h2, jEv.tsI (t := 616) (v := 14) (off := 583) hsw e (by decide) rfl rfl (by decide) e2⟩
  · obtain ⟨h2, e2⟩ := law_when hT1 hT2 hx hi hl hk5 w kk
    exact ⟨h2, jEv.tsI (t := 649) (v := 15) (off := 616) hsw e (by decide) rfl rfl (by decide) e2⟩
  · obtain ⟨h2, e2⟩ := law_rule hT1 hT2 hx hi hl hk5 w kk
    exact ⟨h2, jEv.tsI (t := 672) (v := 16) (off := 639) hsw e (by decide) rfl rfl (by decide) e2⟩
  · obtain ⟨h2, e2⟩ := law_best hT1 hT2 hx hi hl hk5 w kk
    exact ⟨h2, jEv.tsI (t := 705) (v := 17) (off := 672) hsw e (by decide) rfl rfl (by decide) e2⟩
  · obtain ⟨h2, e2⟩ := law_room hT1 hT2 hx hi hl hk5 w kk
    exact ⟨h2, jEv.tsI (t := 728) (v := 18) (off := 695) hsw e (by decide) rfl rfl (by decide) e2⟩
  · obtain ⟨h2, e2⟩ := law_recovers hT1 hT2 hx hi hl hk5 w kk
    exact ⟨h2, jEv.tsI (t := 751) (v := 19) (off := 718) hsw e (by decide) rfl rfl (by decide) e2⟩
  · obtain ⟨h2, e2⟩ := law_flips hT1 hT2 hx hi hl hk5 w kk
    exact ⟨h2, jEv.tsI (t := 784) (v := 20) (off := 751) hsw e (by decide) rfl rfl (by decide) e2⟩
  · obtain ⟨h2, e2⟩ := law_see hT1 hT2 hx hi hl hk5 w kk
    exact ⟨h2, jEv.tsI (t := 807) (v := 21) (off := 774) hsw e (by decide) rfl rfl (by decide) e2⟩
  · obtain ⟨h2, e2⟩ := law_arrived hT1 hT2 hx hi hl hk5 w kk
    exact ⟨h2, jEv.tsI (t := 820) (v := 22) (off := 787) hsw e (by decide) rfl rfl (by decide) e2⟩
  · obtain ⟨h2, e2⟩ := law_tells hT1 hT2 hx hi hl hk5 w kk
    exact ⟨h2, jEv.tsI (t := 843) (v := 23) (off := 810) hsw e (by decide) rfl rfl (by decide) e2⟩
  · obtain ⟨h2, e2⟩ := law_append hT1 hT2 hx hi hl hk5 w kk
    exact ⟨h2, jEv.tsI (t := 866) (v := 24) (off := 833) hsw e (by decide) rfl rfl (by decide) e2⟩
  · obtain ⟨h2, e2⟩ := law_waits hT1 hT2 hx hi hl hk5 w kk
    exact ⟨h2, jEv.tsI (t := 909) (v := 25) (off := 876) hsw e (by decide) rfl rfl (by decide) e2⟩
  · obtain ⟨h2, e2⟩ := law_ticks hT1 hT2 hx hi hl hk5 w kk
    exact ⟨h2, jEv.tsI (t := 942) (v := 26) (off := 909) hsw e (by decide) rfl rfl (by decide) e2⟩
  · obtain ⟨h2, e2⟩ := law_chance hT1 hT2 hx hi hl hk5 w kk
    exact ⟨h2, jEv.tsI (t := 965) (v := 27) (off := 932) hsw e (by decide) rfl rfl (by decide) e2⟩
  · obtain ⟨h2, e2⟩ := law_snap hT1 hT2 hx hi hl hk5 w kk
    exact ⟨h2, jEv.tsI (t := 988) (v := 28) (off := 955) hsw e (by decide) rfl rfl (by decide) e2⟩
  · obtain ⟨h2, e2⟩ := law_crash hT1 hT2 hx hi hl hk5 w kk
    exact ⟨h2, jEv.tsI (t := 1001) (v := 29) (off := 968) hsw e (by decide) rfl rfl (by decide) e2⟩
  · obtain ⟨h2, e2⟩ := law_giveUp hT1 hT2 hx hi hl hk5 w kk
    exact ⟨h2, jEv.tsI (t := 1024) (v := 30) (off := 991) hsw e (by decide) rfl rfl (by decide) e2⟩
  · obtain ⟨h2, e2⟩ := law_flip hT1 hT2 hx hi hl hk5 w kk
    exact ⟨h2, jEv.tsI (t := 1037) (v := 31) (off := 1004) hsw e (by decide) rfl rfl (by decide) e2⟩
  · obtain ⟨h2, e2⟩ := law_undo hT1 hT2 hx hi hl hk5 w kk
    exact ⟨h2, jEv.tsI (t := 1070) (v := 32) (off := 1037) hsw e (by decide) rfl rfl (by decide) e2⟩
  · obtain ⟨h2, e2⟩ := law_seed hT1 hT2 hx hi hl hk5 w kk
    exact ⟨h2, jEv.tsI (t := 1083) (v := 33) (off := 1050) hsw e (by decide) rfl rfl (by decide) e2⟩
  · obtain ⟨h2, e2⟩ := law_ask hT1 hT2 hx hi hl hk5 w kk
    exact ⟨h2, jEv.tsI (t := 1106) (v := 34) (off := 1073) hsw e (by decide) rfl rfl (by decide) e2⟩
  · obtain ⟨h2, e2⟩ := law_image hT1 hT2 hx hi hl hk5 w kk
    exact ⟨h2, jEv.tsI (t := 1120) (v := 35) (off := 1087) hsw e (by decide) rfl rfl (by decide) e2⟩
  · obtain ⟨h2, e2⟩ := law_octet hT1 hT2 hx hi hl hk5 w kk
    exact ⟨h2, jEv.tsI (t := 1133) (v := 36) (off := 1100) hsw e (by decide) rfl rfl (by decide) e2⟩
  · obtain ⟨h2, e2⟩ := law_on hT1 hT2 hx hi hl hk5 w kk
    exact ⟨h2, jEv.tsI (t := 1156) (v := 37) (off := 1123) hsw e (by decide) rfl rfl (by decide) e2⟩
  · obtain ⟨h2, e2⟩ := law_status hT1 hT2 hx hi hl hk5 w kk
    exact ⟨h2, jEv.tsI (t := 1169) (v := 38) (off := 1136) hsw e (by decide) rfl rfl (by decide) e2⟩
theorem law_loop (hT1 : isX11 T 1) (hT2 : isX12 T 506) (hx : ∀ v ∈ xs, jI32 v) (hl : xs.length ≤ 3072) : ∀ (r k : Nat) (i : Int) (h : jH), i = 6 * (k : Int) → k + r = 512 → WRz T h 1 506 k → ∃ h2, jEv xs 90 (0, 18, lwL i, []) (T, h) ((0, 1), (T, h2)) := by
  have head : ∀ (i : Int) (h h2 : jH), (((xs.length : Int) - 6 < i → jEv xs 90 (0, 1198, lwL i, []) (T, h) ((0, 1), (T, h2))) ∧ (¬ ((xs.length : Int) - 6 < i) → jEv xs 90 (0, 27, lwL i, []) (T, h) ((0, 1), (T, h2)))) → jEv xs 90 (0, 18, lwL i, []) (T, h) ((0, 1), (T, h2)) := by
    intro i h h2 e
    refine jEv.blk [(.iload_n 3, 1, []), (.aload_n 0, 1, [])] (by decide +kernel) (pc' := 20) (ls' := lwL i) (st' := [(4, 2), (0, i)]) rfl ?_
    refine jEv.alenX (z := 2) (k := 20) (l := xs) (show jfI 0 20 .arraylength 1 [] = true by decide +kernel) rfl ?_
    refine jEv.blk [(.bipush 6, 2, []), (.isub, 1, [])] (by decide +kernel) (pc' := 24) (ls' := lwL i) (st' := [(0, wr ((xs.length : Int) - 6)), (0, i)]) rfl ?_
    rw [pw (x := (xs.length : Int) - 6) (by omega) (by omega)]
    exact jEv.cnd (t := 1198) (show jfI 0 24 (.if_icmp .gt 1174) 3 [] = true by decide +kernel) rfl (fun hc => e.1 (of_decide_eq_true hc)) (fun hc => e.2 (of_decide_eq_false hc))
  have fin : ∀ (i : Int) (h : jH), jEv xs 90 (0, 1198, lwL i, []) (T, h) ((0, 1), (T, h)) := by
    intro i h
    refine jEv.blk [(.iconst 1, 1, [])] (by decide +kernel) (pc' := 1199) (ls' := lwL i) (st' := [(0, 1)]) rfl ?_
    exact jEv.retZ (show jfI 0 1199 .ireturn 1 [] = true by decide +kernel) (by decide +kernel) (Or.inr rfl) rfl
  intro r
  induction r with
  | zero =>
    intro k i h hi hk w
    exact ⟨h, head i h h ⟨fun _ => fin i h, fun hc => absurd (show (xs.length : Int) - 6 < i by omega) hc⟩⟩
  | succ r ih =>
    intro k i h hi hk w
    by_cases c : (xs.length : Int) - 6 < i
    · exact ⟨h, head i h h ⟨fun _ => fin i h, fun hc => absurd c hc⟩⟩
    · obtain ⟨h2, e⟩ := law_sw (h := h) (k := k) (i := i) hT1 hT2 hx ⟨by omega, by omega⟩ hl (by omega) w (fun h' w' => by
        obtain ⟨h2, e⟩ := ih (k + 1) (i + 6) h' (by omega) (by omega) w'
        refine ⟨h2, ?_⟩
        refine jEv.blk [(.iinc 3 6, 3, [])] (by decide +kernel) (pc' := 1195) (ls' := lwL (wr (i + 6))) (st' := []) rfl ?_
        rw [pw (x := i + 6) (by omega) (by omega)]
        exact jEv.goto (show jfI 0 1195 (.goto (-1177)) 3 [] = true by decide +kernel) rfl e)
      exact ⟨h2, head i h h2 ⟨fun hc => absurd hc c, fun _ => e⟩⟩
end LWL
set_option maxRecDepth 100000 in
theorem jL_506 : (KL_11 ([(99, 0)] ++ [(11, 20)])).length = 506 := by rw [jL_x]; decide +kernel
/-- the law, from its entry -/
theorem law_run {xs : List Int} (hx : ∀ v ∈ xs, jI32 v) (hl : xs.length ≤ 3072) (w : WRz (jL, jR) jHi 1 506 0) : ∃ h2, jEv xs 90 (jent 0 [(4, 2)]) (([(99, 0)], fun _ _ => 0), fun _ _ => 0) ((0, 1), ((jL, jR), h2)) := by
  obtain ⟨h2, e⟩ := law_loop jX11 jX12 hx hl 512 0 0 jHi (by decide) (by decide) w
  refine ⟨h2, ?_⟩
  show jEv xs 90 (0, 0, [(4, 2), (3, 0), (3, 0), (3, 0)], []) (([(99, 0)], fun _ _ => 0), fun _ _ => 0) ((0, 1), ((jL, jR), h2))
  refine jEv.nwC (q := 1) (n := 20) rfl (show jfI 0 0 (.new 7) 3 [11, 1021] = true by decide +kernel) (by decide) (by decide +kernel) ?_
  refine jEv.blk [(.dup, 1, [])] (by decide +kernel) (pc' := 4) (ls' := [(4, 2), (3, 0), (3, 0), (3, 0)]) (st' := [(2, Int.ofNat 1), (2, Int.ofNat 1)]) rfl ?_
  refine jEv.calV (st' := [(2, Int.ofNat 1)]) (show jfI 0 4 (.invokespecial 9) 3 [5, 134, 0, 1023] = true by decide +kernel) rfl (Or.inr (Or.inr (Or.inl rfl))) rfl (Nat.le_of_ble_eq_true rfl) (by decide +kernel) (by decide) (show ([(99, 0)] ++ [(11, 20)] : List (Nat × Nat))[1]? = some (11, 20) from rfl) ((c_11 (xs := xs) (o := 1) rfl rfl).mono (by decide)) rfl ?_
  refine jEv.blk [(.astore_n 1, 1, [])] (by decide +kernel) (pc' := 8) (ls' := [(4, 2), (2, Int.ofNat 1), (3, 0), (3, 0)]) (st' := []) rfl ?_
  refine jEv.nwC (q := 506) (n := 110) jL_506 (show jfI 0 8 (.new 10) 3 [12, 7029] = true by decide +kernel) (by decide) (by decide +kernel) ?_
  refine jEv.blk [(.dup, 1, [])] (by decide +kernel) (pc' := 12) (ls' := [(4, 2), (2, Int.ofNat 1), (3, 0), (3, 0)]) (st' := [(2, Int.ofNat 506), (2, Int.ofNat 506)]) rfl ?_
  have hL : (KL_11 ([(99, 0)] ++ [(11, 20)]) ++ [(12, 110)])[506]? = some (12, 110) := by
    rw [List.getElem?_append_right (by rw [jL_506]; exact Nat.le_refl _), jL_506]
    rfl
  refine jEv.calV (st' := [(2, Int.ofNat 506)]) (show jfI 0 12 (.invokespecial 12) 3 [5, 200, 0, 7031] = true by decide +kernel) rfl (Or.inr (Or.inr (Or.inl rfl))) rfl (Nat.le_of_ble_eq_true rfl) (by decide +kernel) (by decide) hL ((c_12 (xs := xs) (o := 506) (by rw [List.length_append, jL_506]; rfl) hL).mono (by decide)) rfl ?_
  rw [jL_eq]
  refine jEv.blk [(.astore_n 2, 1, []), (.iconst 0, 1, []), (.istore_n 3, 1, [])] (by decide +kernel) (pc' := 18) (ls' := lwL 0) (st' := []) rfl ?_
  exact e
