/-! methods checked -/
def jmokR (mi : Nat) : Bool := match jmi mi with
  | (y, _, n, rc, tags, hs, stt) => (if stt = 1 then jhas (hs.getD 1 0) (.static y) else jhas (hs.getD 1 0) (.instanceMethod y)) && (decide (stt = 1) || decide (y.name = "<init>") || jhas (hs.getD 2 0) (.selects y.cls y y)) && jhas (hs.getD 3 0) (.initialized y.cls)
    && plainFor y && decide (y.cls ≠ "java/lang/invoke/MethodHandle") && decide (y.cls ≠ "java/lang/invoke/VarHandle") && decide ((parseMethodDescriptor y.desc).map (fun d => d.parameters.length) = some (if stt = 1 then tags.length else tags.length - 1)) && decide (stt = 0 ∨ stt = 1) && decide (stt = 1 ∨ 0 < tags.length)
    && decide (rc = 0 ∨ rc = 1 ∨ rc = 3 ∨ rc = 5 ∨ rc = 6 ∨ rc = 7 ∨ rc = 9) && decide (n ≤ 40)
    && (match vwCl[hs.getD 4 99]? with
      | some r => decide (r.1 = y.cls)
      | none => if hs.getD 4 99 = 50 then decide (y.cls = "java/lang/String") else true)
def jmcd (mi : Nat) : Bool := match jmi mi with
  | (y, b, n, rc, _, hs, _) => jhas (hs.getD 0 0) (.code y b n (jret rc))
theorem jmcd_of {mi n rc stt : Nat} {y : MethodName} {b : ByteArray} {tags hs : List Nat} (h1 : jmi mi = (y, b, n, rc, tags, hs, stt)) (hc : jhas (hs.getD 0 0) (.code y b n (jret rc)) = true) : jmcd mi = true := by
  unfold jmcd
  rw [h1]
  exact hc
set_option maxRecDepth 100000 in
set_option maxHeartbeats 4000000 in
theorem jmr_0 : (List.range 62).all (fun i => decide (0 + i = 0) || jmokR (0 + i)) = true := by decide +kernel
set_option maxRecDepth 100000 in
set_option maxHeartbeats 4000000 in
theorem jmr_62 : (List.range 62).all (fun i => decide (62 + i = 0) || jmokR (62 + i)) = true := by decide +kernel
set_option maxRecDepth 100000 in
set_option maxHeartbeats 4000000 in
theorem jmr_124 : (List.range 62).all (fun i => decide (124 + i = 0) || jmokR (124 + i)) = true := by decide +kernel
set_option maxRecDepth 100000 in
set_option maxHeartbeats 4000000 in
theorem jmr_186 : (List.range 62).all (fun i => decide (186 + i = 0) || jmokR (186 + i)) = true := by decide +kernel
set_option maxRecDepth 100000 in
set_option maxHeartbeats 4000000 in
theorem jmr_248 : (List.range 62).all (fun i => decide (248 + i = 0) || jmokR (248 + i)) = true := by decide +kernel
set_option maxRecDepth 100000 in
set_option maxHeartbeats 4000000 in
theorem jmr_310 : (List.range 62).all (fun i => decide (310 + i = 0) || jmokR (310 + i)) = true := by decide +kernel
set_option maxRecDepth 100000 in
set_option maxHeartbeats 4000000 in
theorem jmr_372 : (List.range 1).all (fun i => decide (372 + i = 0) || jmokR (372 + i)) = true := by decide +kernel
theorem jmR {mi : Nat} (h0 : 0 < mi) (h1 : mi < 373) : jmokR mi = true := by
  have key : ∀ (k n : Nat), (List.range n).all (fun i => decide (k + i = 0) || jmokR (k + i)) = true → k ≤ mi → mi < k + n → jmokR mi = true := by
    intro k n h h2 h3
    have h4 := List.all_eq_true.mp h (mi - k) (List.mem_range.mpr (by omega))
    rw [show k + (mi - k) = mi by omega] at h4
    rw [Bool.or_eq_true] at h4
    rcases h4 with h4 | h4
    · have := of_decide_eq_true h4
      omega
    · exact h4
  by_cases c0 : mi < 62
  · exact key 0 62 jmr_0 (by omega) (by omega)
  by_cases c62 : mi < 124
  · exact key 62 62 jmr_62 (by omega) (by omega)
  by_cases c124 : mi < 186
  · exact key 124 62 jmr_124 (by omega) (by omega)
  by_cases c186 : mi < 248
  · exact key 186 62 jmr_186 (by omega) (by omega)
  by_cases c248 : mi < 310
  · exact key 248 62 jmr_248 (by omega) (by omega)
  by_cases c310 : mi < 372
  · exact key 310 62 jmr_310 (by omega) (by omega)
  by_cases c372 : mi < 373
  · exact key 372 1 jmr_372 (by omega) (by omega)
  omega
