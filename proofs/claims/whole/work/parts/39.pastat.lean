/-! the past's place, by its number: a State or null -/
section PASTAT
variable {T : jT} {xs : List Int} {h : jH} {o0 : Nat} {v1 : Int}
theorem t_G_pastAt_n (ho0 : isX11 T o0) (hc : v1 < 0 ∨ ¬ v1 < ((20 : Nat) : Int)) : jEm xs 1 372 [(2, Int.ofNat o0), (0, v1)] (T, h) ((5, 0), (T, h)) := by
  refine jEm.ent (n := 2) (by decide +kernel) (Nat.le_of_ble_eq_true rfl) ?_
  show jEv xs 0 (372, 0, [(2, Int.ofNat o0), (0, v1)], []) (T, h) ((5, 0), (T, h))
  have fin : jEv xs 0 (372, 22, [(2, Int.ofNat o0), (0, v1)], []) (T, h) ((5, 0), (T, h)) := by
    refine jEv.blk [(.aconst_null, 1, [])] (by decide +kernel) (pc' := 23) (ls' := [(2, Int.ofNat o0), (0, v1)]) (st' := [(5, 0)]) rfl ?_
    exact jEv.retN (show jfI 372 23 (.areturn) 1 [] = true by decide +kernel) (by decide +kernel) rfl
  refine jEv.blk [(.iload_n 1, 1, [])] (by decide +kernel) (pc' := 1) (ls' := [(2, Int.ofNat o0), (0, v1)]) (st' := [(0, v1)]) rfl ?_
  refine jEv.cnd0 (t := 22) (show jfI 372 1 (.ifCond .lt 21) 3 [] = true by decide +kernel) rfl (fun _ => fin) (fun c => ?_)
  refine jEv.blk [(.iload_n 1, 1, []), (.aload_n 0, 1, [])] (by decide +kernel) (pc' := 6) (ls' := [(2, Int.ofNat o0), (0, v1)]) (st' := [(2, Int.ofNat o0), (0, v1)]) rfl ?_
  refine jEv.gfR (o' := (o0 + 77)) (show jfI 372 6 (.getfield 52) 3 [11, 12, 5, 0, 3013] = true by decide +kernel) (isX11_L ho0) (by decide) (isX11_r12 ho0) ?_
  refine jEv.alen (show jfI 372 9 (.arraylength) 1 [] = true by decide +kernel) (isX11_a12 ho0) (by decide) ?_
  refine jEv.cnd (t := 22) (show jfI 372 10 (.if_icmp .ge 12) 3 [] = true by decide +kernel) rfl (fun _ => fin) (fun c2 => ?_)
  exfalso
  have d1 : ¬ v1 < 0 := by simpa [jcnd] using c
  have d2 : v1 < ((20 : Nat) : Int) := by simpa [jcnd] using c2
  rcases hc with hc | hc
  · exact d1 hc
  · exact hc d2
theorem t_G_pastAt_y {q : Nat} (ho0 : isX11 T o0) (h1 : ¬ v1 < 0) (h2 : v1 < ((20 : Nat) : Int)) (hq : Int.ofNat (T.2 (o0 + 77) (v1 : Int).toNat) = Int.ofNat q) : jEm xs 1 372 [(2, Int.ofNat o0), (0, v1)] (T, h) ((2, Int.ofNat q), (T, h)) := by
  refine jEm.ent (n := 2) (by decide +kernel) (Nat.le_of_ble_eq_true rfl) ?_
  show jEv xs 0 (372, 0, [(2, Int.ofNat o0), (0, v1)], []) (T, h) ((2, Int.ofNat q), (T, h))
  refine jEv.blk [(.iload_n 1, 1, [])] (by decide +kernel) (pc' := 1) (ls' := [(2, Int.ofNat o0), (0, v1)]) (st' := [(0, v1)]) rfl ?_
  refine jEv.cnd0 (t := 22) (show jfI 372 1 (.ifCond .lt 21) 3 [] = true by decide +kernel) rfl (fun c => absurd (show v1 < 0 by simpa [jcnd] using c) h1) (fun _ => ?_)
  refine jEv.blk [(.iload_n 1, 1, []), (.aload_n 0, 1, [])] (by decide +kernel) (pc' := 6) (ls' := [(2, Int.ofNat o0), (0, v1)]) (st' := [(2, Int.ofNat o0), (0, v1)]) rfl ?_
  refine jEv.gfR (o' := (o0 + 77)) (show jfI 372 6 (.getfield 52) 3 [11, 12, 5, 0, 3013] = true by decide +kernel) (isX11_L ho0) (by decide) (isX11_r12 ho0) ?_
  refine jEv.alen (show jfI 372 9 (.arraylength) 1 [] = true by decide +kernel) (isX11_a12 ho0) (by decide) ?_
  refine jEv.cnd (t := 22) (show jfI 372 10 (.if_icmp .ge 12) 3 [] = true by decide +kernel) rfl (fun c => absurd h2 (by simpa [jcnd] using c)) (fun _ => ?_)
  refine jEv.blk [(.aload_n 0, 1, [])] (by decide +kernel) (pc' := 14) (ls' := [(2, Int.ofNat o0), (0, v1)]) (st' := [(2, Int.ofNat o0)]) rfl ?_
  refine jEv.gfR (o' := (o0 + 77)) (show jfI 372 14 (.getfield 52) 3 [11, 12, 5, 0, 3013] = true by decide +kernel) (isX11_L ho0) (by decide) (isX11_r12 ho0) ?_
  refine jEv.blk [(.iload_n 1, 1, [])] (by decide +kernel) (pc' := 18) (ls' := [(2, Int.ofNat o0), (0, v1)]) (st' := [(0, v1), (2, Int.ofNat (o0 + 77))]) rfl ?_
  have hc : (0 : Int) ≤ v1 ∧ (v1 : Int).toNat < 20 := ⟨by omega, by omega⟩
  have H : (if (0 : Int) ≤ v1 ∧ (v1 : Int).toNat < 20 then Option.bind (jdyn (fun z => z = q) (Int.ofNat (T.2 (o0 + 77) (v1 : Int).toNat))) (fun _ => some ()) else none) = some () := by
    rw [if_pos hc, hq]
    rw [show jdyn (fun z => z = q) (Int.ofNat q) = some q from jdyn_at rfl]
    rfl
  refine jEv.aald (show jfI 372 18 (.aaload) 1 [] = true by decide +kernel) (isX11_a12 ho0) H (fun q' hq' _ _ => ?_)
  have hq' : q' = q := hq'
  subst hq'
  refine jEv.goto (t := 23) (show jfI 372 19 (.goto 4) 3 [] = true by decide +kernel) rfl ?_
  exact jEv.retR (show jfI 372 23 (.areturn) 1 [] = true by decide +kernel) (by decide +kernel) rfl
end PASTAT
