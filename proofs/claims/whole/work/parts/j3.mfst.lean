/-! the first state, before the puts: the reference -/
/-- segments of len bytes, the first opened -/
def spSt0 : spSt := ((spArrD (spOut 0 0 (spHdB 1 0)) (fun _ _ => 0), spArrC (spOut 0 0 (spHdB 1 0)) (fun _ _ => 0)), ([], 0), ([], 0, 0), ([], []), (fun _ => -1, fun _ => -1, 0, fun _ => -1), (0, 5, 1, 1, false, 0))
section MFS
variable {o ns blk len : Nat}
theorem m_fst0 {h : jH} (hd0 : spDim ns blk len) (h5 : h (o + 28) 5 = (ns : Int)) (h7 : h (o + 28) 7 = (blk : Int)) (h67 : h (o + 28) 6 * h (o + 28) 7 = (len : Int)) (he : ∀ i, i < 2365 → h (o + 33) i = (if 144 ≤ i ∧ i < 176 then -1 else if 184 ≤ i ∧ i < 196 then -1 else 0)) : ∃ h', M_opensOnDisk h o 0 0 = some h' ∧ (∀ q, q ≠ o + 33 → h' q = h q) ∧ MS h' o ns blk len [] spSt0 := by
  obtain ⟨h', a1, a2, a3, a4, a5, a6, a7, a8, a9⟩ := m_head0 hd0 h5 h7 h67 he
  have z : ∀ i, i < 144 → i ≠ 5 → i ≠ 6 → i ≠ 7 → i ≠ 8 → h' (o + 33) i = 0 := fun i i1 i2 i3 i4 i5 => by rw [a7 i (by omega) i2 i3 i4 i5, he i (by omega), if_neg (by omega), if_neg (by omega)]
  have m1 : ∀ i, 144 ≤ i → i < 176 → h' (o + 33) i = -1 := fun i i1 i2 => by rw [a7 i (by omega) (by omega) (by omega) (by omega) (by omega), he i (by omega), if_pos ⟨i1, i2⟩]
  have m2 : ∀ i, 184 ≤ i → i < 196 → h' (o + 33) i = -1 := fun i i1 i2 => by rw [a7 i (by omega) (by omega) (by omega) (by omega) (by omega), he i (by omega), if_neg (by omega), if_pos ⟨i1, i2⟩]
  have z2244 : h' (o + 33) 2244 = 0 := by rw [a8 2244 (by decide), he 2244 (by decide), if_neg (by omega), if_neg (by omega)]
  have zz := fun (i : Nat) (i1 : i < 144) (i2 : i ≠ 5) (i3 : i ≠ 6) (i4 : i ≠ 7) (i5 : i ≠ 8) => z i i1 i2 i3 i4 i5
  refine ⟨h', a1, a2, a9, ⟨⟨zz 4 (by decide) (by decide) (by decide) (by decide) (by decide), fun i e hi => by cases hi⟩, zz 3 (by decide) (by decide) (by decide) (by decide) (by decide)⟩, ⟨zz 2 (by decide) (by decide) (by decide) (by decide) (by decide), zz 1 (by decide) (by decide) (by decide) (by decide) (by decide), zz 11 (by decide) (by decide) (by decide) (by decide) (by decide), by decide, Nat.le_refl _, fun i r hi => by cases hi⟩, ⟨zz 12 (by decide) (by decide) (by decide) (by decide) (by decide), fun k e hk => (by cases hk), fun x hx => m2 _ (by omega) (by omega)⟩, ⟨z2244, by decide, fun k e hk => by cases hk⟩, ⟨fun i hi => m1 _ (by omega) (by omega), fun i hi => m1 _ (by omega) (by omega), zz 9 (by decide) (by decide) (by decide) (by decide) (by decide), fun i hi => m2 _ (by omega) (by omega)⟩, a3, a4, a5, a6, zz 10 (by decide) (by decide) (by decide) (by decide) (by decide), zz 0 (by decide) (by decide) (by decide) (by decide) (by decide), zz 13 (by decide) (by decide) (by decide) (by decide) (by decide)⟩
end MFS
