/-! the reference's first segment is opened -/
section MHD
variable {o ns blk len : Nat}
theorem m_head0 {h : jH} (hd0 : spDim ns blk len) (h5 : h (o + 28) 5 = (ns : Int)) (h7 : h (o + 28) 7 = (blk : Int)) (h67 : h (o + 28) 6 * h (o + 28) 7 = (len : Int)) (he : ∀ i, i < 2365 → h (o + 33) i = (if 144 ≤ i ∧ i < 176 then -1 else if 184 ≤ i ∧ i < 196 then -1 else 0)) : ∃ h', M_opensOnDisk h o 0 0 = some h' ∧ (∀ q, q ≠ o + 33 → h' q = h q) ∧ h' (o + 33) 5 = 0 ∧ h' (o + 33) 6 = 5 ∧ h' (o + 33) 7 = 1 ∧ h' (o + 33) 8 = 1 ∧ (∀ i, i < 196 → i ≠ 5 → i ≠ 6 → i ≠ 7 → i ≠ 8 → h' (o + 33) i = h (o + 33) i) ∧ (∀ i, 1220 ≤ i → h' (o + 33) i = h (o + 33) i) ∧ MD h' o ns blk len (spArrD (spOut 0 0 (spHdB 1 0)) (fun _ _ => 0)) (spArrC (spOut 0 0 (spHdB 1 0)) (fun _ _ => 0)) := by
  have hl := hd0.len
  have hns := hd0.2.1
  have z : ∀ i, i < 2365 → 196 ≤ i → h (o + 33) i = 0 := fun i i1 i2 => by rw [he i i1, if_neg (by omega), if_neg (by omega)]
  have md0 : MD h o ns blk len (fun _ _ => 0) (fun _ _ => 0) := ⟨h5, h7, h67, fun s k hs hk => z _ (by omega) (by omega), fun s k hs hk => z _ (by omega) (by omega), fun s k hs hk _ => z _ (by omega) (by omega)⟩
  obtain ⟨h1, a1, a2, a3, a4, a5, a6, a7⟩ := m_opens (o := o) (t := 0) (gr := 0) (h := h) (by decide) (by rw [he 8 (by decide)]; rfl)
  have e1 : wr ((0 : Int) + 1) = 1 := by rw [pw (by decide) (by decide)]; rfl
  rw [e1] at a3 a6
  have md1 : MD h1 o ns blk len (fun _ _ => 0) (fun _ _ => 0) := by
    obtain ⟨m1, m2, m3, m4, m5, m6⟩ := md0
    refine ⟨by rw [a2 _ (by omega)]; exact m1, by rw [a2 _ (by omega)]; exact m2, by rw [a2 _ (by omega)]; exact m3, fun s k hs hk => by rw [a7 _ (by omega) (by omega) (by omega) (by omega) (by omega)]; exact m4 s k hs hk, fun s k hs hk => by rw [a7 _ (by omega) (by omega) (by omega) (by omega) (by omega)]; exact m5 s k hs hk, fun s k hs hk hh => by rw [a7 _ (by omega) (by omega) (by omega) (by omega) (by omega)]; exact m6 s k hs hk hh⟩
  obtain ⟨h2, b1, b2, b3⟩ := m_oodL (ser := 1) (num := 0) hd0 ⟨by decide, by decide⟩ ⟨by decide, by decide⟩ 5 0 h1 _ _ rfl md1 a6
  have hz : ∀ i, i ≠ 6 → (jup h2 (o + 33) 6 5) (o + 33) i = h2 (o + 33) i := fun i hi => ju_ne hi
  refine ⟨jup h2 (o + 33) 6 5, ?_, fun q hq => by rw [jup_ne hq, b2.1 q hq, a2 q hq], by rw [hz 5 (by decide), b2.2 5 (by decide)]; exact a4, ju_eq, by rw [hz 7 (by decide), b2.2 7 (by decide)]; exact a6, by rw [hz 8 (by decide), b2.2 8 (by decide)]; exact a3, fun i i1 i2 i3 i4 i5 => ?_, fun i hi => by rw [hz i (by omega), b2.2 i (by omega), a7 i (by omega) (by omega) (by omega) (by omega) (by omega)], ?_⟩
  · unfold M_opensOnDisk
    rw [show M_opens h o 0 = some h1 from a1, Option.bind_some]
    exact b1
  · rw [hz i i3, b2.2 i (by omega)]
    by_cases c : i = 192
    · have := m_opens_top (o := o) (h := h) a1
      rw [c, this, he 192 (by decide)]
      rfl
    · exact a7 i i2 i3 i4 i5 (by omega)
  · obtain ⟨m1, m2, m3, m4, m5, m6⟩ := b3
    exact ⟨by rw [jup_ne (by omega)]; exact m1, by rw [jup_ne (by omega)]; exact m2, by rw [jup_ne (by omega)]; exact m3, fun s k hs hk => by rw [hz _ (by omega)]; exact m4 s k hs hk, fun s k hs hk => by rw [hz _ (by omega)]; exact m5 s k hs hk, fun s k hs hk hh => by rw [hz _ (by omega)]; exact m6 s k hs hk hh⟩
end MHD
