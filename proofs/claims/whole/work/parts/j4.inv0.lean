/-! the first state keeps what always holds -/
theorem spHdB10 : ∀ v ∈ spHdB 1 0, 0 ≤ v ∧ v < 256 := by decide
theorem spInv0 {ns blk len : Nat} {b : Int} (hd0 : spDim ns blk len) (hb : 0 ≤ b ∧ b ≤ 700000) : spInv ns blk len b spSt0 := by
  have hl := hd0.len
  have hns := hd0.1
  have hy : spByD ns len (fun _ _ => 0) := fun s hs => fun k hk => (show (0 : Int) ≤ 0 ∧ (0 : Int) < 256 by decide)
  refine ⟨⟨hd0, spArrD_by (D := fun _ _ => 0) _ _ (fun e he => spHdB10 _ (spOut_mem _ _ e he).2.2.2) hy, spArrC_in _ _ (fun s k _ _ => ⟨by decide, by decide⟩)⟩, ⟨fun e he => absurd he List.not_mem_nil, fun h => absurd rfl h, fun _ => rfl⟩, ⟨fun r hr => absurd hr List.not_mem_nil, Nat.le_refl _, Nat.zero_le _, Nat.zero_le _, by decide, by decide, by show (0 : Int) + ((0 : Nat) : Int) ≤ b; omega, hb.2⟩, ⟨Nat.zero_le _, ⟨fun e he => absurd he List.not_mem_nil, List.nodup_nil⟩, Nat.zero_le _⟩, ⟨fun i _ => (show (-1 : Int) ≤ -1 ∧ (-1 : Int) < 1000 by decide), fun i _ => (show (-1 : Int) ≤ -1 ∧ (-1 : Int) < 1000 by decide)⟩, ⟨by show 0 < ns; omega, by show 5 ≤ len; omega, ⟨by decide, by decide⟩, ⟨by decide, by decide⟩, by decide, by decide⟩, fun _ => 0, fun i => Nat.zero_le _, Nat.zero_le _, Nat.zero_le _, fun i hi => absurd rfl hi⟩
