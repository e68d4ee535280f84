/-! a copied state is the same state -/
section CPZ
variable {a b ns blk len : Nat}
theorem c_copyS {T : jT} {h : jH} {pl n : Nat} {bb : Int} {s : spSt} (hd : a + 20 < b ∨ b + 20 < a) (hT : isX6 T pl) (h0 : h b 0 = (pl : Int)) (hs : CS h b ns blk len n s) (hI : spInv ns blk len bb s) : ∃ h', St_copyFrom T h a b = some h' ∧ (∀ z, (z < a ∨ a + 20 < z) → h' z = h z) ∧ CS h' a ns blk len n s ∧ h' a 0 = (pl : Int) := by
  have hF := spInv_F hI
  have h14 : h b 14 = 0 ∨ h b 14 = 1 := by
    obtain ⟨⟨D, C⟩, ⟨F, lf⟩, ⟨q, fl, first⟩, ⟨wt, kp⟩, ⟨tab, stab, snap, tops⟩, ⟨sg, at', ser, gr, hl, tk⟩⟩ := s
    have := hs.2.2.2.2.2.2.2.2.2.1
    rw [this]
    cases hl
    · left; rfl
    · right; rfl
  obtain ⟨h', e1, e2⟩ := c_copyCp (a := a) hd hT h0 h14
  have k : ∀ d f N, (d, 0, N) ∈ spCpL → f < N → h' (a + d) f = h (b + d) f := fun d f N hm hf => e2.1 _ hm f (by dsimp only; omega) (by dsimp only; omega)
  have k1 : ∀ d f, (d, f, 1) ∈ spCpL → h' (a + d) f = h (b + d) f := fun d f hm => e2.1 _ hm f (by dsimp only; omega) (by dsimp only; omega)
  have k0 : ∀ f, (0, f, 1) ∈ spCpL → h' a f = h b f := fun f hm => k1 0 f hm
  refine ⟨h', e1, fun z hz => funext (fun f => e2.2.1 z f (fun e he hx => by have := e2.2.2 e he; omega)), ?_, by rw [k0 0 (by decide)]; exact h0⟩
  obtain ⟨⟨D, C⟩, ⟨F, lf⟩, ⟨q, fl, first⟩, ⟨wt, kp⟩, ⟨tab, stab, snap, tops⟩, ⟨sg, at', ser, gr, hl, tk⟩⟩ := s
  obtain ⟨i1, i2, i3, i4, i5, i6, i7⟩ := hI
  obtain ⟨c1, ⟨c2, c2'⟩, c3, ⟨c4, c4'⟩, ⟨t1, t2, t3, t4⟩, p1, p2, p3, p4, p5, p6⟩ := hs
  dsimp only at hF
  have hd0 := i1.1
  obtain ⟨x1, x2, x3, x4, x5, x6⟩ := c1
  refine ⟨⟨by rw [k1 1 2 (by decide)]; exact x1, by rw [k1 1 3 (by decide)]; exact x2, by rw [k1 1 4 (by decide)]; exact x3, fun s k' hs hk => ?_, fun s k' hs hk => ?_, fun i h1 h2 => ?_⟩, ⟨⟨by rw [k1 4 2 (by decide)]; exact c2.1, fun i e he => ?_⟩, by rw [k1 4 3 (by decide)]; exact c2'⟩, ⟨by rw [k1 7 4 (by decide)]; exact c3.1, by rw [k1 7 5 (by decide)]; exact c3.2.1, by rw [k1 7 6 (by decide)]; exact c3.2.2.1, c3.2.2.2.1, fun i r hr => ?_⟩, ⟨⟨by rw [k1 12 2 (by decide)]; exact c4.1, c4.2.1, fun i e he => ?_⟩, ?_⟩, ⟨fun i hi => by rw [k 18 i 16 (by decide) hi]; exact t1 i hi, fun i hi => by rw [k 19 i 16 (by decide) hi]; exact t2 i hi, by rw [k0 7 (by decide)]; exact t3, fun i hi => by rw [k 20 i 4 (by decide) hi]; exact t4 i hi⟩, by rw [k0 10 (by decide)]; exact p1, by rw [k0 11 (by decide)]; exact p2, by rw [k0 12 (by decide)]; exact p3, by rw [k0 13 (by decide)]; exact p4, by rw [k0 14 (by decide)]; exact p5, by rw [k0 9 (by decide)]; exact p6⟩
  · exact (k 2 _ 512 (by decide) (by have := hd0.adr hs hk; omega)).trans (x4 s k' hs hk)
  · exact (k 3 _ 512 (by decide) (by have := hd0.adr hs hk; omega)).trans (x5 s k' hs hk)
  · exact (k 3 _ 512 (by decide) h2).trans (x6 i h1 h2)
  · have hi := (List.getElem?_eq_some_iff.mp he).1
    have := c2.2 i e he
    exact ⟨(k 5 _ 512 (by decide) (by omega)).trans this.1, (k 6 _ 512 (by decide) (by omega)).trans this.2⟩
  · have hi := (List.getElem?_eq_some_iff.mp hr).1
    have hq := c3.2.2.2.1
    have := c3.2.2.2.2 i r hr
    exact ⟨(k 8 _ 32 (by decide) (by omega)).trans this.1, (k 9 _ 32 (by decide) (by omega)).trans this.2.1, (k 10 _ 32 (by decide) (by omega)).trans this.2.2.1, (k 11 _ 32 (by decide) (by omega)).trans this.2.2.2⟩
  · have hi := (List.getElem?_eq_some_iff.mp he).1
    have hq := c4.2.1
    have := c4.2.2 i e he
    exact ⟨(k 13 _ 8 (by decide) (by omega)).trans this.1, (k 14 _ 8 (by decide) (by omega)).trans this.2⟩
  · obtain ⟨y1, y2, y3, y4⟩ := c4'
    refine ⟨by rw [k1 12 6 (by decide)]; exact y1, y2, y3, fun i e he => ?_⟩
    have := y4 i e he
    have hm : (n - kp.length + i) % 40 < 40 := Nat.mod_lt _ (by decide)
    exact ⟨(k 15 _ 40 (by decide) hm).trans this.1, (k 16 _ 40 (by decide) hm).trans this.2.1, (k 17 _ 40 (by decide) hm).trans this.2.2⟩
end CPZ
