/-! images: the reference -/
section IMH
variable {ns blk len : Nat} {p : spPl} {X : spX} {b : Int}
theorem spTwo_mod {v : Int} : spTwo (v % 65536) = spTwo v := by
  unfold spTwo
  rw [show v % 65536 / 256 % 256 = v / 256 % 256 by omega, show v % 65536 % 256 = v % 256 by omega]
theorem MIf.md {h h' : jH} {o : Nat} {D C : Nat → Nat → Int} (a : MIf o h h') (hd : spDim ns blk len) (hc : MD h o ns blk len D C) : MD h' o ns blk len D C := hc.fr hd (a.1 _ (by omega) (by omega)) (fun i _ _ => by rw [a.1 _ (by omega) (by omega)])
theorem m_imgL {h g : jH} {o s : Nat} {D C : Nat → Nat → Int} {A : List Int} (hd : spDim ns blk len) (hc : MD h o ns blk len D C) (hs : s < ns) (hA : A.length = 34) (hg : MIf o h g) (hL : MIm g o (A ++ spBts len D (s * len))) : ∃ h', M_image_L89 g o (s : Int) 0 = some (.inl (((s + 1 : Nat) : Int), h')) ∧ MIf o h h' ∧ MIm h' o (A ++ spBts len D ((s + 1) * len)) := by
  have hl := hd.len
  have hn4 := hd.2.1
  unfold M_image_L89
  obtain ⟨⟨i, h3⟩, ⟨v1, v2, v3⟩, v4⟩ := jloop_k (f := fun s' : (Int × jH) => M_image_B89 s'.2 o (s : Int) s'.1) (fun i s' => s'.1 = (i : Int) ∧ MIf o h s'.2 ∧ MIm s'.2 o (A ++ spBts len D (s * len + i))) len (fun i s' hi' hp => by
    obtain ⟨x, g'⟩ := s'
    obtain ⟨p1, p2, p3⟩ := hp
    dsimp only at p1 p2 p3
    subst p1
    have hadr := hd.adr hs hi'
    have hlen : (A ++ spBts len D (s * len + i)).length = 34 + (s * len + i) := by rw [List.length_append, spBts_len, hA]
    obtain ⟨g2, x1, x2, x3⟩ := m_oct1 (v := D s i) p3 (by omega)
    have hdv : (s * len + i) / len = s ∧ (s * len + i) % len = i := by
      have h0 : 0 < len := by omega
      rw [Nat.mul_comm]
      exact ⟨by rw [Nat.mul_add_div h0, Nat.div_eq_of_lt hi', Nat.add_zero], by rw [Nat.mul_add_mod, Nat.mod_eq_of_lt hi']⟩
    have hb : A ++ spBts len D (s * len + i) ++ [D s i] = A ++ spBts len D (s * len + (i + 1)) := by
      show _ = A ++ (spBts len D (s * len + i) ++ [D ((s * len + i) / len) ((s * len + i) % len)])
      rw [hdv.1, hdv.2, List.append_assoc]
    rw [hb] at x3
    refine ⟨(((i + 1 : Nat) : Int), g2), ?_, rfl, p2.tr x2, x3⟩
    have hcg := p2.md hd hc
    show M_image_B89 g' o (s : Int) (i : Int) = _
    unfold M_image_B89
    rw [m_len hcg hd]
    simp only [Option.bind_some]
    rw [if_pos (by omega), m_oct hd hcg hs hi']
    simp only [Option.bind_some]
    rw [x1]
    simp only [Option.bind_some]
    rw [pw (by omega) (by omega)]
    rfl) (k := 0) (s := ((0 : Int), g)) (by omega) ⟨rfl, hg, hL⟩
  dsimp only at v1 v2 v3
  rw [v4]
  subst v1
  refine ⟨h3, jloop_r ?_, v2, by rw [Nat.succ_mul]; exact v3⟩
  show M_image_B89 h3 o (s : Int) ((len : Nat) : Int) = _
  unfold M_image_B89
  rw [m_len (v2.md hd hc) hd]
  simp only [Option.bind_some]
  rw [if_neg (by omega), pw (by omega) (by omega)]
  rfl
theorem RM.image {h : jH} {o : Nat} (hk : spXk ns blk len b X) (r : RM h o ns blk len p X) : ∃ h', M_image h o = some (((spIm ns len X.1).length : Int), h') ∧ MIf o h h' ∧ RM h' o ns blk len p X ∧ MIm h' o (spIm ns len X.1) := by
  have hd := hk.dim
  have hl := hd.len
  have hns := hd.1
  have hn4 := hd.2.1
  have hbd := (hd.adr (s := 0) (k := 0) (by omega) (by omega)).2
  obtain ⟨m, q1, q2, q3, q4, q5, q6⟩ := r.2
  have hq := q6.que
  have hi := hk.1.1.que
  have hD := hq.2.2.2.2.2.2.2.2.1
  have hsb : (∀ i, i < 16 → h (o + 33) (160 + i) = X.1.2.2.2.2.1.2.1 i) ∧ (0 ≤ X.1.2.2.2.2.1.2.2.1 ∧ X.1.2.2.2.2.1.2.2.1 ≤ 700000) ∧ ∀ i, i < 16 → -1 ≤ X.1.2.2.2.2.1.2.1 i ∧ X.1.2.2.2.2.1.2.1 i < 1000 := by
    have hI := hk.1.1
    generalize X.1 = s at q6 hI ⊢
    obtain ⟨⟨D, C⟩, ⟨F, lf⟩, ⟨q, fl, first⟩, ⟨wt, kp⟩, ⟨tab, stab, snap, tops⟩, ⟨sg, at', ser, gr, hl, tk⟩⟩ := s
    obtain ⟨c1, c2, c3, c4, c5, ⟨t1, t2, t3, t4⟩, p1⟩ := q6
    obtain ⟨i1, i2, i3, i4, i5, i6, i7⟩ := hI
    exact ⟨t2, by show 0 ≤ snap ∧ snap ≤ 700000; omega, i5.2⟩
  have hIn : ∀ v ∈ spImB ns len X.1, 0 ≤ v ∧ v < 256 := fun v hv => by
    unfold spImB at hv
    rcases List.mem_append.mp hv with e | e
    · rcases List.mem_append.mp e with e | e
      · exact spTwo_in v e
      · exact spPrs_in _ v e
    · exact spBts_in hi.2.2.2.2.2.2.1 _ (Nat.le_refl _) v e
  have hLen := spImB_len (ns := ns) (len := len) (s := X.1)
  unfold M_image
  rw [if_neg r.told, if_pos (by decide), show ((9 : Int)).toNat = 9 from rfl]
  obtain ⟨h0, hh0⟩ : ∃ h0 : jH, h0 = jup h o 109 0 := ⟨_, rfl⟩
  rw [← hh0]
  have f0 : MIf o h h0 := ⟨fun z z1 _ => by rw [hh0, jup_ne z1], fun f hf => by rw [hh0, ju_ne hf]⟩
  have l0 : MIm h0 o [] := ⟨by rw [hh0, ju_eq]; rfl, by simp, fun j v hj => by cases hj⟩
  rw [f0.1 _ (by omega) (by omega), hq.2.2.2.2.1, Int.tmod_eq_emod_of_nonneg hsb.2.1.1]
  obtain ⟨h1, e1, e2, e3⟩ := m_pair (v := X.1.2.2.2.2.1.2.2.1 % 65536) l0 (by show 0 + 2 ≤ 547; omega) (by omega) (by omega)
  rw [e1]
  simp only [Option.bind_some]
  rw [List.nil_append, spTwo_mod] at e3
  unfold M_image_L31
  obtain ⟨⟨i, h2⟩, ⟨w1, w2, w3⟩, w4⟩ := jloop_k (f := fun s : (Int × jH) => M_image_B31 s.2 o s.1) (fun i s => s.1 = (i : Int) ∧ MIf o h s.2 ∧ MIm s.2 o (spTwo X.1.2.2.2.2.1.2.2.1 ++ spPrs X.1.2.2.2.2.1.2.1 i)) 16 (fun i s hi' hp => by
    obtain ⟨x, g⟩ := s
    obtain ⟨p1, p2, p3⟩ := hp
    dsimp only at p1 p2 p3
    subst p1
    have hv := hsb.2.2 i hi'
    have hlen : (spTwo X.1.2.2.2.2.1.2.2.1 ++ spPrs X.1.2.2.2.2.1.2.1 i).length = 2 + 2 * i := by rw [List.length_append, spPrs_len]; rfl
    obtain ⟨g', x1, x2, x3⟩ := m_pair (v := if X.1.2.2.2.2.1.2.1 i = -1 then 65535 else X.1.2.2.2.2.1.2.1 i) p3 (by omega) (by split <;> omega) (by split <;> omega)
    rw [List.append_assoc] at x3
    refine ⟨(((i + 1 : Nat) : Int), g'), ?_, rfl, p2.tr x2, x3⟩
    show M_image_B31 g o (i : Int) = _
    unfold M_image_B31 M_image_p68
    rw [if_pos (by omega), pw (x := 160 + (i : Int)) (by omega) (by omega), if_pos (by omega), show (160 + (i : Int)).toNat = 160 + i by omega, p2.1 _ (by omega) (by omega), hsb.1 i hi', pw (x := (i : Int) + 1) (by omega) (by omega)]
    by_cases e : X.1.2.2.2.2.1.2.1 i = -1
    · rw [if_pos e] at x1 ⊢
      rw [x1]; rfl
    · rw [if_neg e] at x1 ⊢
      rw [if_pos (by omega), x1]; rfl) (k := 0) (s := ((0 : Int), h1)) (by decide) ⟨rfl, f0.tr e2, by show MIm h1 o (spTwo _ ++ []); rw [List.append_nil]; exact e3⟩
  dsimp only at w1 w2 w3
  rw [w4]
  subst w1
  have hA : (spTwo X.1.2.2.2.2.1.2.2.1 ++ spPrs X.1.2.2.2.2.1.2.1 16).length = 34 := by rw [List.length_append, spPrs_len]; rfl
  have hloop : ∃ h', M_image_L79 h2 o 0 = some (((spIm ns len X.1).length : Int), h') ∧ MIf o h h' ∧ MIm h' o (spIm ns len X.1) := by
    unfold M_image_L79
    obtain ⟨⟨i, h3⟩, ⟨v1, v2, v3⟩, v4⟩ := jloop_k (f := fun s : (Int × jH) => M_image_B79 s.2 o s.1) (fun i s => s.1 = (i : Int) ∧ MIf o h s.2 ∧ MIm s.2 o (spTwo X.1.2.2.2.2.1.2.2.1 ++ spPrs X.1.2.2.2.2.1.2.1 16 ++ spBts len X.1.1.1 (i * len))) ns (fun i s hi' hp => by
      obtain ⟨x, g⟩ := s
      obtain ⟨p1, p2, p3⟩ := hp
      dsimp only at p1 p2 p3
      subst p1
      obtain ⟨g', x1, x2, x3⟩ := m_imgL hd hD hi' hA p2 p3
      refine ⟨(((i + 1 : Nat) : Int), g'), ?_, rfl, x2, x3⟩
      show M_image_B79 g o (i : Int) = _
      unfold M_image_B79
      rw [m_seg (p2.md hd hD)]
      simp only [Option.bind_some]
      rw [if_pos (by omega), x1]) (k := 0) (s := ((0 : Int), h2)) (by omega) ⟨rfl, w2, by show MIm h2 o (_ ++ spBts len X.1.1.1 (0 * len)); rw [Nat.zero_mul]; show MIm h2 o (_ ++ []); rw [List.append_nil]; exact w3⟩
    dsimp only at v1 v2 v3
    rw [v4]
    subst v1
    obtain ⟨g', x1, x2, x3⟩ := m_oct1 (v := spCk (spImB ns len X.1) 139) v3 (by show (spImB ns len X.1).length < 547; omega)
    refine ⟨g', jloop_r ?_, v2.tr x2, x3⟩
    show M_image_B79 h3 o ((ns : Nat) : Int) = _
    unfold M_image_B79
    rw [m_seg (v2.md hd hD)]
    simp only [Option.bind_some]
    rw [if_neg (by omega), m_ckIm v3 hIn]
    simp only [Option.bind_some]
    rw [show M_writes h3 o (spCk (spTwo X.1.2.2.2.2.1.2.2.1 ++ spPrs X.1.2.2.2.2.1.2.1 16 ++ spBts len X.1.1.1 (ns * len)) 139) = _ from x1]
    simp only [Option.bind_some]
    rw [x3.1]
    rfl
  obtain ⟨h', x1, x2, x3⟩ := hloop
  refine ⟨h', jloop_x ?_ |>.trans x1, x2, r.off (fun z hz => x2.1 z (by omega) (by omega)) (fun f hf => x2.2 f (by omega)), x3⟩
  show M_image_B31 h2 o ((16 : Nat) : Int) = _
  unfold M_image_B31
  rw [if_neg (by decide)]
end IMH
