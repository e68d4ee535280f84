/-! what a crash would leave, on both sides -/
def spCnt (t : Nat → Int) : Nat → Int
  | 0 => 0
  | n + 1 => spCnt t n + (if t n = -1 then 0 else 1)
theorem spCnt_in {t : Nat → Int} : ∀ n, 0 ≤ spCnt t n ∧ spCnt t n ≤ (n : Int) := by
  intro n
  induction n with
  | zero => exact ⟨Int.le_refl _, Int.le_refl _⟩
  | succ n ih => unfold spCnt; split <;> omega
theorem spCnt_congr {t u : Nat → Int} : ∀ n, (∀ i, i < n → t i = u i) → spCnt t n = spCnt u n := by
  intro n
  induction n with
  | zero => intro _; rfl
  | succ n ih => intro h; unfold spCnt; rw [ih (fun i hi => h i (by omega)), h n (by omega)]
def spDRecovers (ns blk len : Nat) (k v2 : Int) (X : spX) : Int := if 0 ≤ k ∧ k ≤ (X.1.2.1.1.length : Int) then (if v2 = 0 then (spCra ns blk len k.toNat X.1).2.2.1.2.2 else if v2 = 1 then (if (spCra ns blk len k.toNat X.1).2.2.2.2.2.2.2.2.2.1 = true then 1 else 0) else if v2 = 2 then ((spCra ns blk len k.toNat X.1).2.2.2.2.2.1 : Int) else if v2 = 3 then ((spCra ns blk len k.toNat X.1).2.2.2.2.2.2.1 : Int) else if v2 = 4 then spCnt (spCra ns blk len k.toNat X.1).2.2.2.2.1.1 16 else -1) else -1
section RCV
variable {ns blk len : Nat} {b : Int} {p : spPl} {X : spX}
theorem c_copyD {h : jH} {a c : Nat} {D C : Nat → Nat → Int} (hac : a + 2 < c ∨ c + 2 < a) (hd : spDim ns blk len) (hc : CD h c ns blk len D C) : ∃ h', Di_copyFrom h a c = some h' ∧ (∀ z, z ≠ a → z ≠ a + 1 → z ≠ a + 2 → h' z = h z) ∧ CD h' a ns blk len D C := by
  obtain ⟨c1, c2, c3, c4, c5, c6⟩ := hc
  unfold Di_copyFrom
  rw [g_copy]
  simp only [Option.bind_some]
  rw [g_copy]
  simp only [Option.bind_some]
  obtain ⟨g, hg⟩ : ∃ g : jH, g = jup (jup (jup h a 2 (h c 2)) a 4 ((jup h a 2 (h c 2)) c 4)) a 3 ((jup (jup h a 2 (h c 2)) a 4 ((jup h a 2 (h c 2)) c 4)) c 3) := ⟨_, rfl⟩
  rw [← hg]
  have go : ∀ z, z ≠ a → g z = h z := fun z hz => by rw [hg, jup_ne hz, jup_ne hz, jup_ne hz]
  have ga : ∀ k, k < 512 → (jcpy (jcpy g (c + 1) (a + 1) 0 0 512) (c + 2) (a + 2) 0 0 512) (a + 1) k = h (c + 1) k := fun k hk => by rw [jcpy_ne (by omega), jcpy_at hk, go _ (by omega)]
  have gb : ∀ k, k < 512 → (jcpy (jcpy g (c + 1) (a + 1) 0 0 512) (c + 2) (a + 2) 0 0 512) (a + 2) k = h (c + 2) k := fun k hk => by rw [jcpy_at hk, jcpy_ne (by omega), go _ (by omega)]
  refine ⟨_, rfl, fun z z1 z2 z3 => by rw [jcpy_ne z3, jcpy_ne z2, go z z1], ?_, ?_, ?_, fun s k hs hk => ?_, fun s k hs hk => ?_, fun i h1 h2 => ?_⟩
  · rw [jcpy_ne (by omega), jcpy_ne (by omega), hg, ju_ne (by decide), ju_ne (by decide), ju_eq]; exact c1
  · rw [jcpy_ne (by omega), jcpy_ne (by omega), hg, ju_eq, jup_ne (by omega), jup_ne (by omega)]; exact c2
  · rw [jcpy_ne (by omega), jcpy_ne (by omega), hg, ju_ne (by decide), ju_eq, jup_ne (by omega)]; exact c3
  · have := hd.adr hs hk
    rw [ga _ (by omega)]; exact c4 s k hs hk
  · have := hd.adr hs hk
    rw [gb _ (by omega)]; exact c5 s k hs hk
  · rw [gb _ h2]; exact c6 i h1 h2
theorem c_count {h : jH} {rc : Nat} {tab : Nat → Int} (ht : ∀ q, q < 16 → h (rc + 2) q = tab q) : Re_valueCount h rc = some (spCnt tab 16) := by
  unfold Re_valueCount Re_valueCount_L4
  obtain ⟨⟨v, k⟩, ⟨e1, e2⟩, e3⟩ := jloop_k (f := fun s : (Int × Int) => Re_valueCount_B4 h rc s.1 s.2) (fun k s => s.2 = (k : Int) ∧ s.1 = spCnt tab k) 16 (fun k s hk hp => by
    obtain ⟨x, y⟩ := s
    obtain ⟨p1, p2⟩ := hp
    dsimp only at p1 p2
    subst p1
    have hi := spCnt_in (t := tab) k
    refine ⟨(spCnt tab (k + 1), ((k + 1 : Nat) : Int)), ?_, rfl, rfl⟩
    show Re_valueCount_B4 h rc x (k : Int) = _
    unfold Re_valueCount_B4 Re_valueCount_p29
    rw [if_pos (by omega), if_pos (by omega), Int.toNat_natCast, ht k hk, p2, pw (x := (k : Int) + 1) (by omega) (by omega)]
    show _ = some (Sum.inl (spCnt tab k + (if tab k = -1 then 0 else 1), ((k + 1 : Nat) : Int)))
    by_cases a : tab k = -1
    · rw [if_pos a, if_pos a, pw (by omega) (by omega)]; rfl
    · rw [if_neg a, if_neg a, pw (by omega) (by omega)]; rfl) (k := 0) (s := ((0 : Int), (0 : Int))) (by decide) ⟨rfl, rfl⟩
  dsimp only at e1 e2
  rw [e3]
  subst e1
  refine jloop_r ?_
  show Re_valueCount_B4 h rc v ((16 : Nat) : Int) = _
  unfold Re_valueCount_B4
  rw [if_neg (by decide), e2]
  rfl
theorem m_count {h : jH} {o : Nat} {tab : Nat → Int} (ht : ∀ q, q < 16 → h (o + 33) (144 + q) = tab q) : M_keyMany h o = some (spCnt tab 16) := by
  unfold M_keyMany M_keyMany_L4
  obtain ⟨⟨v, k⟩, ⟨e1, e2⟩, e3⟩ := jloop_k (f := fun s : (Int × Int) => M_keyMany_B4 h o s.1 s.2) (fun k s => s.2 = (k : Int) ∧ s.1 = spCnt tab k) 16 (fun k s hk hp => by
    obtain ⟨x, y⟩ := s
    obtain ⟨p1, p2⟩ := hp
    dsimp only at p1 p2
    subst p1
    have hi := spCnt_in (t := tab) k
    refine ⟨(spCnt tab (k + 1), ((k + 1 : Nat) : Int)), ?_, rfl, rfl⟩
    show M_keyMany_B4 h o x (k : Int) = _
    unfold M_keyMany_B4
    rw [if_pos (by omega), pw (x := 144 + (k : Int)) (by omega) (by omega), if_pos (by omega), show (144 + (k : Int)).toNat = 144 + k by omega, ht k hk, p2, pw (x := (k : Int) + 1) (by omega) (by omega)]
    show _ = some (Sum.inl (spCnt tab k + (if tab k = -1 then 0 else 1), ((k + 1 : Nat) : Int)))
    by_cases a : tab k = -1
    · rw [if_pos a, if_pos a, Int.add_zero]; rfl
    · rw [if_neg a, if_neg a, pw (by omega) (by omega)]; rfl) (k := 0) (s := ((0 : Int), (0 : Int))) (by decide) ⟨rfl, rfl⟩
  dsimp only at e1 e2
  rw [e3]
  subst e1
  refine jloop_r ?_
  show M_keyMany_B4 h o v ((16 : Nat) : Int) = _
  unfold M_keyMany_B4
  rw [if_neg (by decide), e2]
  rfl
theorem RC.recovers {T : jT} {h : jH} {o0 pl B : Nat} {k v2 : Int} (hk : spXk ns blk len b X) (r : RC T h o0 pl ns blk len p B X) : ∃ h', G_recovers T h o0 k v2 = some (spDRecovers ns blk len k v2 X, h') ∧ RCf o0 pl h h' ∧ RC T h' o0 pl ns blk len p B X := by
  have hd := hk.dim
  have r0 := r
  obtain ⟨⟨r1, r2, r3, r4, r5, r6, r7⟩, c, n, q1, q2, q3, q4, q5, q6, q7⟩ := r
  have hq := q5.que
  have hno : ¬ (0 ≤ k ∧ k ≤ (X.1.2.1.1.length : Int)) → ∃ h', (some ((-1 : Int), h)) = some (spDRecovers ns blk len k v2 X, h') ∧ RCf o0 pl h h' ∧ RC T h' o0 pl ns blk len p B X := by
    intro hno
    unfold spDRecovers
    rw [if_neg hno]
    exact ⟨h, rfl, RCf.rf, r0⟩
  have e39 : h (o0 + 39) 2 = (X.1.2.1.1.length : Int) := hq.2.2.2.2.1
  unfold G_recovers
  rw [r0.told hd]
  simp only [Option.bind_some]
  rw [if_neg (by decide)]
  by_cases a1 : k < 0
  · rw [if_pos a1]; exact hno (by omega)
  rw [if_neg a1, e39]
  by_cases a2 : (X.1.2.1.1.length : Int) < k
  · rw [if_pos a2]; exact hno (by omega)
  rw [if_neg a2]
  unfold spDRecovers
  rw [if_pos ⟨by omega, by omega⟩]
  have hI := hk.1.1
  clear hno
  generalize X.1 = s at hq hI q5 q6 a2 e39 ⊢
  have hF := spInv_F hI
  obtain ⟨⟨D, C⟩, ⟨F, lf⟩, ⟨q, fl, first⟩, ⟨wt, kp⟩, ⟨tab, stab, snap, tops⟩, ⟨sg, at', ser, gr, hl, tk⟩⟩ := s
  obtain ⟨i1, i2, i3, i4, i5, i6, i7⟩ := hI
  obtain ⟨c1, ⟨c2, c2'⟩, c3, ⟨c4, c4'⟩, ⟨t1, t2, t3, t4⟩, p1, p2, p3, p4, p5, p6⟩ := q5
  dsimp only at hF a2
  obtain ⟨g1, e1, e2, e3⟩ := c_copyD (a := o0 + 57) (c := o0 + 36) (by omega) hd c1
  rw [e1]
  simp only [Option.bind_some]
  have gF : CF g1 (o0 + 39) len F := by
    unfold CF
    rw [e2 _ (by omega) (by omega) (by omega), e2 _ (by omega) (by omega) (by omega), e2 _ (by omega) (by omega) (by omega)]
    exact c2
  obtain ⟨g2, f1, f2, f3⟩ := c_arrive (of := o0 + 39) (od := o0 + 57) (i := 0) (t := k.toNat) i1.1 (by omega) (fun e he => ⟨(i2.1 e he).1, (i2.1 e he).2.1⟩) hF (by omega) (by omega) e3 gF
  rw [Nat.sub_zero, List.drop_zero] at f3
  rw [show (k.toNat : Int) = k by omega] at f1
  rw [show Fl_arrive g1 (o0 + 39) (o0 + 57) 0 k = some g2 from f1]
  simp only [Option.bind_some]
  have hy := spArrD_by (D := D) (F.take k.toNat) D (fun e he => ⟨(i2.1 e (List.mem_of_mem_take he)).2.2.1, (i2.1 e (List.mem_of_mem_take he)).2.2.2.1⟩) i1.2.1
  have g2o : ∀ z, z ≠ o0 + 57 → z ≠ o0 + 58 → z ≠ o0 + 59 → g2 z = h z := fun z z1 z2 z3 => by rw [f2 z (by omega) (by omega), e2 z (by omega) (by omega) (by omega)]
  have hsn : g2 (o0 + 35) 7 = snap := by rw [g2o _ (by omega) (by omega) (by omega)]; exact t3
  rw [hsn]
  obtain ⟨g3, x1, x2, x3⟩ := c_read (rc := o0 + 79) (od := o0 + 57) (r3 := o0 + 54) (snap := snap) (stab := stab) i1.1 f3 hy (by unfold nin; omega) (by omega) (fun j hj => by rw [g2o _ (by omega) (by omega) (by omega)]; exact t2 j hj) (by omega) (by omega)
  rw [x1]
  simp only [Option.bind_some]
  have hr := spRecov_ok (snap := snap) (stab := stab) i1.1 hy i3.2.2.2.2.1 i5.2
  unfold spCra
  dsimp only
  obtain ⟨⟨y1, y2, y3⟩, y4, y5, y6, y7⟩ := x3
  refine ⟨g3, ?_, ⟨fun z _ _ z3 z4 => by rw [x2 z (by omega), g2o z (by omega) (by omega) (by omega)], fun f _ _ => by rw [x2 o0 (by omega), g2o o0 (by omega) (by omega) (by omega)]⟩, r0.same (fun z z1 z2 => by rw [x2 z (by omega), g2o z (by omega) (by omega) (by omega)]) (CPl.eq r6 (fun z z1 z2 => by rw [x2 z (by omega), g2o z (by omega) (by omega) (by omega)]))⟩
  rw [y1, y4, y5, y7]
  by_cases b0 : v2 = 0
  · rw [if_pos b0, if_pos b0]
  rw [if_neg b0, if_neg b0]
  by_cases b1 : v2 = 1
  · rw [if_pos b1, if_pos b1]
    by_cases w : (spRecov (spArrD (F.take k.toNat) D) ns blk len snap stab).2.2.2.2 = true
    · rw [if_pos w, if_neg (by decide)]
    · rw [if_neg w, if_pos rfl]
  rw [if_neg b1, if_neg b1]
  by_cases b2 : v2 = 2
  · rw [if_pos b2, if_pos b2]
  rw [if_neg b2, if_neg b2]
  by_cases b3 : v2 = 3
  · rw [if_pos b3, if_pos b3, show (((spRecov (spArrD (F.take k.toNat) D) ns blk len snap stab).2.2.1.toNat : Nat) : Int) = (spRecov (spArrD (F.take k.toNat) D) ns blk len snap stab).2.2.1 by omega]
  rw [if_neg b3, if_neg b3]
  by_cases b4 : v2 = 4
  · rw [if_pos b4, if_pos b4, c_count y2]; rfl
  rw [if_neg b4, if_neg b4]
end RCV
