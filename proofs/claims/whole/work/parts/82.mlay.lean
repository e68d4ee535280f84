/-! the reference lays records: its parts -/
def MF (w : Nat → Int) (F : spFl) : Prop := w 4 = (F.length : Int) ∧ ∀ i e, F[i]? = some e → w (1220 + i) = ((128 * e.1 + e.2.1 : Nat) : Int) ∧ w (1732 + i) = e.2.2
/-- of the reference's row only what laying a record's bytes changes -/
def MLf (o : Nat) (h h' : jH) : Prop := (∀ q, q ≠ o → q ≠ o + 33 → q ≠ o + 34 → h' q = h q) ∧ (∀ f, f ≠ 50 → h' o f = h o f) ∧ ∀ i, i ≠ 4 → i ≠ 6 → (i < 1220 ∨ 2244 ≤ i) → h' (o + 33) i = h (o + 33) i
theorem MLf.rf {o : Nat} {h : jH} : MLf o h h := ⟨fun _ _ _ _ => rfl, fun _ _ => rfl, fun _ _ _ _ => rfl⟩
theorem MLf.tr {o : Nat} {h h1 h2 : jH} (a : MLf o h h1) (b : MLf o h1 h2) : MLf o h h2 := ⟨fun q x y z => (b.1 q x y z).trans (a.1 q x y z), fun f x => (b.2.1 f x).trans (a.2.1 f x), fun i x y z => (b.2.2 i x y z).trans (a.2.2 i x y z)⟩
section MLY
variable {o ns blk len : Nat} {D C : Nat → Nat → Int} {F : spFl}
theorem m_out {h : jH} (hF : MF (h (o + 33)) F) (hn : F.length < 512) {s k : Nat} {v : Int} (h5 : h (o + 33) 5 = (s : Int)) (h6 : h (o + 33) 6 = (k : Int)) (hs : s < 4) (hk : k < 128) :
    ∃ h', M_goesOut h o v = some h' ∧ MLf o h h' ∧ MF (h' (o + 33)) (F ++ [(s, k, v)]) ∧ h' (o + 33) 6 = ((k + 1 : Nat) : Int) ∧ h' o 50 = h o 50 ∧ h' (o + 34) = h (o + 34) := by
  obtain ⟨f1, f2⟩ := hF
  obtain ⟨h', hh⟩ : ∃ h' : jH, h' = jup (jup (jup (jup h (o + 33) (1220 + F.length) ((128 * s + k : Nat) : Int)) (o + 33) (1732 + F.length) v) (o + 33) 4 ((F.length + 1 : Nat) : Int)) (o + 33) 6 ((k + 1 : Nat) : Int) := ⟨_, rfl⟩
  have hgo : M_goesOut h o v = some h' := by
    unfold M_goesOut
    simp only [show ((4 : Int)).toNat = 4 from rfl, show ((5 : Int)).toNat = 5 from rfl, show ((6 : Int)).toNat = 6 from rfl]
    rw [f1, h5, h6]
    rw [pw (x := 128 * (s : Int)) (by omega) (by omega), pw (x := 128 * (s : Int) + (k : Int)) (by omega) (by omega), pw (x := 1220 + (F.length : Int)) (by omega) (by omega), show (1220 + (F.length : Int)).toNat = 1220 + F.length by omega]
    rw [show (jup h (o + 33) (1220 + F.length) (128 * (s : Int) + (k : Int))) (o + 33) 4 = (F.length : Int) by rw [ju_ne (by omega), f1]]
    rw [pw (x := 1732 + (F.length : Int)) (by omega) (by omega), show (1732 + (F.length : Int)).toNat = 1732 + F.length by omega]
    rw [show (jup (jup h (o + 33) (1220 + F.length) (128 * (s : Int) + (k : Int))) (o + 33) (1732 + F.length) v) (o + 33) 4 = (F.length : Int) by rw [ju_ne (by omega), ju_ne (by omega), f1]]
    rw [pw (x := (F.length : Int) + 1) (by omega) (by omega)]
    rw [show (jup (jup (jup h (o + 33) (1220 + F.length) (128 * (s : Int) + (k : Int))) (o + 33) (1732 + F.length) v) (o + 33) 4 ((F.length : Int) + 1)) (o + 33) 6 = (k : Int) by rw [ju_ne (by omega), ju_ne (by omega), ju_ne (by omega), h6]]
    rw [pw (x := (k : Int) + 1) (by omega) (by omega)]
    rw [if_pos (by omega), if_pos (by omega), if_pos (by omega), if_pos (by omega), if_pos (by omega), if_pos (by omega), if_pos (by omega), if_pos (by omega), if_pos (by omega), if_pos (by omega), hh]
    rfl
  refine ⟨h', hgo, ⟨fun q _ q2 _ => by rw [hh, jup_ne q2, jup_ne q2, jup_ne q2, jup_ne q2], fun f _ => by rw [hh, jup_ne (by omega), jup_ne (by omega), jup_ne (by omega), jup_ne (by omega)], fun i i1 i2 i3 => by rw [hh, ju_ne (by omega), ju_ne (by omega), ju_ne (by omega), ju_ne (by omega)]⟩, ⟨?_, fun i e he => ?_⟩, ?_, ?_, ?_⟩
  · rw [hh, ju_ne (by omega), ju_eq, List.length_append]; rfl
  · rw [List.getElem?_append] at he
    split at he
    · rename_i hi
      rw [hh, ju_ne (by omega), ju_ne (by omega), ju_ne (by omega), ju_ne (by omega), ju_ne (by omega), ju_ne (by omega), ju_ne (by omega), ju_ne (by omega)]
      exact f2 i e he
    · rename_i hi
      have : i = F.length := by
        by_cases z : i = F.length
        · exact z
        · obtain ⟨t, ht⟩ : ∃ t, i - F.length = t + 1 := ⟨i - F.length - 1, by omega⟩
          rw [ht] at he
          cases he
      subst this
      rw [Nat.sub_self] at he
      have : (s, k, v) = e := Option.some.inj he
      rw [hh, ju_ne (by omega), ju_ne (by omega), ju_ne (by omega), ju_eq, ju_ne (by omega), ju_ne (by omega), ju_eq, ← this]
      exact ⟨rfl, rfl⟩
  · rw [hh, ju_eq]
  · rw [hh, jup_ne (by omega), jup_ne (by omega), jup_ne (by omega), jup_ne (by omega)]
  · rw [hh, jup_ne (by omega), jup_ne (by omega), jup_ne (by omega), jup_ne (by omega)]
theorem m_roomB {h : jH} (hd0 : spDim ns blk len) (hc : MD h o ns blk len D C) : ∀ (f k left : Nat), k ≤ len → left ≤ 100 → 5 ≤ k / blk + f → M_hasRoom_L5 h o (left : Int) (k : Int) = some (if spBeh blk len f k left = none then 0 else 1) := by
  have hl := hd0.len
  have b0 : 0 < blk := by have := hd0.2.2.1; omega
  have b1 := hd0.2.2.1
  have b2 := hd0.2.2.2.1
  have b4 : len ≤ 4 * blk := by
    obtain ⟨m, h1, h2, rfl⟩ := hd0.2.2.2.2
    exact Nat.mul_le_mul_right _ h2
  have lend : ∀ (left k : Nat), (left = 0 ∨ ¬ k < len) → M_hasRoom_L5 h o (left : Int) (k : Int) = some (if left = 0 then 1 else 0) := by
    intro left k hq
    unfold M_hasRoom_L5
    refine jloop_x (X := some (if left = 0 then 1 else 0)) ?_
    show M_hasRoom_B5 h o (left : Int) (k : Int) = _
    unfold M_hasRoom_B5 M_hasRoom_p83
    rw [m_len hc hd0]
    simp only [Option.bind_some]
    by_cases a : left = 0
    · rw [if_neg (by omega), if_pos (by omega), if_pos a]
    · rw [if_pos (by omega), if_neg (by omega), if_neg (by omega), if_neg a]
  have lpad : ∀ (left k : Nat), k ≤ len → 0 < left → M_hasRoom_L5 h o (left : Int) (k : Int) = M_hasRoom_L5 h o (left : Int) (spStart blk k : Int) := by
    intro left k hk hlf
    have h1 := spEnd_gt (blk := blk) (k := k) b0
    by_cases a : spEnd blk k - k ≤ 4
    · by_cases c : k < len
      · have h3 := spEnd_le b0 hl.2.2.2 c
        unfold M_hasRoom_L5
        refine jloop_l ?_
        show M_hasRoom_B5 h o (left : Int) (k : Int) = _
        unfold M_hasRoom_B5
        rw [m_len hc hd0, m_blk hc]
        simp only [Option.bind_some]
        rw [if_pos (by omega), if_pos (by omega), if_pos (by omega), m_room hd0, if_neg (by omega), pw (by omega) (by omega)]
        unfold spStart
        rw [if_pos a, show (k : Int) + ((spEnd blk k - k : Nat) : Int) = (spEnd blk k : Int) by omega]
      · have : k = len := by omega
        subst this
        have := spEnd_len hl.2.2.2
        omega
    · unfold spStart
      rw [if_neg a]
  intro f
  induction f with
  | zero =>
    intro k left hk _ hkb
    have := Nat.div_mul_le_self k blk
    have := Nat.mul_le_mul_right blk (show 5 ≤ k / blk by omega)
    omega
  | succ f ih =>
    intro k left hk hlf hkb
    unfold spBeh
    by_cases a : left = 0
    · rw [if_pos a, lend left k (Or.inl a), if_pos a]; rfl
    · rw [if_neg a, lpad left k hk (by omega)]
      have hst := spStart_le b0 hl.2.2.2 hk
      by_cases b : len ≤ spStart blk k
      · rw [if_pos b, lend left _ (Or.inr (by omega)), if_neg a]; rfl
      · rw [if_neg b]
        have hr := spStart_room (blk := blk) (k := k) (by omega)
        have he := spEnd_le b0 hl.2.2.2 (show spStart blk k < len by omega)
        have hge := spEnd_gt (blk := blk) (k := spStart blk k) b0
        have hdiv : k / blk ≤ spStart blk k / blk := Nat.div_le_div_right hst.1
        have hmul := spEnd_mul (blk := blk) (k := spStart blk k) b0
        generalize spStart blk k = j at b hr he hge hdiv hmul hst ⊢
        generalize hn : min left (spEnd blk j - j - 4) = n
        have hstep : M_hasRoom_L5 h o (left : Int) (j : Int) = M_hasRoom_L5 h o ((left - n : Nat) : Int) ((j + 4 + n : Nat) : Int) := by
          unfold M_hasRoom_L5
          refine jloop_l ?_
          show M_hasRoom_B5 h o (left : Int) (j : Int) = _
          unfold M_hasRoom_B5 M_hasRoom_p64
          rw [m_len hc hd0, m_blk hc]
          simp only [Option.bind_some]
          rw [if_pos (by omega), if_pos (by omega), if_pos (by omega), m_room hd0, if_pos (by omega), pw (x := ((spEnd blk j - j : Nat) : Int) - 4) (by omega) (by omega)]
          by_cases c : left < spEnd blk j - j - 4
          · rw [if_pos (by omega), pw (by omega) (by omega), pw (x := 4 + (left : Int)) (by omega) (by omega), pw (by omega) (by omega)]
            congr 3
            · omega
            · omega
          · rw [if_neg (by omega), pw (by omega) (by omega), pw (x := 4 + (((spEnd blk j - j : Nat) : Int) - 4)) (by omega) (by omega), pw (by omega) (by omega)]
            congr 3
            · omega
            · omega
        rw [hstep]
        by_cases d : left - n = 0
        · rw [lend _ _ (Or.inl d), if_pos d]
          cases f with
          | zero =>
            exfalso
            have := Nat.div_mul_le_self k blk
            have := Nat.mul_le_mul_right blk (show 4 ≤ k / blk by omega)
            omega
          | succ f => unfold spBeh; rw [if_pos d]; rfl
        · refine ih (j + 4 + n) (left - n) (by omega) (by omega) ?_
          have : j + 4 + n = spEnd blk j := by omega
          rw [this, hmul, Nat.mul_div_cancel _ b0]
          omega
theorem m_hasRoom {h : jH} (hd0 : spDim ns blk len) (hc : MD h o ns blk len D C) {k left : Nat} (hk : k ≤ len) (hlf : left ≤ 100) : M_hasRoom h o (k : Int) (left : Int) = some (if spBeh blk len 6 k left = none then 0 else 1) := by
  unfold M_hasRoom
  exact m_roomB hd0 hc 6 k left hk hlf (Nat.le_trans (by decide) (Nat.le_add_left 6 (k / blk)))
theorem m_onWay {h : jH} (hF : MF (h (o + 33)) F) (hn : F.length ≤ 512) (hF2 : ∀ e ∈ F, e.2.1 < 128 ∧ e.1 < 4) {s : Nat} : ∃ y, M_isOnWay h o (s : Int) = some y ∧ ((y = 1 ∧ ∃ e ∈ F, e.1 = s) ∨ (y = 0 ∧ ¬ ∃ e ∈ F, e.1 = s)) := by
  have key : ∀ m i, i + m = F.length → ∃ y, M_isOnWay_L2 h o (s : Int) (i : Int) = some y ∧ ((y = 1 ∧ ∃ e ∈ F.drop i, e.1 = s) ∨ (y = 0 ∧ ¬ ∃ e ∈ F.drop i, e.1 = s)) := by
    unfold M_isOnWay_L2
    intro m
    induction m with
    | zero =>
      intro i hi
      refine ⟨0, jloop_r ?_, Or.inr ⟨rfl, ?_⟩⟩
      · show M_isOnWay_B2 h o (s : Int) (i : Int) = _
        unfold M_isOnWay_B2
        rw [if_pos (by decide), show ((4 : Int)).toNat = 4 from rfl, hF.1, if_neg (by omega)]
        rfl
      · rw [List.drop_of_length_le (by omega)]
        rintro ⟨e, h, -⟩
        cases h
    | succ m ih =>
      intro i hi
      have hlt : i < F.length := by omega
      have hd := List.drop_eq_getElem_cons hlt
      have hm := hF2 _ (List.getElem_mem hlt)
      have hw := (hF.2 i _ (List.getElem?_eq_getElem hlt)).1
      have hB : M_isOnWay_B2 h o (s : Int) (i : Int) = (if F[i].1 = s then some (.inr 1) else some (.inl ((i + 1 : Nat) : Int))) := by
        unfold M_isOnWay_B2
        rw [if_pos (by decide), show ((4 : Int)).toNat = 4 from rfl, hF.1, if_pos (by omega), pw (by omega) (by omega), if_pos (by omega), show (1220 + (i : Int)).toNat = 1220 + i by omega, hw, Int.tdiv_eq_ediv_of_nonneg (by omega), pw (by omega) (by omega), pw (by omega) (by omega)]
        by_cases a : F[i].1 = s
        · rw [if_pos (by omega), if_pos a]; rfl
        · rw [if_neg (by omega), if_neg a]; rfl
      by_cases a : F[i].1 = s
      · rw [if_pos a] at hB
        refine ⟨1, jloop_r hB, Or.inl ⟨rfl, F[i], ?_, a⟩⟩
        rw [hd]; exact List.mem_cons_self
      · rw [if_neg a] at hB
        obtain ⟨y, e1, e2⟩ := ih (i + 1) (by omega)
        refine ⟨y, (jloop_l hB).trans e1, ?_⟩
        rw [hd]
        rcases e2 with ⟨e2, e, e3, e4⟩ | ⟨e2, e3⟩
        · exact Or.inl ⟨e2, e, List.mem_cons_of_mem _ e3, e4⟩
        · refine Or.inr ⟨e2, ?_⟩
          rintro ⟨e, e4, e5⟩
          rcases List.mem_cons.mp e4 with h | h
          · rw [h] at e5; exact a e5
          · exact e3 ⟨e, h, e5⟩
  unfold M_isOnWay
  have := key F.length 0 (by omega)
  rw [List.drop_zero] at this
  exact this
theorem m_hb {ser num : Int} (hs : jI32 ser) (hn : jI32 num) (i : Nat) : M_headByteAt ser num (i : Int) = some (if i = 0 then ser / 256 % 256 else if i = 1 then ser % 256 else if i = 2 then num / 256 % 256 else num % 256) := by
  unfold jI32 at hs hn
  unfold M_headByteAt
  rw [pj_255, pj_255, pj_255, pj_255, pj_shr8 (by omega) (by omega), pj_shr8 (by omega) (by omega)]
  match i with
  | 0 => rfl
  | 1 => rfl
  | 2 => rfl
  | i + 3 => rw [if_neg (by omega), if_neg (by omega), if_neg (by omega), if_neg (by omega), if_neg (by omega), if_neg (by omega)]
theorem m_headB {ser num : Int} (hs : jI32 ser) (hn : jI32 num) {k : Nat} (hk : k < 5) : ∃ v, M_headByte o ser num (k : Int) = some v ∧ (spHdB ser num)[k]? = some v := by
  obtain ⟨b, hb⟩ : ∃ b : Nat → Int, b = fun i => if i = 0 then ser / 256 % 256 else if i = 1 then ser % 256 else if i = 2 then num / 256 % 256 else num % 256 := ⟨_, rfl⟩
  have hbr : ∀ i, 0 ≤ b i ∧ b i < 256 := fun i => by rw [hb]; dsimp only; split; omega; split; omega; split <;> omega
  have hat : ∀ i : Nat, M_headByteAt ser num (i : Int) = some (b i) := fun i => by rw [m_hb hs hn, hb]
  have key : ∀ m i (c : Int), i + m = k → 0 ≤ c → c < 251 → M_headByte_L7 ser num (k : Int) c (i : Int) = some (if k = 4 then spChk b m i c else b k) := by
    unfold M_headByte_L7
    intro m
    induction m with
    | zero =>
      intro i c hi h0 h1
      refine jloop_x (X := some (if k = 4 then spChk b 0 i c else b k)) ?_
      show M_headByte_B7 ser num (k : Int) c (i : Int) = _
      unfold M_headByte_B7
      rw [if_neg (by omega)]
      by_cases a : k = 4
      · rw [if_pos (by omega), if_pos a]; rfl
      · rw [if_neg (by omega), if_neg a, hat]; rfl
    | succ m ih =>
      intro i c hi h0 h1
      have y := hbr i
      refine (jloop_l (s' := ((3 * c + b i) % 251, ((i + 1 : Nat) : Int))) ?_).trans (ih (i + 1) _ (by omega) (by omega) (by omega))
      show M_headByte_B7 ser num (k : Int) c (i : Int) = _
      unfold M_headByte_B7
      rw [if_pos (by omega), hat]
      simp only [Option.bind_some]
      rw [m_by c _ h0 h1 y.1 y.2]
      simp only [Option.bind_some]
      rw [pw (by omega) (by omega)]
      rfl
  refine ⟨_, by unfold M_headByte; exact key k 0 7 (by omega) (by omega) (by omega), ?_⟩
  have : k = 0 ∨ k = 1 ∨ k = 2 ∨ k = 3 ∨ k = 4 := by omega
  rcases this with h | h | h | h | h <;> subst h <;> rw [hb] <;> rfl
end MLY
