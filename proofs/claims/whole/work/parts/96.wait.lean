/-! SPEC 6: who waits, what is kept; the class's -/
abbrev spWt : Type := List (Int × Int)
abbrev spKp : Type := List (Int × Int × Int)
def spKeep (kp : spKp) (e : Int × Int × Int) : spKp := if kp.length < 40 then kp ++ [e] else kp.drop 1 ++ [e]
def spRelK (tick num : Int) : spWt → spKp → spKp
  | [], kp => kp
  | e :: r, kp => spRelK tick num r (if e.2 = num then spKeep kp (tick, e.1, num) else kp)
def spRelW (num : Int) : spWt → spWt
  | [] => []
  | e :: r => if e.2 = num then spRelW num r else e :: spRelW num r
theorem spRelW_len {num : Int} : ∀ (w : spWt), (spRelW num w).length ≤ w.length := by
  intro w
  induction w with
  | nil => exact Nat.le_refl _
  | cons e r ih => unfold spRelW; split <;> simp <;> omega
def CWa (h : jH) (ow i : Nat) (w : spWt) : Prop := ∀ (k : Nat) (e : Int × Int), w[k]? = some e → h (ow + 1) (i + k) = e.1 ∧ h (ow + 2) (i + k) = e.2
def CKn (h : jH) (ow : Nat) (kp : spKp) (n : Nat) : Prop := h ow 6 = (n : Int) ∧ n ≤ 1000000 ∧ kp.length = min n 40 ∧ ∀ (k : Nat) (e : Int × Int × Int), kp[k]? = some e → h (ow + 3) ((n - kp.length + k) % 40) = e.1 ∧ h (ow + 4) ((n - kp.length + k) % 40) = e.2.1 ∧ h (ow + 5) ((n - kp.length + k) % 40) = e.2.2
section CWT
variable {ow : Nat}
theorem c_keep {h : jH} {kp : spKp} {n : Nat} {a b c : Int} (hk : CKn h ow kp n) (hn : n < 1000000) : ∃ h', Wa_keep h ow a b c = some h' ∧ (∀ q, q ≠ ow → q ≠ ow + 3 → q ≠ ow + 4 → q ≠ ow + 5 → h' q = h q) ∧ (∀ f, f ≠ 6 → h' ow f = h ow f) ∧ CKn h' ow (spKeep kp (a, b, c)) (n + 1) := by
  obtain ⟨k1, k2, k3, k4⟩ := hk
  have hm : Int.tmod (n : Int) 40 = ((n % 40 : Nat) : Int) := by rw [Int.tmod_eq_emod_of_nonneg (by omega)]; rfl
  have hm2 : n % 40 < 40 := Nat.mod_lt _ (by decide)
  unfold Wa_keep
  rw [k1, hm, g_putN hm2]
  simp only [Option.bind_some]
  rw [g_putN hm2]
  simp only [Option.bind_some]
  rw [g_putN hm2]
  simp only [Option.bind_some]
  rw [jup_ne (show ow ≠ ow + 5 by omega), jup_ne (show ow ≠ ow + 4 by omega), jup_ne (show ow ≠ ow + 3 by omega), k1, pw (by omega) (by omega)]
  obtain ⟨h', hh⟩ : ∃ h' : jH, h' = jup (jup (jup (jup h (ow + 3) (n % 40) a) (ow + 4) (n % 40) b) (ow + 5) (n % 40) c) ow 6 ((n : Int) + 1) := ⟨_, rfl⟩
  have c3 : ∀ i, h' (ow + 3) i = if i = n % 40 then a else h (ow + 3) i := fun i => by rw [hh, jup_ne (by omega), jup_ne (by omega), jup_ne (by omega), ju_if]
  have c4 : ∀ i, h' (ow + 4) i = if i = n % 40 then b else h (ow + 4) i := fun i => by rw [hh, jup_ne (by omega), jup_ne (by omega), ju_if, jup_ne (by omega)]
  have c5 : ∀ i, h' (ow + 5) i = if i = n % 40 then c else h (ow + 5) i := fun i => by rw [hh, jup_ne (by omega), ju_if, jup_ne (by omega), jup_ne (by omega)]
  refine ⟨h', by rw [hh], fun q q1 q2 q3 q4 => by rw [hh, jup_ne q1, jup_ne q4, jup_ne q3, jup_ne q2], fun f hf => by rw [hh, ju_ne hf, jup_ne (by omega), jup_ne (by omega), jup_ne (by omega)], by rw [hh, ju_eq]; omega, by omega, ?_, fun k e he => ?_⟩
  · unfold spKeep
    split
    · rw [List.length_append]; simp; omega
    · rw [List.length_append, List.length_drop]; simp; omega
  · unfold spKeep at he ⊢
    by_cases hl : kp.length < 40
    · rw [if_pos hl] at he ⊢
      rw [List.length_append] at *
      simp only [List.length_cons, List.length_nil]
      rw [List.getElem?_append] at he
      split at he
      · rename_i hk
        have := k4 k e he
        have i1 : (n - kp.length + k) % 40 = k := by omega
        have i2 : (n + 1 - (kp.length + (0 + 1)) + k) % 40 = k := by omega
        rw [i1] at this
        rw [i2, c3, c4, c5, if_neg (by omega), if_neg (by omega), if_neg (by omega)]
        exact this
      · rename_i hk
        have hkl : k = kp.length := by
          by_cases z : k = kp.length
          · exact z
          · obtain ⟨t, ht⟩ : ∃ t, k - kp.length = t + 1 := ⟨k - kp.length - 1, by omega⟩
            rw [ht] at he; cases he
        subst hkl
        rw [Nat.sub_self] at he
        have he2 : (a, b, c) = e := Option.some.inj he
        have i2 : (n + 1 - (kp.length + (0 + 1)) + kp.length) % 40 = n % 40 := by omega
        rw [i2, c3, c4, c5, if_pos rfl, if_pos rfl, if_pos rfl, ← he2]
        exact ⟨rfl, rfl, rfl⟩
    · rw [if_neg hl] at he ⊢
      have hl40 : kp.length = 40 := by omega
      have hd : (kp.drop 1).length = 39 := by rw [List.length_drop]; omega
      rw [List.length_append, hd]
      simp only [List.length_cons, List.length_nil]
      rw [List.getElem?_append] at he
      split at he
      · rename_i hk
        rw [List.getElem?_drop] at he
        have := k4 (1 + k) e he
        have i1 : (n - kp.length + (1 + k)) % 40 = (n + 1 - (39 + (0 + 1)) + k) % 40 := by congr 1; omega
        rw [i1] at this
        rw [c3, c4, c5, if_neg (by omega), if_neg (by omega), if_neg (by omega)]
        exact this
      · rename_i hk
        rw [hd] at hk he
        have hkl : k = 39 := by
          by_cases z : k = 39
          · exact z
          · obtain ⟨t, ht⟩ : ∃ t, k - 39 = t + 1 := ⟨k - 39 - 1, by omega⟩
            rw [ht] at he; cases he
        subst hkl
        have he2 : (a, b, c) = e := Option.some.inj he
        have i2 : (n + 1 - (39 + (0 + 1)) + 39) % 40 = n % 40 := by omega
        rw [i2, c3, c4, c5, if_pos rfl, if_pos rfl, if_pos rfl, ← he2]
        exact ⟨rfl, rfl, rfl⟩
/-- those who wait for a record are released -/
theorem c_relL {num tick : Int} {bf : Nat} (hb8 : bf ≤ 8) : ∀ (suf d : spWt) (kp : spKp) (n i : Nat) (h : jH), i + suf.length = bf → d.length ≤ i → CWa h ow 0 d → CWa h ow i suf → CKn h ow kp n → n + suf.length ≤ 1000000 →
    ∃ h' n', Wa_release_L11 h ow num tick (d.length : Int) (bf : Int) (i : Int) = some ((bf : Int) - ((d ++ spRelW num suf).length : Int), h') ∧ (∀ q, (q < ow ∨ ow + 5 < q) → h' q = h q) ∧ (∀ f, f ≠ 6 → f ≠ 2 → h' ow f = h ow f) ∧ h' ow 2 = ((d ++ spRelW num suf).length : Int) ∧ CWa h' ow 0 (d ++ spRelW num suf) ∧ CKn h' ow (spRelK tick num suf kp) n' ∧ n' + (spRelW num suf).length = n + suf.length := by
  unfold Wa_release_L11
  intro suf
  induction suf with
  | nil =>
    intro d kp n i h hi hd hda hs hk hn
    refine ⟨jup h ow 2 (d.length : Int), n, jloop_r ?_, fun q hq => jup_ne (by omega), fun f _ f2 => ju_ne f2, by rw [ju_eq]; simp [spRelW], ?_, ?_, by simp [spRelW]⟩
    · show Wa_release_B11 h ow num tick (d.length : Int) (bf : Int) (i : Int) = _
      unfold Wa_release_B11
      rw [List.length_nil] at hi
      rw [if_neg (by omega), pw (by omega) (by omega)]
      simp [spRelW]
    · intro k e he
      rw [jup_ne (by omega), jup_ne (by omega)]
      simp [spRelW] at he
      exact hda k e he
    · unfold CKn at hk ⊢
      rw [ju_ne (by decide), jup_ne (by omega), jup_ne (by omega), jup_ne (by omega)]
      exact hk
  | cons e r ih =>
    intro d kp n i h hi hd hda hs hk hn
    rw [List.length_cons] at hi hn
    have h0 := hs 0 e rfl
    simp only [Nat.add_zero] at h0
    have hB : Wa_release_B11 h ow num tick (d.length : Int) (bf : Int) (i : Int) = (if e.2 = num then Option.bind (Wa_keep h ow tick e.1 num) (fun b5 => some (.inl ((d.length : Int), ((i + 1 : Nat) : Int), b5))) else some (.inl (((d.length + 1 : Nat) : Int), ((i + 1 : Nat) : Int), jup (jup h (ow + 1) d.length e.1) (ow + 2) d.length e.2))) := by
      unfold Wa_release_B11
      rw [if_pos (by omega), g_cellN (by omega), g_cellN (by omega), h0.1, h0.2, pw (x := (i : Int) + 1) (by omega) (by omega), pw (x := (d.length : Int) + 1) (by omega) (by omega)]
      simp only [Option.bind_some]
      rw [g_putN (by omega)]
      simp only [Option.bind_some]
      rw [g_cellN (by omega), jup_ne (show ow + 2 ≠ ow + 1 by omega), h0.2]
      simp only [Option.bind_some]
      rw [g_putN (by omega)]
      rfl
    by_cases a : e.2 = num
    · rw [if_pos a] at hB
      obtain ⟨h1, e1, e2, e3, e4⟩ := c_keep (a := tick) (b := e.1) (c := num) hk (by omega)
      rw [e1] at hB
      have hda1 : CWa h1 ow 0 d := by
        intro k e' he'
        rw [e2 _ (by omega) (by omega) (by omega) (by omega), e2 _ (by omega) (by omega) (by omega) (by omega)]
        exact hda k e' he'
      have hs1 : CWa h1 ow (i + 1) r := by
        intro k e' he'
        rw [e2 _ (by omega) (by omega) (by omega) (by omega), e2 _ (by omega) (by omega) (by omega) (by omega), show i + 1 + k = i + (k + 1) by omega]
        exact hs (k + 1) e' he'
      obtain ⟨h', n', w1, w2, w3, w4, w5, w6, w7⟩ := ih d _ (n + 1) (i + 1) h1 (by omega) (by omega) hda1 hs1 e4 (by omega)
      refine ⟨h', n', (jloop_l hB).trans ?_, fun q hq => by rw [w2 q hq, e2 q (by omega) (by omega) (by omega) (by omega)], fun f f6 f2 => by rw [w3 f f6 f2, e3 f f6], ?_, ?_, ?_, ?_⟩
      · unfold spRelW; rw [if_pos a]; exact w1
      · unfold spRelW; rw [if_pos a]; exact w4
      · unfold spRelW; rw [if_pos a]; exact w5
      · unfold spRelK; rw [if_pos a]; exact w6
      · unfold spRelW; rw [if_pos a, List.length_cons]; omega
    · rw [if_neg a] at hB
      obtain ⟨h1, hh1⟩ : ∃ h1 : jH, h1 = jup (jup h (ow + 1) d.length e.1) (ow + 2) d.length e.2 := ⟨_, rfl⟩
      rw [← hh1] at hB
      have o1 : ∀ k, k ≠ d.length → h1 (ow + 1) k = h (ow + 1) k := fun k hk => by rw [hh1, jup_ne (by omega), ju_ne hk]
      have o2 : ∀ k, k ≠ d.length → h1 (ow + 2) k = h (ow + 2) k := fun k hk => by rw [hh1, ju_ne hk, jup_ne (by omega)]
      have hda1 : CWa h1 ow 0 (d ++ [e]) := by
        intro k e' he'
        rw [Nat.zero_add]
        rw [List.getElem?_append] at he'
        split at he'
        · rename_i hk2
          have := hda k e' he'
          rw [Nat.zero_add] at this
          rw [o1 k (by omega), o2 k (by omega)]
          exact this
        · rename_i hk2
          have hkl : k = d.length := by
            by_cases z : k = d.length
            · exact z
            · obtain ⟨t, ht⟩ : ∃ t, k - d.length = t + 1 := ⟨k - d.length - 1, by omega⟩
              rw [ht] at he'; cases he'
          subst hkl
          rw [Nat.sub_self] at he'
          have he2 : e = e' := Option.some.inj he'
          rw [hh1, jup_ne (by omega), ju_eq, ju_eq, he2]
          exact ⟨rfl, rfl⟩
      have hs1 : CWa h1 ow (i + 1) r := by
        intro k e' he'
        rw [o1 _ (by omega), o2 _ (by omega), show i + 1 + k = i + (k + 1) by omega]
        exact hs (k + 1) e' he'
      have hk1 : CKn h1 ow kp n := by
        unfold CKn
        rw [hh1, jup_ne (by omega), jup_ne (by omega), jup_ne (by omega), jup_ne (by omega), jup_ne (by omega), jup_ne (by omega), jup_ne (by omega), jup_ne (by omega)]
        exact hk
      obtain ⟨h', n', w1, w2, w3, w4, w5, w6, w7⟩ := ih (d ++ [e]) kp n (i + 1) h1 (by omega) (by rw [List.length_append]; simp; omega) hda1 hs1 hk1 (by omega)
      have el : d ++ [e] ++ spRelW num r = d ++ spRelW num (e :: r) := by conv => rhs; unfold spRelW; rw [if_neg a]
                                                                          simp
      rw [el] at w1 w4 w5
      rw [show ((d ++ [e]).length : Int) = ((d.length + 1 : Nat) : Int) by simp] at w1
      refine ⟨h', n', (jloop_l hB).trans w1, fun q hq => by rw [w2 q hq, hh1, jup_ne (by omega), jup_ne (by omega)], fun f f6 f2 => by rw [w3 f f6 f2, hh1, jup_ne (by omega), jup_ne (by omega)], w4, w5, ?_, ?_⟩
      · unfold spRelK; rw [if_neg a]; exact w6
      · unfold spRelW; rw [if_neg a, List.length_cons, List.length_cons]; omega
def CW (h : jH) (ow : Nat) (w : spWt) : Prop := h ow 2 = (w.length : Int) ∧ w.length ≤ 8 ∧ CWa h ow 0 w
theorem c_rel {h : jH} {w : spWt} {kp : spKp} {n : Nat} {num tick : Int} (hw : CW h ow w) (hk : CKn h ow kp n) (hn : n + w.length ≤ 1000000) :
    ∃ h' n', Wa_release h ow num tick = some ((w.length : Int) - ((spRelW num w).length : Int), h') ∧ (∀ q, (q < ow ∨ ow + 5 < q) → h' q = h q) ∧ (∀ f, f ≠ 6 → f ≠ 2 → h' ow f = h ow f) ∧ CW h' ow (spRelW num w) ∧ CKn h' ow (spRelK tick num w kp) n' ∧ n' + (spRelW num w).length = n + w.length := by
  unfold Wa_release
  rw [hw.1]
  obtain ⟨h', n', w1, w2, w3, w4, w5, w6, w7⟩ := c_relL (ow := ow) (num := num) (tick := tick) hw.2.1 w [] kp n 0 h (by omega) (by simp) (fun k e he => by cases he) hw.2.2 hk hn
  rw [List.nil_append] at w1 w4 w5
  exact ⟨h', n', w1, w2, w3, ⟨w4, by have := spRelW_len (num := num) w; have := hw.2.1; omega, w5⟩, w6, w7⟩
end CWT
