/-! formulas: the class tells what the spec tells -/
def CFm (h : jH) (fo : Nat) (cs : List Int) : Prop := h fo 1 = (cs.length : Int) ∧ cs.length ≤ 1600 ∧ ∀ (i : Nat) (c : Int), cs[i]? = some c → h (fo + 1) i = spTr c
def CFa (f : Nat → Int) (al : Int → Bool) (e : spEnv) : Prop := (∀ k : Nat, k ≤ 8 → al (40 + (k : Int)) = true → f k = e.1 k) ∧ (al 60 = true → ∀ x : Int, (0 ≤ x ∧ x < 128 → f (32 + x.toNat) = e.2.1 x) ∧ (¬ (0 ≤ x ∧ x < 128) → e.2.1 x = 0)) ∧ (al 61 = true → ∀ x : Int, (0 ≤ x ∧ x < 16 → f (16 + x.toNat) = e.2.2 x) ∧ (¬ (0 ≤ x ∧ x < 16) → e.2.2 x = 0))
/-- only the formula's stack is changed -/
def CEf (fo : Nat) (h h' : jH) : Prop := (∀ q, q ≠ fo → q ≠ fo + 3 → h' q = h q) ∧ ∀ k, k ≠ 4 → h' fo k = h fo k
theorem CEf.rf {fo : Nat} {h : jH} : CEf fo h h := ⟨fun _ _ _ => rfl, fun _ _ => rfl⟩
theorem CEf.tr {fo : Nat} {h h1 h2 : jH} (a : CEf fo h h1) (b : CEf fo h1 h2) : CEf fo h h2 := ⟨fun q x y => (b.1 q x y).trans (a.1 q x y), fun k x => (b.2 k x).trans (a.2 k x)⟩
section EVC
variable {fo : Nat}
theorem c_push {h : jH} {st : List Int} {v : Int} (h4 : h fo 4 = (st.length : Int)) (hc : CSt (h (fo + 3)) st) (hl : st.length < 64) : ∃ h', Fo_push h fo v = some h' ∧ CEf fo h h' ∧ h' fo 4 = ((v :: st).length : Int) ∧ CSt (h' (fo + 3)) (v :: st) := by
  unfold Fo_push
  rw [h4, g_putN hl]
  simp only [Option.bind_some]
  rw [jup_ne (show fo ≠ fo + 3 by omega), h4, pw (by omega) (by omega)]
  refine ⟨_, rfl, ⟨fun q q1 q2 => by rw [jup_ne q1, jup_ne q2], fun k hk => by rw [ju_ne hk, jup_ne (by omega)]⟩, by rw [ju_eq, List.length_cons]; omega, ?_, ?_⟩
  · rw [jup_ne (by omega), ju_eq]
  · refine hc.up (fun i hi => ?_)
    rw [jup_ne (by omega), ju_ne (by omega)]
theorem c_pop {h : jH} {st : List Int} {x : Int} (h4 : h fo 4 = ((x :: st).length : Int)) (hc : CSt (h (fo + 3)) (x :: st)) (hl : st.length < 64) : ∃ h', Fo_pop h fo = some (x, h') ∧ CEf fo h h' ∧ h' fo 4 = (st.length : Int) ∧ CSt (h' (fo + 3)) st := by
  rw [List.length_cons] at h4
  unfold Fo_pop
  rw [ju_eq, h4, pw (by omega) (by omega), show ((st.length + 1 : Nat) : Int) - 1 = (st.length : Int) by omega, g_cellN hl]
  refine ⟨_, by rw [jup_ne (by omega), hc.1]; rfl, ⟨fun q q1 q2 => jup_ne q1, fun k hk => ju_ne hk⟩, ju_eq, ?_⟩
  rw [jup_ne (by omega)]
  exact hc.2
theorem spTr_num {c : Int} (h : 1000 ≤ c) : spTr c = c - 1000 := by unfold spTr; rw [if_pos h]
theorem spTr_part {c : Int} (h : 40 ≤ c) (h2 : c < 60) : spTr c = c - 40 + 10000 := by unfold spTr; rw [if_neg (by omega), if_neg (by omega), if_neg (by omega), if_pos h]
/-- a code is told -/
theorem c_code {h : jH} {cs : List Int} {al : Int → Bool} {e : spEnv} {i : Nat} {c : Int} {t t' : List Bool} {st : List Int} (hm : CFm h fo cs) (hf : CFa (h (fo + 2)) al e) (hi : cs[i]? = some c) (ht : spTy al c t = some t') (hv : spVals t st) (he : spEok e) (hlt : t.length ≤ 64) (h4 : h fo 4 = (st.length : Int)) (hc : CSt (h (fo + 3)) st) :
    ∃ h', Fo_evaluate_B7 h fo (i : Int) = some (.inl (((i + 1 : Nat) : Int), h')) ∧ CEf fo h h' ∧ h' fo 4 = ((spStp e c st).length : Int) ∧ CSt (h' (fo + 3)) (spStp e c st) := by
  have hilt : i < cs.length := (List.getElem?_eq_some_iff.mp hi).1
  have hlen := spVals_len hv
  have h1600 := hm.2.1
  have hcode := hm.2.2 i c hi
  -- the code, whatever it is
  have hB : Fo_evaluate_B7 h fo (i : Int) = (if spTr c < 10000 then Option.bind (Fo_push h fo (spTr c)) (fun b4 => some (.inl (((i + 1 : Nat) : Int), b4))) else (if spTr c < 20000 then Option.bind (G_cell h (fo + 2) 160 (wr (spTr c - 10000))) (fun b6 => Option.bind (Fo_push h fo b6) (fun b7 => some (.inl (((i + 1 : Nat) : Int), b7)))) else (if spTr c < 30000 then Option.bind (Fo_pop h fo) (fun b9 => Option.bind (Fo_ofOne b9.2 fo (spTr c) b9.1) (fun b10 => Option.bind (Fo_push b9.2 fo b10) (fun b11 => some (.inl (((i + 1 : Nat) : Int), b11))))) else Option.bind (Fo_pop h fo) (fun b12 => Option.bind (Fo_pop b12.2 fo) (fun b13 => Option.bind (Fo_ofTwo fo (spTr c) b13.1 b12.1) (fun b14 => Option.bind (Fo_push b13.2 fo b14) (fun b15 => some (.inl (((i + 1 : Nat) : Int), b15))))))))) := by
    unfold Fo_evaluate_B7
    rw [hm.1, if_pos (by omega), g_cellN (by omega), hcode]
    simp only [Option.bind_some]
    rw [pw (by omega) (by omega)]
    rfl
  rw [hB]
  have push : ∀ (g : jH) (s : List Int) (v : Int), g fo 4 = (s.length : Int) → CSt (g (fo + 3)) s → s.length < 64 → CEf fo h g → ∃ h', Option.bind (Fo_push g fo v) (fun b4 => (some (.inl (((i + 1 : Nat) : Int), b4)) : Option ((Int × jH) ⊕ (Int × jH)))) = some (.inl (((i + 1 : Nat) : Int), h')) ∧ CEf fo h h' ∧ h' fo 4 = ((v :: s).length : Int) ∧ CSt (h' (fo + 3)) (v :: s) := by
    intro g s v g1 g2 g3 g4
    obtain ⟨h', e1, e2, e3, e4⟩ := c_push (v := v) g1 g2 g3
    exact ⟨h', by rw [e1]; rfl, g4.tr e2, e3, e4⟩
  have one : ∀ (x y : Int) (r : List Int), st = x :: r → (∀ g : jH, g (fo + 2) = h (fo + 2) → Fo_ofOne g fo (spTr c) x = some y) → ∃ h', Option.bind (Fo_pop h fo) (fun b9 => Option.bind (Fo_ofOne b9.2 fo (spTr c) b9.1) (fun b10 => Option.bind (Fo_push b9.2 fo b10) (fun b11 => (some (.inl (((i + 1 : Nat) : Int), b11)) : Option ((Int × jH) ⊕ (Int × jH)))))) = some (.inl (((i + 1 : Nat) : Int), h')) ∧ CEf fo h h' ∧ h' fo 4 = ((y :: r).length : Int) ∧ CSt (h' (fo + 3)) (y :: r) := by
    intro x y r hst hone
    rw [hst] at h4 hc hlen
    rw [List.length_cons] at hlen
    obtain ⟨g, e1, e2, e3, e4⟩ := c_pop h4 hc (by omega)
    rw [e1]
    simp only [Option.bind_some]
    rw [hone g (e2.1 _ (by omega) (by omega))]
    simp only [Option.bind_some]
    exact push g r y e3 e4 (by omega) e2
  have two : ∀ (b a y : Int) (r : List Int), st = b :: a :: r → Fo_ofTwo fo (spTr c) a b = some y → ∃ h', Option.bind (Fo_pop h fo) (fun b12 => Option.bind (Fo_pop b12.2 fo) (fun b13 => Option.bind (Fo_ofTwo fo (spTr c) b13.1 b12.1) (fun b14 => Option.bind (Fo_push b13.2 fo b14) (fun b15 => (some (.inl (((i + 1 : Nat) : Int), b15)) : Option ((Int × jH) ⊕ (Int × jH))))))) = some (.inl (((i + 1 : Nat) : Int), h')) ∧ CEf fo h h' ∧ h' fo 4 = ((y :: r).length : Int) ∧ CSt (h' (fo + 3)) (y :: r) := by
    intro b a y r hst hone
    rw [hst] at h4 hc hlen
    rw [List.length_cons, List.length_cons] at hlen
    obtain ⟨g, e1, e2, e3, e4⟩ := c_pop h4 hc (by rw [List.length_cons]; omega)
    obtain ⟨g2, f1, f2, f3, f4⟩ := c_pop e3 e4 (by omega)
    rw [e1]
    simp only [Option.bind_some]
    rw [f1]
    simp only [Option.bind_some]
    rw [hone]
    simp only [Option.bind_some]
    exact push g2 r y f3 f4 (by omega) (e2.tr f2)
  unfold spTy at ht
  unfold spStp
  by_cases c1 : 1000 ≤ c
  · rw [if_pos c1] at ht ⊢
    split at ht
    · rename_i c2
      rw [spTr_num c1, if_pos (by omega)]
      exact push h st _ h4 hc (by omega) CEf.rf
    · cases ht
  rw [if_neg c1] at ht ⊢
  by_cases c2 : 60 ≤ c
  · rw [if_pos c2] at ht ⊢
    split at ht
    · rename_i ca
      split at ht
      · cases st with
        | nil => exact hv.elim
        | cons x r =>
          have hx := hv.1
          unfold spVal at hx
          rw [if_neg (by decide)] at hx
          have hcc : c = 60 ∨ c = 61 := by omega
          rcases hcc with h | h
          · subst h
            rw [show spTr 60 = 20001 by simp [spTr]] at one ⊢
            rw [if_neg (by decide), if_neg (by decide), if_pos (by decide)]
            refine one x _ r rfl (fun g hg => ?_)
            have ho := hf.2.1 ca.2 x
            unfold Fo_ofOne Fo_ofOne_p63
            simp only [Int.reduceEq, ↓reduceIte]
            by_cases a : x < 0
            · rw [if_pos a, ho.2 (by omega)]
            · by_cases b : x < 128
              · rw [if_neg a, if_pos b, pw (by omega) (by omega), show 32 + x = ((32 + x.toNat : Nat) : Int) by omega, g_cellN (by omega), hg, ho.1 (by omega)]
                rfl
              · rw [if_neg a, if_neg b, ho.2 (by omega)]
          · subst h
            rw [show spTr 61 = 20002 by simp [spTr]] at one ⊢
            rw [if_neg (by decide), if_neg (by decide), if_pos (by decide)]
            refine one x _ r rfl (fun g hg => ?_)
            have ho := hf.2.2 ca.2 x
            unfold Fo_ofOne Fo_ofOne_p89
            simp only [Int.reduceEq, ↓reduceIte]
            by_cases a : x < 0
            · rw [if_pos a, ho.2 (by omega)]
            · by_cases b : x < 16
              · rw [if_neg a, if_pos b, pw (by omega) (by omega), show 16 + x = ((16 + x.toNat : Nat) : Int) by omega, g_cellN (by omega), hg, ho.1 (by omega)]
                rfl
              · rw [if_neg a, if_neg b, ho.2 (by omega)]
      · cases ht
    · cases ht
  rw [if_neg c2] at ht ⊢
  by_cases c3 : 40 ≤ c
  · rw [if_pos c3] at ht ⊢
    split at ht
    · rename_i ca
      rw [spTr_part c3 (by omega), if_neg (by omega), if_pos (by omega), pw (by omega) (by omega)]
      obtain ⟨k, hk⟩ : ∃ k : Nat, c = 40 + (k : Int) := ⟨(c - 40).toNat, by omega⟩
      have := hf.1 k (by omega) (by rw [← hk]; exact ca.2.1)
      rw [show c - 40 + 10000 - 10000 = ((k : Nat) : Int) by omega, g_cellN (by omega), show (c - 40).toNat = k by omega, this]
      simp only [Option.bind_some]
      exact push h st _ h4 hc (by omega) CEf.rf
    · cases ht
  rw [if_neg c3] at ht ⊢
  by_cases c4 : c = 13
  · subst c4
    rw [if_pos rfl] at ht ⊢
    split at ht
    · rw [show spTr 13 = 1 by simp [spTr], if_pos (by decide)]
      exact push h st _ h4 hc (by omega) CEf.rf
    · cases ht
  rw [if_neg c4] at ht ⊢
  by_cases c5 : c = 12
  · subst c5
    rw [if_pos rfl] at ht ⊢
    split at ht
    · cases st with
      | nil => exact hv.elim
      | cons x r =>
        have hx := hv.1
        unfold spVal at hx
        rw [if_pos rfl] at hx
        rw [show spTr 12 = 20000 by simp [spTr]] at one ⊢
        rw [if_neg (by decide), if_neg (by decide), if_pos (by decide)]
        refine one x (1 - x) r rfl (fun g hg => ?_)
        unfold Fo_ofOne
        simp only [↓reduceIte]
        rcases hx with h | h <;> subst h <;> rfl
    · cases ht
  rw [if_neg c5] at ht ⊢
  have stk : ∀ {b1 b2 : Bool} {r : List Bool}, spVals (b1 :: b2 :: r) st → ∃ b a s, st = b :: a :: s ∧ spVal b1 b ∧ spVal b2 a ∧ spVals r s := by
    intro b1 b2 r hv
    match st, hv with
    | [], hv => exact hv.elim
    | [x], hv => exact hv.2.elim
    | b :: a :: s, hv => exact ⟨b, a, s, rfl, hv.1, hv.2.1, hv.2.2⟩
  have tr3 : ∀ c : Int, 1 ≤ c → c ≤ 11 → 30000 ≤ spTr c := by
    intro c a b
    unfold spTr
    rw [if_neg (by omega), if_neg (by omega), if_neg (by omega), if_neg (by omega), if_neg (by omega), if_neg (by omega)]
    repeat' split
    all_goals omega
  by_cases c6 : 1 ≤ c ∧ c ≤ 9
  · have hty : ∃ r, t = false :: false :: r := by
      by_cases d : c ≤ 6
      · rw [if_pos ⟨c6.1, d⟩] at ht
        split at ht
        · exact ⟨_, rfl⟩
        · cases ht
      · rw [if_neg (by omega), if_pos (by omega)] at ht
        split at ht
        · exact ⟨_, rfl⟩
        · cases ht
    obtain ⟨r, rfl⟩ := hty
    obtain ⟨b, a, s, rfl, v1, v2, v3⟩ := stk hv
    unfold spVal at v1 v2
    rw [if_neg (by decide)] at v1 v2
    have := tr3 c c6.1 (by omega)
    rw [if_neg (by omega), if_neg (by omega), if_neg (by omega)]
    exact two b a _ s rfl (g_two c6 v2 v1)
  · rw [if_neg (by omega), if_neg (by omega)] at ht
    split at ht
    · rename_i c8
      split at ht
      · obtain ⟨b, a, s, rfl, v1, v2, v3⟩ := stk hv
        unfold spVal at v1 v2
        rw [if_pos rfl] at v1 v2
        have := tr3 c (by omega) (by omega)
        rw [if_neg (by omega), if_neg (by omega), if_neg (by omega)]
        exact two b a _ s rfl (g_two2 c8 v2 v1)
      · cases ht
    · cases ht
theorem spTys_len {al : Int → Bool} {c : Int} {t t' : List Bool} (h : spTy al c t = some t') (ht : t.length ≤ 64) : t'.length ≤ 64 := by
  unfold spTy at h
  have hnone : ∀ {x : List Bool}, (none : Option (List Bool)) = some x → False := fun h => by cases h
  repeat' (split at h)
  all_goals first
    | exact (hnone h).elim
    | (rw [← Option.some.inj h]; simp at ht ⊢; omega)
theorem c_evL {cs : List Int} {al : Int → Bool} {e : spEnv} {b : Bool} (he : spEok e) : ∀ (m i : Nat) (h : jH) (t : List Bool) (st : List Int), i + m = cs.length → CFm h fo cs → CFa (h (fo + 2)) al e → spTys al (cs.drop i) t = some [b] → spVals t st → t.length ≤ 64 → h fo 4 = (st.length : Int) → CSt (h (fo + 3)) st →
    ∃ v h', Fo_evaluate_L7 h fo (i : Int) = some (v, h') ∧ spRun e (cs.drop i) st = [v] ∧ CEf fo h h' ∧ spVal b v := by
  unfold Fo_evaluate_L7
  intro m
  induction m with
  | zero =>
    intro i h t st hi hm hf ht hv hlt h4 hc
    rw [List.drop_of_length_le (by omega)] at ht ⊢
    have ht2 : t = [b] := Option.some.inj ht
    subst ht2
    match st, hv with
    | [], hv => exact hv.elim
    | _ :: _ :: _, hv => exact hv.2.elim
    | [v], hv =>
      obtain ⟨h', e1, e2, e3, e4⟩ := c_pop (st := []) h4 hc (by decide)
      refine ⟨v, h', jloop_r ?_, rfl, e2, hv.1⟩
      show Fo_evaluate_B7 h fo (i : Int) = _
      unfold Fo_evaluate_B7
      rw [hm.1, if_neg (by omega), e1]
      rfl
  | succ m ih =>
    intro i h t st hi hm hf ht hv hlt h4 hc
    have hlt2 : i < cs.length := by omega
    rw [List.drop_eq_getElem_cons hlt2] at ht ⊢
    unfold spTys at ht
    split at ht
    · cases ht
    · rename_i t' ht'
      obtain ⟨h1, e1, e2, e3, e4⟩ := c_code hm hf (List.getElem?_eq_getElem hlt2) ht' hv he hlt h4 hc
      have hm1 : CFm h1 fo cs := by
        unfold CFm
        rw [e2.2 1 (by decide), e2.1 (fo + 1) (by omega) (by omega)]
        exact hm
      obtain ⟨v, h', w1, w2, w3, w4⟩ := ih (i + 1) h1 t' _ (by omega) hm1 (by rw [e2.1 (fo + 2) (by omega) (by omega)]; exact hf) ht (spStp_ok ht' hv he) (spTys_len ht' hlt) e3 e4
      exact ⟨v, h', (jloop_l e1).trans w1, w2, e2.tr w3, w4⟩
/-- what a formula tells -/
def spTold (e : spEnv) (cs : List Int) : Int := (spRun e cs []).headD 0
theorem c_eval {h : jH} {cs : List Int} {al : Int → Bool} {e : spEnv} {b : Bool} (he : spEok e) (hm : CFm h fo cs) (hf : CFa (h (fo + 2)) al e) (ht : spTys al cs [] = some [b]) : ∃ h', Fo_evaluate h fo = some (spTold e cs, h') ∧ CEf fo h h' ∧ spVal b (spTold e cs) := by
  unfold Fo_evaluate
  have hm1 : CFm (jup h fo 4 0) fo cs := by
    unfold CFm
    rw [ju_ne (by decide), jup_ne (by omega)]
    exact hm
  obtain ⟨v, h', e1, e2, e3, e4⟩ := c_evL (al := al) (b := b) he cs.length 0 (jup h fo 4 0) [] [] (by omega) hm1 (by rw [jup_ne (by omega)]; exact hf) (by rw [List.drop_zero]; exact ht) trivial (by decide) ju_eq trivial
  rw [List.drop_zero] at e2
  have hv : spTold e cs = v := by unfold spTold; rw [e2]; rfl
  rw [hv]
  exact ⟨h', e1, ⟨fun q q1 q2 => by rw [e3.1 q q1 q2, jup_ne q1], fun k hk => by rw [e3.2 k hk, ju_ne hk]⟩, e4⟩
end EVC
