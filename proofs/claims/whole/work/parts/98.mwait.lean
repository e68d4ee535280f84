/-! the reference's waiters -/
def spAw (w : spWt) (x : Int) : Int := match w with
  | [] => -1
  | e :: r => if e.1 = x then e.2 else spAw r x
def MWr (w : Nat → Int) (i : Nat) (l : spWt) : Prop := ∀ (k : Nat) (e : Int × Int), l[k]? = some e → w (176 + (i + k)) = e.1
def MKp (w : Nat → Int) (kp : spKp) : Prop := w 2244 = (kp.length : Int) ∧ kp.length ≤ 40 ∧ ∀ (k : Nat) (e : Int × Int × Int), kp[k]? = some e → w (2245 + 3 * k) = e.1 ∧ w (2245 + 3 * k + 1) = e.2.1 ∧ w (2245 + 3 * k + 2) = e.2.2
def spWhos (w : spWt) : Prop := (∀ e ∈ w, 0 ≤ e.1 ∧ e.1 < 8 ∧ 0 ≤ e.2) ∧ (w.map (fun e => e.1)).Nodup
theorem spAw_app {d : spWt} {r : spWt} {x : Int} (h : ∀ e ∈ d, e.1 ≠ x) : spAw (d ++ r) x = spAw r x := by
  induction d with
  | nil => rfl
  | cons e d ih =>
    show (if e.1 = x then e.2 else spAw (d ++ r) x) = _
    rw [if_neg (h e List.mem_cons_self), ih (fun e he => h e (List.mem_cons_of_mem _ he))]
theorem spAw_no {r : spWt} {x : Int} (h : ∀ e ∈ r, e.1 ≠ x) : spAw r x = -1 := by
  have := spAw_app (r := []) h
  rw [List.append_nil] at this
  exact this
section MWT
variable {o : Nat}
theorem m_keepP {h : jH} {kp : spKp} {a b c : Int} {m : Nat} (hk1 : h (o + 33) 2244 = ((m + 1 : Nat) : Int)) (hm : m < 40) (h0 : h (o + 33) 0 = a) : ∃ h', M_isKept_p77 h o b c = some h' ∧ (∀ q, q ≠ o + 33 → h' q = h q) ∧ ∀ i, h' (o + 33) i = if i = 2245 + 3 * m then a else if i = 2245 + 3 * m + 1 then b else if i = 2245 + 3 * m + 2 then c else h (o + 33) i := by
  unfold M_isKept_p77
  rw [if_pos (by decide), if_pos (by decide), show ((2244 : Int)).toNat = 2244 from rfl, show ((0 : Int)).toNat = 0 from rfl, hk1, h0]
  rw [pw (x := 3 * ((m + 1 : Nat) : Int)) (by omega) (by omega), pw (x := 2245 + 3 * ((m + 1 : Nat) : Int)) (by omega) (by omega), pw (x := 2245 + 3 * ((m + 1 : Nat) : Int) - 3) (by omega) (by omega), pw (x := 2245 + 3 * ((m + 1 : Nat) : Int) - 3 + 1) (by omega) (by omega), pw (x := 2245 + 3 * ((m + 1 : Nat) : Int) - 3 + 2) (by omega) (by omega)]
  rw [show (2245 + 3 * ((m + 1 : Nat) : Int) - 3).toNat = 2245 + 3 * m by omega, show (2245 + 3 * ((m + 1 : Nat) : Int) - 3 + 1).toNat = 2245 + 3 * m + 1 by omega, show (2245 + 3 * ((m + 1 : Nat) : Int) - 3 + 2).toNat = 2245 + 3 * m + 2 by omega]
  rw [if_pos (by omega), if_pos (by omega), if_pos (by omega)]
  refine ⟨_, rfl, fun q hq => by rw [jup_ne hq, jup_ne hq, jup_ne hq], fun i => ?_⟩
  rw [ju_if, ju_if, ju_if]
  by_cases a1 : i = 2245 + 3 * m
  · rw [if_neg (by omega), if_neg (by omega), if_pos a1, if_pos a1]
  · by_cases a2 : i = 2245 + 3 * m + 1
    · rw [if_neg (by omega), if_pos a2, if_neg a1, if_pos a2]
    · by_cases a3 : i = 2245 + 3 * m + 2
      · rw [if_pos a3, if_neg a1, if_neg a2, if_pos a3]
      · rw [if_neg a3, if_neg a2, if_neg a1, if_neg a1, if_neg a2, if_neg a3]
/-- what may be changed where one is kept -/
def MKf (o : Nat) (h h' : jH) : Prop := (∀ q, q ≠ o → q ≠ o + 33 → h' q = h q) ∧ (∀ f, f ≠ 53 → h' o f = h o f) ∧ ∀ i, (i < 2244 ∨ 2365 ≤ i) → h' (o + 33) i = h (o + 33) i
theorem m_kept {h : jH} {kp : spKp} {a b c : Int} (hk : MKp (h (o + 33)) kp) (h0 : h (o + 33) 0 = a) : ∃ h', M_isKept h o b c = some h' ∧ MKf o h h' ∧ h' o 53 = wr (h o 53 + 1) ∧ (h o 56 = 0 → MKp (h' (o + 33)) (spKeep kp (a, b, c))) ∧ (h o 56 ≠ 0 → h' (o + 33) = h (o + 33)) := by
  obtain ⟨k1, k2, k3⟩ := hk
  unfold M_isKept
  rw [ju_ne (show (56 : Nat) ≠ 53 by decide)]
  by_cases th : h o 56 = 0
  · rw [if_pos th, if_pos (by decide), show ((2244 : Int)).toNat = 2244 from rfl, jup_ne (show o + 33 ≠ o by omega), k1]
    by_cases hl : kp.length < 40
    · rw [if_neg (by omega), if_pos (by decide), if_pos (by decide), pw (x := (kp.length : Int) + 1) (by omega) (by omega)]
      obtain ⟨h', e1, e2, e3⟩ := m_keepP (h := jup (jup h o 53 (wr (h o 53 + 1))) (o + 33) 2244 ((kp.length : Int) + 1)) (o := o) (kp := kp) (a := a) (b := b) (c := c) (m := kp.length) (by rw [ju_eq]; omega) hl (by rw [ju_ne (by omega), jup_ne (by omega), h0])
      have w : ∀ i, h' (o + 33) i = if i = 2245 + 3 * kp.length then a else if i = 2245 + 3 * kp.length + 1 then b else if i = 2245 + 3 * kp.length + 2 then c else if i = 2244 then ((kp.length : Int) + 1) else h (o + 33) i := fun i => by rw [e3 i, ju_if, jup_ne (show o + 33 ≠ o by omega)]
      refine ⟨h', e1, ⟨fun q q1 q2 => by rw [e2 q q2, jup_ne q2, jup_ne q1], fun f hf => by rw [e2 o (by omega), jup_ne (by omega), ju_ne hf], fun i hi => by rw [w i, if_neg (by omega), if_neg (by omega), if_neg (by omega), if_neg (by omega)]⟩, by rw [e2 o (by omega), jup_ne (by omega), ju_eq], fun _ => ?_, fun h => absurd th h⟩
      unfold spKeep
      rw [if_pos hl]
      refine ⟨?_, by rw [List.length_append]; simp; omega, fun k e he => ?_⟩
      · rw [w, if_neg (by omega), if_neg (by omega), if_neg (by omega), if_pos rfl, List.length_append]; rfl
      · rw [List.getElem?_append] at he
        split at he
        · rename_i hk
          have := k3 k e he
          rw [w, w, w, if_neg (by omega), if_neg (by omega), if_neg (by omega), if_neg (by omega), if_neg (by omega), if_neg (by omega), if_neg (by omega), if_neg (by omega), if_neg (by omega), if_neg (by omega), if_neg (by omega), if_neg (by omega)]
          exact this
        · rename_i hk
          have hkl : k = kp.length := by
            by_cases z : k = kp.length
            · exact z
            · obtain ⟨t, ht⟩ : ∃ t, k - kp.length = t + 1 := ⟨k - kp.length - 1, by omega⟩
              rw [ht] at he; cases he
          subst hkl
          rw [Nat.sub_self] at he
          have he2 : (a, b, c) = e := Option.some.inj he
          rw [w, w, w, if_pos rfl, if_neg (by omega), if_pos rfl, if_neg (by omega), if_neg (by omega), if_pos rfl, ← he2]
          exact ⟨rfl, rfl, rfl⟩
    · have hl40 : kp.length = 40 := by omega
      rw [if_pos (by omega)]
      unfold M_isKept_L35
      obtain ⟨h1, hh1⟩ : ∃ h1 : jH, h1 = jup h o 53 (wr (h o 53 + 1)) := ⟨_, rfl⟩
      rw [← hh1]
      obtain ⟨⟨k, g⟩, ⟨p1, p2, p3⟩, p4⟩ := jloop_k (f := fun s : (Int × jH) => M_isKept_B35 s.2 o b c s.1) (fun k s => s.1 = ((2245 + k : Nat) : Int) ∧ (∀ q, q ≠ o + 33 → s.2 q = h1 q) ∧ ∀ i, s.2 (o + 33) i = if 2245 ≤ i ∧ i < 2245 + k then h1 (o + 33) (i + 3) else h1 (o + 33) i) 117 (fun k s hk hp => by
        obtain ⟨x, g⟩ := s
        obtain ⟨q1, q2, q3⟩ := hp
        dsimp only at q1 q2 q3
        subst q1
        refine ⟨(((2245 + (k + 1) : Nat) : Int), jup g (o + 33) (2245 + k) (h1 (o + 33) (2245 + k + 3))), ?_, rfl, fun q hq => (jup_ne hq).trans (q2 q hq), fun i => ?_⟩
        · show M_isKept_B35 g o b c ((2245 + k : Nat) : Int) = _
          unfold M_isKept_B35
          rw [if_pos (by omega), pw (by omega) (by omega), if_pos (by omega), if_pos (by omega), pw (by omega) (by omega), show (((2245 + k : Nat) : Int) + 3).toNat = 2245 + k + 3 by omega, Int.toNat_natCast, q3, if_neg (by omega)]
          rfl
        · show jup g (o + 33) (2245 + k) (h1 (o + 33) (2245 + k + 3)) (o + 33) i = _
          rw [ju_if, q3 i]
          by_cases z : i = 2245 + k
          · rw [if_pos z, if_pos (by omega), z]
          · rw [if_neg z]
            by_cases z2 : 2245 ≤ i ∧ i < 2245 + k
            · rw [if_pos z2, if_pos (by omega)]
            · rw [if_neg z2, if_neg (by omega)]) (k := 0) (s := ((2245 : Int), h1)) (by omega) ⟨rfl, fun _ _ => rfl, fun i => by rw [if_neg (by omega)]⟩
      dsimp only at p1 p2 p3
      subst p1
      rw [p4]
      have hw1 : h1 (o + 33) = h (o + 33) := by rw [hh1, jup_ne (by omega)]
      obtain ⟨h', e1, e2, e3⟩ := m_keepP (h := g) (o := o) (kp := kp) (a := a) (b := b) (c := c) (m := 39) (by rw [p3, if_neg (by omega), hw1, k1, hl40]) (by omega) (by rw [p3, if_neg (by omega), hw1, h0])
      refine ⟨h', ?_, ⟨fun q q1 q2 => by rw [e2 q q2, p2 q q2, hh1, jup_ne q1], fun f hf => by rw [e2 o (by omega), p2 o (by omega), hh1, ju_ne hf], fun i hi => by rw [e3 i, if_neg (by omega), if_neg (by omega), if_neg (by omega), p3, if_neg (by omega), hw1]⟩, by rw [e2 o (by omega), p2 o (by omega), hh1, ju_eq], fun _ => ?_, fun h => absurd th h⟩
      · refine (jloop_x (X := M_isKept_p77 g o b c) ?_).trans e1
        show M_isKept_B35 g o b c 2362 = _
        unfold M_isKept_B35
        rw [if_neg (by omega)]
      · unfold spKeep
        rw [if_neg hl]
        have hd : (kp.drop 1).length = 39 := by rw [List.length_drop]; omega
        refine ⟨?_, by rw [List.length_append, hd]; simp, fun k e he => ?_⟩
        · rw [e3, if_neg (by omega), if_neg (by omega), if_neg (by omega), p3, if_neg (by omega), hw1, k1, List.length_append, hd, hl40]; rfl
        · rw [List.getElem?_append] at he
          split at he
          · rename_i hk
            rw [hd] at hk
            rw [List.getElem?_drop] at he
            have := k3 (1 + k) e he
            rw [e3, e3, e3, if_neg (by omega), if_neg (by omega), if_neg (by omega), if_neg (by omega), if_neg (by omega), if_neg (by omega), if_neg (by omega), if_neg (by omega), if_neg (by omega), p3, p3, p3, if_pos (by omega), if_pos (by omega), if_pos (by omega), hw1, show 2245 + 3 * k + 3 = 2245 + 3 * (1 + k) by omega, show 2245 + 3 * k + 1 + 3 = 2245 + 3 * (1 + k) + 1 by omega, show 2245 + 3 * k + 2 + 3 = 2245 + 3 * (1 + k) + 2 by omega]
            exact this
          · rename_i hk
            rw [hd] at hk he
            have hkl : k = 39 := by
              by_cases z : k = 39
              · exact z
              · obtain ⟨t, ht⟩ : ∃ t, k - 39 = t + 1 := ⟨k - 39 - 1, by omega⟩
                rw [ht] at he; cases he
            subst hkl
            have he2 : (a, b, c) = e := Option.some.inj he
            rw [e3, e3, e3, if_pos rfl, if_neg (by omega), if_pos rfl, if_neg (by omega), if_neg (by omega), if_pos rfl, ← he2]
            exact ⟨rfl, rfl, rfl⟩
  · rw [if_neg th]
    exact ⟨_, rfl, ⟨fun q q1 _ => jup_ne q1, fun f hf => ju_ne hf, fun i _ => by rw [jup_ne (by omega)]⟩, ju_eq, fun h => absurd h th, fun _ => jup_ne (by omega)⟩
/-- what a release may change -/
def MRf (o : Nat) (h h' : jH) : Prop := (∀ q, q ≠ o → q ≠ o + 33 → h' q = h q) ∧ (∀ f, f ≠ 53 → h' o f = h o f) ∧ ∀ i, i ≠ 12 → ¬ (176 ≤ i ∧ i < 192) → (i < 2244 ∨ 2365 ≤ i) → h' (o + 33) i = h (o + 33) i
theorem m_relL {num tick : Int} {all th : Nat} (ha : all ≤ 8) (hth : th = 0 ∨ th = 1) : ∀ (suf d : spWt) (kp : spKp) (i : Nat) (h : jH), i + suf.length = all → d.length ≤ i → MWr (h (o + 33)) 0 d → MWr (h (o + 33)) i suf → (∀ x : Nat, x < 8 → h (o + 33) (184 + x) = spAw (d ++ suf) (x : Int)) → spWhos (d ++ suf) → MKp (h (o + 33)) kp → h (o + 33) 0 = tick → h o 56 = (th : Int) → jI32 (h o 53) →
    ∃ h', M_releases_L13 h o num (d.length : Int) (all : Int) (i : Int) = some h' ∧ MRf o h h' ∧ h' (o + 33) 12 = ((d ++ spRelW num suf).length : Int) ∧ MWr (h' (o + 33)) 0 (d ++ spRelW num suf) ∧ (∀ x : Nat, x < 8 → h' (o + 33) (184 + x) = spAw (d ++ spRelW num suf) (x : Int)) ∧ spWhos (d ++ spRelW num suf) ∧ MKp (h' (o + 33)) (if th = 0 then spRelK tick num suf kp else kp) ∧ h' o 53 = wr (h o 53 + ((suf.length : Int) - ((spRelW num suf).length : Int))) := by
  unfold M_releases_L13
  intro suf
  induction suf with
  | nil =>
    intro d kp i h hi hd hda hs haw hwh hk h0 h56 h53
    rw [List.length_nil] at hi
    refine ⟨jup h (o + 33) 12 (d.length : Int), jloop_r ?_, ⟨fun q _ q2 => jup_ne q2, fun f _ => by rw [jup_ne (by omega)], fun j j1 _ _ => ju_ne j1⟩, ?_, ?_, ?_, ?_, ?_, ?_⟩
    · show M_releases_B13 h o num (d.length : Int) (all : Int) (i : Int) = _
      unfold M_releases_B13
      rw [if_neg (by omega), if_pos (by decide)]
      rfl
    · rw [ju_eq]; simp [spRelW]
    · intro k e he
      rw [ju_ne (by omega)]
      simp [spRelW] at he
      exact hda k e he
    · intro x hx
      rw [ju_ne (by omega)]
      simpa [spRelW] using haw x hx
    · simpa [spRelW] using hwh
    · have : MKp ((jup h (o + 33) 12 (d.length : Int)) (o + 33)) kp := by
        refine ⟨by rw [ju_ne (by omega)]; exact hk.1, hk.2.1, fun k e he => ?_⟩
        rw [ju_ne (by omega), ju_ne (by omega), ju_ne (by omega)]
        exact hk.2.2 k e he
      split
      · exact this
      · exact this
    · rw [jup_ne (by omega), show h o 53 + ((([] : spWt).length : Int) - ((spRelW num []).length : Int)) = h o 53 by simp [spRelW], wr_id h53]
  | cons e r ih =>
    intro d kp i h hi hd hda hs haw hwh hk h0 h56 h53
    rw [List.length_cons] at hi
    have hm : e ∈ d ++ e :: r := List.mem_append_right _ List.mem_cons_self
    have hw := hwh.1 e hm
    have hnd := hwh.2
    rw [List.map_append, List.map_cons] at hnd
    have hne : ∀ x ∈ d, x.1 ≠ e.1 := by
      intro x hx he
      have := (List.nodup_append.mp hnd).2.2
      exact this x.1 (List.mem_map_of_mem hx) e.1 List.mem_cons_self he
    have hner : ∀ x ∈ r, x.1 ≠ e.1 := by
      intro x hx he
      have := (List.nodup_cons.mp (List.nodup_append.mp hnd).2.1).1
      exact this (by rw [← he]; exact List.mem_map_of_mem hx)
    obtain ⟨who, hwho⟩ : ∃ who : Nat, e.1 = who := ⟨e.1.toNat, by omega⟩
    have hrow : h (o + 33) (176 + i) = (who : Int) := by
      have := hs 0 e rfl
      simp only [Nat.add_zero] at this
      rw [this, hwho]
    have hval : h (o + 33) (184 + who) = e.2 := by
      rw [haw who (by omega), spAw_app (fun x hx => by rw [← hwho]; exact hne x hx)]
      show (if e.1 = (who : Int) then e.2 else _) = e.2
      rw [if_pos hwho]
    have hB : M_releases_B13 h o num (d.length : Int) (all : Int) (i : Int) = (if e.2 = num then Option.bind (M_isKept (jup h (o + 33) (184 + who) (-1)) o (who : Int) num) (fun b7 => some (.inl ((d.length : Int), ((i + 1 : Nat) : Int), b7))) else some (.inl (((d.length + 1 : Nat) : Int), ((i + 1 : Nat) : Int), jup h (o + 33) (176 + d.length) (who : Int)))) := by
      unfold M_releases_B13
      rw [if_pos (by omega), pw (x := 176 + (i : Int)) (by omega) (by omega), if_pos (by omega), show (176 + (i : Int)).toNat = 176 + i by omega, hrow, pw (x := 184 + (who : Int)) (by omega) (by omega), if_pos (by omega), show (184 + (who : Int)).toNat = 184 + who by omega, hval, pw (x := (i : Int) + 1) (by omega) (by omega), pw (x := 176 + (d.length : Int)) (by omega) (by omega), show (176 + (d.length : Int)).toNat = 176 + d.length by omega, pw (x := (d.length : Int) + 1) (by omega) (by omega), if_pos (show (0 : Int) ≤ 176 + (d.length : Int) ∧ 176 + d.length < 2365 by omega), if_pos (show (0 : Int) ≤ 184 + (who : Int) ∧ 184 + who < 2365 by omega)]
      rfl
    by_cases a : e.2 = num
    · rw [if_pos a] at hB
      obtain ⟨g, hg⟩ : ∃ g : jH, g = jup h (o + 33) (184 + who) (-1) := ⟨_, rfl⟩
      rw [← hg] at hB
      have hkg : MKp (g (o + 33)) kp := by
        rw [hg]
        refine ⟨by rw [ju_ne (by omega)]; exact hk.1, hk.2.1, fun k e he => ?_⟩
        rw [ju_ne (by omega), ju_ne (by omega), ju_ne (by omega)]
        exact hk.2.2 k e he
      obtain ⟨h1, e1, e2, e3, e4, e5⟩ := m_kept (b := (who : Int)) (c := num) hkg (show g (o + 33) 0 = tick by rw [hg, ju_ne (by omega)]; exact h0)
      have g56 : g o 56 = (th : Int) := by rw [hg, jup_ne (by omega)]; exact h56
      rw [e1] at hB
      have f1 : MRf o h h1 := ⟨fun q q1 q2 => by rw [e2.1 q q1 q2, hg, jup_ne q2], fun f hf => by rw [e2.2.1 f hf, hg, jup_ne (by omega)], fun j j1 j2 j3 => by rw [e2.2.2 j j3, hg, ju_ne (by omega)]⟩
      have w1 : ∀ j, j < 2244 → h1 (o + 33) j = if j = 184 + who then -1 else h (o + 33) j := fun j hj => by rw [e2.2.2 j (Or.inl hj), hg, ju_if]
      have hkp1 : MKp (h1 (o + 33)) (if th = 0 then spKeep kp (tick, (who : Int), num) else kp) := by
        rcases hth with h | h
        · rw [if_pos h]; exact e4 (by rw [g56, h]; rfl)
        · rw [if_neg (by omega), e5 (by rw [g56, h]; decide)]; exact hkg
      have hwh1 : spWhos (d ++ r) := by
        refine ⟨fun x hx => hwh.1 x ?_, ?_⟩
        · rcases List.mem_append.mp hx with h | h
          · exact List.mem_append_left _ h
          · exact List.mem_append_right _ (List.mem_cons_of_mem _ h)
        · rw [List.map_append]
          have z := List.nodup_append.mp hnd
          refine List.nodup_append.mpr ⟨z.1, (List.nodup_cons.mp z.2.1).2, fun x hx y hy => z.2.2 x hx y (List.mem_cons_of_mem _ hy)⟩
      obtain ⟨h', x1, x2, x3, x4, x5, x6, x7, x8⟩ := ih d _ (i + 1) h1 (by omega) (by omega) (fun k e' he' => by
          have hkl := (List.getElem?_eq_some_iff.mp he').1
          rw [w1 _ (by omega), if_neg (by omega)]; exact hda k e' he') (fun k e' he' => by
          have hkl := (List.getElem?_eq_some_iff.mp he').1
          rw [w1 _ (by omega), if_neg (by omega), show 176 + (i + 1 + k) = 176 + (i + (k + 1)) by omega]; exact hs (k + 1) e' he') (fun x hx => by
          rw [w1 _ (by omega)]
          by_cases z : x = who
          · subst z
            rw [if_pos rfl, spAw_no]
            intro y hy
            rcases List.mem_append.mp hy with h | h
            · rw [← hwho]; exact hne y h
            · rw [← hwho]; exact hner y h
          · rw [if_neg (by omega), haw x hx]
            have key : ∀ d : spWt, spAw (d ++ e :: r) (x : Int) = spAw (d ++ r) (x : Int) := by
              intro d
              induction d with
              | nil =>
                show (if e.1 = (x : Int) then e.2 else spAw r (x : Int)) = _
                rw [if_neg (by omega)]; rfl
              | cons y d ih2 =>
                show (if y.1 = (x : Int) then y.2 else spAw (d ++ e :: r) (x : Int)) = (if y.1 = (x : Int) then y.2 else spAw (d ++ r) (x : Int))
                rw [ih2]
            exact key d) hwh1 hkp1 (by rw [w1 0 (by omega), if_neg (by omega)]; exact h0) (by rw [f1.2.1 56 (by decide)]; exact h56) (by rw [e3]; exact wr_in _)
      refine ⟨h', (jloop_l hB).trans x1, ⟨fun q q1 q2 => by rw [x2.1 q q1 q2, f1.1 q q1 q2], fun f hf => by rw [x2.2.1 f hf, f1.2.1 f hf], fun j j1 j2 j3 => by rw [x2.2.2 j j1 j2 j3, f1.2.2 j j1 j2 j3]⟩, ?_, ?_, ?_, ?_, ?_, ?_⟩
      · unfold spRelW; rw [if_pos a]; exact x3
      · unfold spRelW; rw [if_pos a]; exact x4
      · unfold spRelW; rw [if_pos a]; exact x5
      · unfold spRelW; rw [if_pos a]; exact x6
      · unfold spRelK; rw [if_pos a, hwho]
        by_cases z : th = 0
        · rw [if_pos z] at x7 ⊢; rw [if_pos z] at x7; exact x7
        · rw [if_neg z] at x7 ⊢; rw [if_neg z] at x7; exact x7
      · unfold spRelW; rw [if_pos a, x8, e3, List.length_cons, hg, jup_ne (by omega), pw_al]
        congr 1
        omega
    · rw [if_neg a] at hB
      obtain ⟨h1, hg⟩ : ∃ g : jH, g = jup h (o + 33) (176 + d.length) (who : Int) := ⟨_, rfl⟩
      rw [← hg] at hB
      have w1 : ∀ j, j ≠ 176 + d.length → h1 (o + 33) j = h (o + 33) j := fun j hj => by rw [hg, ju_ne hj]
      have el : d ++ [e] ++ spRelW num r = d ++ spRelW num (e :: r) := by
        conv => rhs; unfold spRelW; rw [if_neg a]
        simp
      have el2 : d ++ [e] ++ r = d ++ e :: r := by simp
      obtain ⟨h', x1, x2, x3, x4, x5, x6, x7, x8⟩ := ih (d ++ [e]) kp (i + 1) h1 (by omega) (by rw [List.length_append]; simp; omega) (fun k e' he' => by
          rw [Nat.zero_add]
          rw [List.getElem?_append] at he'
          split at he'
          · rename_i hk2
            have := hda k e' he'
            rw [Nat.zero_add] at this
            rw [w1 _ (by omega)]
            exact this
          · rename_i hk2
            have hkl : k = d.length := by
              by_cases z : k = d.length
              · exact z
              · obtain ⟨t, ht⟩ : ∃ t, k - d.length = t + 1 := ⟨k - d.length - 1, by omega⟩
                rw [ht] at he'; cases he'
            subst hkl
            rw [Nat.sub_self] at he'
            have he2 : e = e' := Option.some.inj he'
            rw [hg, ju_eq, ← he2, hwho]) (fun k e' he' => by
          rw [w1 _ (by omega), show 176 + (i + 1 + k) = 176 + (i + (k + 1)) by omega]; exact hs (k + 1) e' he') (fun x hx => by
          rw [el2, w1 _ (by omega)]; exact haw x hx) (by rw [el2]; exact hwh) (by
          refine ⟨by rw [w1 _ (by omega)]; exact hk.1, hk.2.1, fun k e he => ?_⟩
          rw [w1 _ (by omega), w1 _ (by omega), w1 _ (by omega)]
          exact hk.2.2 k e he) (by rw [w1 0 (by omega)]; exact h0) (by rw [hg, jup_ne (by omega)]; exact h56) (by rw [hg, jup_ne (by omega)]; exact h53)
      rw [el] at x3 x4 x5 x6
      rw [show ((d ++ [e]).length : Int) = ((d.length + 1 : Nat) : Int) by simp] at x1
      refine ⟨h', (jloop_l hB).trans x1, ⟨fun q q1 q2 => by rw [x2.1 q q1 q2, hg, jup_ne q2], fun f hf => by rw [x2.2.1 f hf, hg, jup_ne (by omega)], fun j j1 j2 j3 => by rw [x2.2.2 j j1 j2 j3, w1 j (by omega)]⟩, x3, x4, x5, x6, ?_, ?_⟩
      · unfold spRelK; rw [if_neg a]; exact x7
      · unfold spRelW; rw [if_neg a, x8, hg, jup_ne (by omega), List.length_cons, List.length_cons]
        congr 1
        omega
end MWT
