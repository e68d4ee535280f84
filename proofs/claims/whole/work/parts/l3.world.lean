/-! the world at the law's entry -/
def wFl : List Jvm.Cond := flatC (Jvm.Cond.and given_1 narrow_1)
/-- an array of numbers, told word by word: where its words begin -/
def wTc (tm : Term) (ty : FieldType) (q : Nat) (l : List Int) : Bool := decide (wFl[q]? = some (.arrayOf tm ty)) && decide (wFl[q + 1]? = some (.eq (.length tm) (.int (Int32.ofNat l.length)))) && (List.range l.length).all (fun j => decide (wFl[q + 2 + j]? = some (.eq (.elem tm (.int (Int32.ofNat j))) (.int (Int32.ofInt (l.getD j 0))))))
def wTst (n : String) : Term := .static "GroupJournal" n "[I"
def wSm (k : Nat) : Term := .string "GroupJournal$Parser" k
def wSv (k : Nat) : Term := .field (wSm k) "java/lang/String" "value" "[B"
/-- the text constants in the order of their places: entry, text, where their words begin -/
def wStr : List (Nat × String × Nat) := [(245, "age", 167), (215, "all", 98), (202, "and", 224), (133, "blocks", 38), (137, "bytes", 48), (150, "closes", 81), (171, "first", 205), (252, "frames", 214), (122, "journal", 27), (173, "last", 246), (181, "least", 280), (227, "max", 112), (223, "min", 105), (179, "most", 272), (146, "noise", 72), (204, "not", 91), (249, "number", 185), (229, "octet", 119), (175, "often", 254), (193, "or", 231), (243, "payload", 156), (141, "put", 57), (241, "records", 145), (250, "serial", 195), (165, "size", 64), (158, "takes", 237), (239, "tick", 137), (177, "total", 263), (234, "value", 128), (247, "waiters", 174)]
def wSc (i : Nat) : Bool := match wStr[i]? with
  | some (k, tx, q) => decide (wFl[q]? = some (.exactly (wSm k) "java/lang/String")) && decide (wFl[q + 1]? = some (.eq (.field (wSm k) "java/lang/String" "coder" "B") (.int 0))) && wTc (wSv k) .byte (q + 2) (jStr.getD i []) && decide ((jStr.getD i []).length < 100)
  | none => false
set_option maxRecDepth 100000 in
theorem wSc_all : (List.range 30).all wSc = true := by decide +kernel
set_option maxRecDepth 100000 in
theorem wTc_0 : wTc (wTst "CLOSES_WITHOUT") .int 5 [10001, 3, 30003, 10003, 4, 30003, 30000] = true := by decide +kernel
set_option maxRecDepth 100000 in
theorem wTc_1 : wTc (wTst "TAKES_WITHOUT") .int 15 [1, 10002, 16, 30008, 30005] = true := by decide +kernel
/-- every text constant that the tables name is one of these -/
def wRc (w : Jvm.Cond) : Bool := match w with
  | .stringRef own k tx => decide (own = "GroupJournal$Parser") && (List.range 30).all (fun i => !decide (jStr[i]? = some (tx.toList.map (fun ch => (ch.toNat : Int)))) || decide ((wStr[i]?).map (fun r => (r.1, r.2.1)) = some (k, tx)))
  | _ => true
set_option maxRecDepth 100000 in
theorem wRc_all : lw_tbl.all wRc = true := by decide +kernel
theorem jw_ao : Jvm.Cond.arrayOver (.object RX9) ∈ lw_tbl := jhas_mem (w := 2131) (by decide +kernel)
theorem jw_z0 : Jvm.Cond.laysStatic "GroupJournal" "CLOSES_WITHOUT" "[I" ∈ lw_tbl := jhas_mem (w := 3112) (by decide +kernel)
theorem jw_z1 : Jvm.Cond.laysStatic "GroupJournal" "TAKES_WITHOUT" "[I" ∈ lw_tbl := jhas_mem (w := 3123) (by decide +kernel)
theorem jw_z2 : Jvm.Cond.laysStatic "java/lang/String" "COMPACT_STRINGS" "Z" ∈ lw_tbl := jhas_mem (w := 3154) (by decide +kernel)
theorem jw_z3 : Jvm.Cond.laysStatic "jdk/internal/util/Preconditions" "SIOOBE_FORMATTER" "Ljava/util/function/BiFunction;" ∈ lw_tbl := jhas_mem (w := 3170) (by decide +kernel)
theorem jw_n0 : Jvm.Cond.initialized "GroupJournal" ∈ lw_tbl := jhas_mem (w := 1001) (by decide +kernel)
theorem jw_n2 : Jvm.Cond.initialized "java/lang/String" ∈ lw_tbl := jhas_mem (w := 1016) (by decide +kernel)
theorem jw_n3 : Jvm.Cond.initialized "jdk/internal/util/Preconditions" ∈ lw_tbl := jhas_mem (w := 1018) (by decide +kernel)
def wxl (L : Nat) (xs : Nat → Int32) : List Int := (List.range L).map (fun j => (xs j).toInt)
theorem wxl_in {L : Nat} {xs : Nat → Int32} : ∀ v ∈ wxl L xs, jI32 v := fun v hv => by
  obtain ⟨j, -, rfl⟩ := List.mem_map.mp hv
  exact jin32 _
theorem wxl_len {L : Nat} {xs : Nat → Int32} : (wxl L xs).length = L := by unfold wxl; rw [List.length_map, List.length_range]
theorem wxl_at {L : Nat} {xs : Nat → Int32} {j : Nat} (hj : j < L) : (wxl L xs).getD j 0 = (xs j).toInt := by
  unfold wxl
  rw [List.getD_eq_getElem?_getD, List.getElem?_map, List.getElem?_range hj]
  rfl
/-- places of things outside -/
def wXv (t0 t1 b : Nat) (v3 : Value) (ad : Nat → Nat × Nat) (z : Nat) : Value := if z = 0 then .ref t0 else if z = 1 then .ref t1 else if z = 2 then .ref b else if z = 3 then v3 else if 10 ≤ z ∧ z < 40 then .ref (ad (z - 10)).1 else if 50 ≤ z ∧ z < 80 then .ref (ad (z - 50)).2 else .null
theorem wXv_s {t0 t1 b : Nat} {v3 : Value} {ad : Nat → Nat × Nat} {z : Nat} (h1 : 10 ≤ z) (h2 : z < 40) : wXv t0 t1 b v3 ad z = .ref (ad (z - 10)).1 := by
  unfold wXv
  rw [if_neg (by omega), if_neg (by omega), if_neg (by omega), if_neg (by omega), if_pos ⟨h1, h2⟩]
theorem wXv_v {t0 t1 b : Nat} {v3 : Value} {ad : Nat → Nat × Nat} {z : Nat} (h1 : 50 ≤ z) (h2 : z < 80) : wXv t0 t1 b v3 ad z = .ref (ad (z - 50)).2 := by
  unfold wXv
  rw [if_neg (by omega), if_neg (by omega), if_neg (by omega), if_neg (by omega), if_neg (by omega), if_pos ⟨h1, h2⟩]
theorem wXv_r {t0 t1 b : Nat} {v3 : Value} {ad : Nat → Nat × Nat} (h : jref v3) (z : Nat) : jref (wXv t0 t1 b v3 ad z) := by
  unfold wXv
  repeat' split
  all_goals first | exact h | exact Or.inl rfl | exact Or.inr ⟨_, rfl⟩
section LWLD
variable {s : State} {b L : Nat} {xs : Nat → Int32} {A : Nat → Prop} {aa : Array Value}
theorem w_at (hs : ∀ c ∈ wFl, c.before aa s = true) {q : Nat} {c : Jvm.Cond} (h : decide (wFl[q]? = some c) = true) : c.before aa s = true := hs c (List.mem_of_getElem? (of_decide_eq_true h))
theorem w_ar (hs : ∀ c ∈ wFl, c.before aa s = true) (hA : ∀ a : Nat, a < s.heap.size → ¬ A a) {tm : Term} {ty : FieldType} {q : Nat} {l : List Int} (hl : l.length < 100) (h : wTc tm ty q l = true) : ∃ t : Nat, tm.eval aa s none [] s = some (.ref t) ∧ va_T ty t l.length (fun j => .int (Int32.ofInt (l.getD j 0))) A s s.heap := by
  unfold wTc at h
  simp only [Bool.and_eq_true] at h
  obtain ⟨⟨h1, h2⟩, h3⟩ := h
  exact va_Tof (f := fun j => .int (Int32.ofInt (l.getD j 0))) (by omega) (w_at hs h1) (va_eqt (w_at hs h2)) (fun j hj => va_eqt (w_at hs (List.all_eq_true.mp h3 j (List.mem_range.mpr hj)))) hA
theorem w_st (hs : ∀ c ∈ wFl, c.before aa s = true) (hA : ∀ a : Nat, a < s.heap.size → ¬ A a) (i : Nat) : ∃ q : Nat × Nat, i < 30 → (∃ k tx z, wStr[i]? = some (k, tx, z) ∧ (wSm k).eval aa s none [] s = some (.ref q.1)) ∧ va_O "java/lang/String" q.1 A s s.heap ∧ va_OF "java/lang/String" "coder" "B" (.int 0) q.1 A s s.heap ∧ va_OF "java/lang/String" "value" "[B" (.ref q.2) q.1 A s s.heap ∧ va_T .byte q.2 (jStr.getD i []).length (fun j => .int (Int32.ofInt ((jStr.getD i []).getD j 0))) A s s.heap := by
  by_cases hi : i < 30
  · have h := List.all_eq_true.mp wSc_all i (List.mem_range.mpr hi)
    unfold wSc at h
    split at h
    · rename_i k tx z hz
      simp only [Bool.and_eq_true, decide_eq_true_eq] at h
      obtain ⟨⟨⟨h1, h2⟩, h3⟩, h4⟩ := h
      obtain ⟨a, c, cA, kA, q1, q2, q3, q4, q5, q6, -⟩ := Cond.exactly_spec (args := aa) (first := s) (o := none) (s := s) (idx := []) (t := wSm k) (cls := "java/lang/String") (w_at hs (decide_eq_true h1))
      obtain ⟨t, ht, hT⟩ := w_ar hs hA h4 h3
      exact ⟨(a, t), fun _ => ⟨⟨k, tx, z, hz, q1⟩, ⟨cA, q3, q5, by rw [q6]; exact q2, hA a (Array.getElem?_eq_some_iff.mp q3).1⟩, vk_OFof q1 (va_eqt (w_at hs (decide_eq_true h2))) hA, vk_OFof q1 ht hA, hT⟩⟩
    · cases h
  · exact ⟨(0, 0), fun h => absurd h hi⟩
theorem w_cls (hts : ∀ w ∈ lw_tbl, w.before aa s = true) (c : Nat) : ∃ q : ClassId × (Nat → Nat), ∀ r, vwCl[c]? = some r → u_Kn s r.1 r.2.1 r.2.2 q.1 q.2 := by
  cases hc : vwCl[c]? with
  | none => exact ⟨(0, fun _ => 0), fun r h => by cases h⟩
  | some r =>
    obtain ⟨cC, iS, h⟩ := u_known hts (jcl_in hc) (hts _ (jw_cls r hc).1)
    exact ⟨(cC, iS), fun r' h' => by cases h'; exact h⟩
theorem w_arr (hts : ∀ w ∈ lw_tbl, w.before aa s = true) (k : Nat) : ∃ c : ClassId, 20 ≤ k → k < 25 → ArrOfT s c (jty k) ∧ va_RA s c (jty k) := by
  by_cases h : 20 ≤ k ∧ k < 24
  · obtain ⟨c, kA, comp, e1, e2, e3⟩ := Cond.arrayClass_spec (hts _ (jw_arr k h.1 h.2))
    refine ⟨c, fun _ _ => ⟨fun n z => ⟨fun q hq => (by cases hq), kA, e2, comp, e3⟩, ?_⟩⟩
    rcases (by omega : k = 20 ∨ k = 21 ∨ k = 22 ∨ k = 23) with rfl | rfl | rfl | rfl
    all_goals exact e1
  · by_cases h2 : k = 24
    · subst h2
      obtain ⟨comp, c, kA, e1, -, e3, e4, e5⟩ := Cond.arrayOver_spec (hts _ jw_ao)
      exact ⟨c, fun _ _ => ⟨fun n z => ⟨fun q hq => (by cases hq), kA, e3, comp, e4⟩, kA, comp, e3, e4, e1, e5⟩⟩
    · exact ⟨0, fun h3 h4 => absurd h3 (by omega)⟩
theorem w_world (hts : ∀ w ∈ lw_tbl, w.before #[Value.ref b] s = true) (hgv : (Jvm.Cond.and given_1 narrow_1).before #[Value.ref b] s = true) (hX : va_X b L xs s s.heap) (hbl : b < s.heap.size) (hL : L ≤ 3072) : ∃ (D : va_G) (cs : Nat → ClassId) (xv : Nat → Value), jWd D cs xv (wxl L xs) (fun q => s.heap.size ≤ q) s ∧ xv 2 = .ref b := by
  have hs : ∀ c ∈ wFl, c.before #[Value.ref b] s = true := flat_of_before _ hgv
  have hA : ∀ a : Nat, a < s.heap.size → ¬ (fun q => s.heap.size ≤ q) a := fun a h h2 => absurd h (Nat.not_lt.mpr h2)
  obtain ⟨f, hf⟩ := Classical.axiomOfChoice (w_cls hts)
  obtain ⟨g, hg⟩ := Classical.axiomOfChoice (w_arr hts)
  obtain ⟨ad, had⟩ := Classical.axiomOfChoice (w_st hs hA)
  obtain ⟨t0, e0, T0⟩ := w_ar hs hA (by decide) wTc_0
  obtain ⟨t1, e1, T1⟩ := w_ar hs hA (by decide) wTc_1
  obtain ⟨v3, e3, r3⟩ := Cond.isRef_spec (t := .static "jdk/internal/util/Preconditions" "SIOOBE_FORMATTER" "Ljava/util/function/BiFunction;") (w_at hs (q := 23) (by decide +kernel))
  have r3 : jref v3 := by
    cases v3 <;> first | exact Or.inl rfl | exact Or.inr ⟨_, rfl⟩ | cases r3
  refine ⟨(fun c => (f c).1, fun c => (f c).2), g, wXv t0 t1 b v3 ad, ⟨⟨wXv_r r3, wxl_in, by rw [wxl_len]; omega⟩, ⟨fun c q hq => hf c q hq, fun k q hk => ?_⟩, fun w hw a => word_at (args := #[Value.ref b]) (State.WarmedH.refl s) (good_of_word (List.mem_filter.mp hw).2) (hts w (List.mem_filter.mp hw).1), fun w hw hn => ?_, va_AO.of (hts _ jw_ao), fun own k tx z h1 h2 h3 h4 => ?_, ?_, ?_, ?_⟩, rfl⟩
  · match k, hk with
    | 0, hk => cases hk; exact hg 20 (by decide) (by decide)
    | 1, hk => cases hk; exact hg 21 (by decide) (by decide)
    | 2, hk => cases hk; exact hg 22 (by decide) (by decide)
    | 3, hk => cases hk; exact hg 23 (by decide) (by decide)
    | 4, hk => cases hk; exact hg 24 (by decide) (by decide)
    | n + 5, hk => cases hk
  · have hb := hts w hw
    cases w <;> first | exact va_Nw.of rfl hb | cases hn
  · have hc := List.all_eq_true.mp wRc_all _ h1
    unfold wRc at hc
    simp only [Bool.and_eq_true, decide_eq_true_eq] at hc
    obtain ⟨c1, c2⟩ := hc
    have c3 := List.all_eq_true.mp c2 (z - 10) (List.mem_range.mpr (by omega))
    rw [decide_eq_true h2] at c3
    have c3 : (wStr[z - 10]?).map (fun r => (r.1, r.2.1)) = some (k, tx) := by simpa using c3
    obtain ⟨⟨k', tx', q, g1, g2⟩, -⟩ := had (z - 10) (by omega)
    rw [g1] at c3
    cases c3
    subst c1
    exact ⟨(ad (z - 10)).1, vk_R.of (hts _ h1) g2, wXv_s h3 h4⟩
  · intro z kind l hz
    unfold jext at hz
    split at hz
    · rename_i hz0
      cases hz
      subst hz0
      exact ⟨t0, rfl, T0⟩
    · split at hz
      · rename_i hz1
        cases hz
        subst hz1
        exact ⟨t1, rfl, T1⟩
      · split at hz
        · rename_i hz2
          cases hz
          subst hz2
          obtain ⟨scr, x1, x2, x3, x4, x5⟩ := hX
          refine ⟨b, rfl, scr, x1, x2, x3, by rw [wxl_len, x4]; exact Nat.le_refl _, by rw [wxl_len, x4] <;> rfl, fun j hj => ?_, hA b hbl⟩
          rw [wxl_len] at hj
          rw [x5 j hj]
          show _ = some (Value.int (Int32.ofInt ((wxl L xs).getD j 0)))
          rw [wxl_at hj, Int32.ofInt_toInt]
        · split at hz
          · rename_i hz5
            cases hq : jStr[(z - 50).toNat]? with
            | none => rw [hq] at hz; cases hz
            | some q =>
              rw [hq] at hz
              cases hz
              have hlt : (z - 50).toNat < 30 := (List.getElem?_eq_some_iff.mp hq).1
              have hgd : jStr.getD (z - 50).toNat [] = l := by rw [List.getD_eq_getElem?_getD, hq]; rfl
              obtain ⟨-, -, -, -, hT⟩ := had (z - 50).toNat hlt
              rw [hgd] at hT
              refine ⟨(ad (z - 50).toNat).2, ?_, hT⟩
              rw [wXv_v (by omega) (by omega)]
              congr 3
              omega
          · cases hz
  · intro z hz1 hz2
    obtain ⟨-, g2, g3, g4, -⟩ := had (z - 10) (by omega)
    refine ⟨(ad (z - 10)).1, (ad (z - 10)).2, wXv_s hz1 hz2, ?_, g2, g3, g4⟩
    rw [wXv_v (by omega) (by omega)]
    congr 3
  · exact ⟨va_Zof (hts _ jw_z0) (hts _ jw_n0) e0 hA, va_Zof (hts _ jw_z1) (hts _ jw_n0) e1 hA, va_Zof (hts _ jw_z2) (hts _ jw_n2) (va_eqi (w_at hs (q := 22) (by decide +kernel))) hA, va_Zof (hts _ jw_z3) (hts _ jw_n3) e3 hA⟩
end LWLD
