/-! rules for constructors: the terrain grows -/
section JCT
variable {xs : List Int} {d mi pc : Nat} {ls st : List jV} {L : List (Nat × Nat)} {R : Nat → Nat → Nat} {h : jH} {y : jV × jS}
theorem jlA {L : List (Nat × Nat)} {q : Nat} {v : Nat × Nat} (hl : L.length = q) : (L ++ [v])[q]? = some v := by
  subst hl
  simp
theorem jlN {L : List (Nat × Nat)} {q : Nat} (v : Nat × Nat) (hl : L.length = q) : (L ++ [v]).length = q + 1 := by
  rw [List.length_append, hl]
  rfl
theorem jlS {L S : List (Nat × Nat)} {q n : Nat} (hl : L.length = q) (hs : S.length = n) : (L ++ S).length = q + n := by
  rw [List.length_append, hl, hs]
theorem jlP {L : List (Nat × Nat)} {q : Nat} {v : Nat × Nat} (S : List (Nat × Nat)) (h : L[q]? = some v) : (L ++ S)[q]? = some v := by
  obtain ⟨h1, h2⟩ := List.getElem?_eq_some_iff.mp h
  rw [List.getElem?_append_left h1]
  exact h
theorem jEv.nwC {idx c w n q : Nat} (hl : L.length = q) (hf : jfI mi pc (.new idx) 3 [c, w] = true) (hc : c < 13) (hn : (jFt.getD c []).length = n) (kk : jEv xs d (mi, pc + 3, ls, (2, Int.ofNat q) :: st) ((L ++ [(c, n)], R), h) y) : jEv xs d (mi, pc, ls, st) ((L, R), h) y := by
  subst hl
  refine jEv.on ?_ kk
  subst hn
  unfold jn0; dsimp only; rw [jfI_of hf]
  exact jpos (c := c < 13) hc rfl
theorem jEv.nwA {a : Jvm.ClassFile.ArrayType} {k q n : Nat} {m : Int} (hl : L.length = q) (hf : jfI mi pc (.newarray a) 2 [k] = true) (hm : 0 ≤ m ∧ m ≤ 100000) (hn : m.toNat = n) (kk : jEv xs d (mi, pc + 2, ls, (2, Int.ofNat q) :: st) ((L ++ [(k, n)], R), h) y) : jEv xs d (mi, pc, ls, (0, m) :: st) ((L, R), h) y := by
  subst hl
  refine jEv.on ?_ kk
  subst hn
  unfold jn0; dsimp only; rw [jfI_of hf]
  exact jpos (c := 0 ≤ m ∧ m ≤ 100000) hm rfl
theorem jEv.nwO {idx w q n : Nat} {m : Int} (hl : L.length = q) (hf : jfI mi pc (.anewarray idx) 3 [24, w] = true) (hm : 0 ≤ m ∧ m ≤ 100000) (hn : m.toNat = n) (kk : jEv xs d (mi, pc + 3, ls, (2, Int.ofNat q) :: st) ((L ++ [(24, n)], R), h) y) : jEv xs d (mi, pc, ls, (0, m) :: st) ((L, R), h) y := by
  subst hl
  refine jEv.on ?_ kk
  subst hn
  unfold jn0; dsimp only; rw [jfI_of hf]
  exact jpos (c := 0 ≤ m ∧ m ≤ 100000 ∧ (24 : Nat) = 24) ⟨hm.1, hm.2, rfl⟩ rfl
theorem jEv.pfR {idx c k b w o n q : Nat} (hL : L[o]? = some (c, n)) (hf : jfI mi pc (.putfield idx) 3 [c, k, 5, b, w] = true) (hc : c < 13) (kk : jEv xs d (mi, pc + 3, ls, st) ((L, jupR R o k q), h) y) : jEv xs d (mi, pc, ls, (2, Int.ofNat q) :: (2, Int.ofNat o) :: st) ((L, R), h) y := by
  refine jEv.on ?_ kk
  unfold jn0; dsimp only; rw [jfI_of hf]
  show jpf [c, k, 5, b, w] mi pc ls ((2, Int.ofNat q) :: (2, Int.ofNat o) :: st) ((L, R), h) = _
  exact jpos (c := jcls (L, R) o c = true ∧ c < 13) ⟨jcls_at hL, hc⟩ (jpos (c := (2 : Nat) = 2) rfl rfl)
theorem jEv.obj {i : jI} {a b w o k n : Nat} (hL : L[o]? = some (k, n)) (hf : jfI mi pc i 3 [7, a, b, w] = true) (hi : jisv i = true) (hk : k < 13) (hr : jrm st ≤ 8) (kk : jEv xs d (mi, pc + 3, ls, st) ((L, R), h) y) : jEv xs d (mi, pc, ls, (2, Int.ofNat o) :: st) ((L, R), h) y := by
  refine jEv.on ?_ kk
  rw [jn0_inv hi hf]
  unfold jinv
  dsimp only
  rw [if_pos rfl]
  show (match L[o]? with | some (k, _) => if k < 13 ∧ jrm st ≤ 8 then jon mi (pc + 3) ls st ((L, R), h) else none | none => none) = _
  rw [hL]
  exact jpos (c := k < 13 ∧ jrm st ≤ 8) ⟨hk, hr⟩ rfl
theorem jEv.asd {ins : jI} {kind tg o n : Nat} {i v : Int} (hL : L[o]? = some (kind, n)) (hk : (ins = .iastore ∧ kind = 20 ∧ tg = 0) ∨ (ins = .castore ∧ kind = 23 ∧ tg = 0)) (hf : jfI mi pc ins 1 [] = true) (hc : 0 ≤ i ∧ i.toNat < n) (hv : jfit kind v = true) (kk : jEv xs d (mi, pc + 1, ls, st) ((L, R), jup h o i.toNat v) y) : jEv xs d (mi, pc, ls, (tg, v) :: (0, i) :: (2, Int.ofNat o) :: st) ((L, R), h) y := by
  refine jEv.on ?_ kk
  have e : jsv kind tg mi pc ls ((tg, v) :: (0, i) :: (2, Int.ofNat o) :: st) ((L, R), h) = some (.inl ((mi, pc + 1, ls, st), ((L, R), jup h o i.toNat v))) := by
    show (match L[o]? with | some (k, n) => if tg = tg ∧ k = kind ∧ jinb i n = true ∧ jfit kind v = true then jon mi (pc + 1) ls st ((L, R), jup h o i.toNat v) else none | none => none) = _
    rw [hL]
    exact jpos (c := tg = tg ∧ kind = kind ∧ jinb i n = true ∧ jfit kind v = true) ⟨rfl, rfl, jinb_at hc, hv⟩ rfl
  unfold jn0; dsimp only; rw [jfI_of hf]
  rcases hk with ⟨rfl, rfl, rfl⟩ | ⟨rfl, rfl, rfl⟩ <;> exact e
theorem jEv.aas {o n q m : Nat} {i : Int} (hL : L[o]? = some (24, n)) (hq : L[q]? = some (9, m)) (hf : jfI mi pc .aastore 1 [] = true) (hc : 0 ≤ i ∧ i.toNat < n) (kk : jEv xs d (mi, pc + 1, ls, st) ((L, jupR R o i.toNat q), h) y) : jEv xs d (mi, pc, ls, (2, Int.ofNat q) :: (0, i) :: (2, Int.ofNat o) :: st) ((L, R), h) y := by
  refine jEv.on ?_ kk
  unfold jn0; dsimp only; rw [jfI_of hf]
  show (match L[o]? with | some (k, n) => if k = 24 ∧ jinb i n = true ∧ jcls (L, R) q 9 = true then jon mi (pc + 1) ls st ((L, jupR R o i.toNat q), h) else none | none => none) = _
  rw [hL]
  exact jpos (c := (24 : Nat) = 24 ∧ jinb i n = true ∧ jcls (L, R) q 9 = true) ⟨rfl, jinb_at hc, jcls_at hq⟩ rfl
theorem jEv.gfE {idx c k b w o n q : Nat} (hL : L[o]? = some (c, n)) (hf : jfI mi pc (.getfield idx) 3 [c, k, 2, b, w] = true) (hc : c < 13) (hv : h o k = Int.ofNat q) (kk : jEv xs d (mi, pc + 3, ls, (2, Int.ofNat q) :: st) ((L, R), h) y) : jEv xs d (mi, pc, ls, (2, Int.ofNat o) :: st) ((L, R), h) y := by
  refine jEv.on ?_ kk
  unfold jn0; dsimp only; rw [jfI_of hf]
  show jgf [c, k, 2, b, w] mi pc ls ((2, Int.ofNat o) :: st) ((L, R), h) = _
  refine jpos (c := jcls (L, R) o c = true ∧ c < 13) ⟨jcls_at hL, hc⟩ ?_
  show jon mi (pc + 3) ls ((2, h o k) :: st) ((L, R), h) = _
  rw [hv]
  rfl
theorem jfill_ne {h : jH} {o k o' : Nat} {v : Int} (hn : o' ≠ o) : jfill h o k v o' = h o' := by unfold jfill; rw [if_neg hn]
end JCT
