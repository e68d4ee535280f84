/-! rules: fields, arrays, calls, ends, loops -/
theorem jpos {α : Type} {c : Prop} [Decidable c] {a b x : α} (hc : c) (h : a = x) : (if c then a else b) = x := (if_pos hc).trans h
theorem jneg {α : Type} {c : Prop} [Decidable c] {a b x : α} (hc : ¬ c) (h : b = x) : (if c then a else b) = x := (if_neg hc).trans h
section JEV2
variable {xs : List Int} {d mi pc t : Nat} {ls st : List jV} {T : jT} {h : jH} {σ σ' : jS} {y : jV × jS} {α : Type} {A B : Option α} {out : α}
theorem jcls_at {o c n : Nat} (hL : T.1[o]? = some (c, n)) : jcls T o c = true := by
  unfold jcls
  rw [hL]
  simp
theorem jEv.gfI {idx c k b w o n : Nat} (hf : jfI mi pc (.getfield idx) 3 [c, k, 0, b, w] = true) (hL : T.1[o]? = some (c, n)) (hc : c < 13) (kk : jEv xs d (mi, pc + 3, ls, (0, h o k) :: st) (T, h) y) : jEv xs d (mi, pc, ls, (2, Int.ofNat o) :: st) (T, h) y := by
  refine jEv.on ?_ kk
  unfold jn0; dsimp only; rw [jfI_of hf]
  show jgf [c, k, 0, b, w] mi pc ls ((2, Int.ofNat o) :: st) (T, h) = _
  exact jpos (c := jcls T o c = true ∧ c < 13) ⟨jcls_at hL, hc⟩ rfl
theorem jEv.gfJ {idx c k b w o n : Nat} (hf : jfI mi pc (.getfield idx) 3 [c, k, 1, b, w] = true) (hL : T.1[o]? = some (c, n)) (hc : c < 13) (kk : jEv xs d (mi, pc + 3, ls, (1, h o k) :: st) (T, h) y) : jEv xs d (mi, pc, ls, (2, Int.ofNat o) :: st) (T, h) y := by
  refine jEv.on ?_ kk
  unfold jn0; dsimp only; rw [jfI_of hf]
  show jgf [c, k, 1, b, w] mi pc ls ((2, Int.ofNat o) :: st) (T, h) = _
  exact jpos (c := jcls T o c = true ∧ c < 13) ⟨jcls_at hL, hc⟩ rfl
theorem jEv.gfR {idx c k b w o o' n : Nat} (hf : jfI mi pc (.getfield idx) 3 [c, k, 5, b, w] = true) (hL : T.1[o]? = some (c, n)) (hc : c < 13) (hR : T.2 o k = o') (kk : jEv xs d (mi, pc + 3, ls, (2, Int.ofNat o') :: st) (T, h) y) : jEv xs d (mi, pc, ls, (2, Int.ofNat o) :: st) (T, h) y := by
  refine jEv.on ?_ kk
  unfold jn0; dsimp only; rw [jfI_of hf]
  show jgf [c, k, 5, b, w] mi pc ls ((2, Int.ofNat o) :: st) (T, h) = _
  subst hR
  exact jpos (c := jcls T o c = true ∧ c < 13) ⟨jcls_at hL, hc⟩ rfl
noncomputable def jdyn (P : Nat → Prop) (z : Int) : Option Nat := @ite (Option Nat) (0 ≤ z ∧ P z.toNat) (Classical.propDecidable _) (some z.toNat) none
theorem jdyn_of {P : Nat → Prop} {z : Int} {q : Nat} (h : jdyn P z = some q) : P q ∧ z = Int.ofNat q := by
  classical
  unfold jdyn at h
  split at h
  · rename_i hc
    cases h
    exact ⟨hc.2, (Int.toNat_of_nonneg hc.1).symm⟩
  · cases h
theorem jdyn_at {P : Nat → Prop} {q : Nat} (h : P q) : jdyn P (q : Int) = some q := by
  classical
  unfold jdyn
  rw [if_pos ⟨Int.natCast_nonneg _, h⟩]
  rfl
theorem jEv.gfD {P : Nat → Prop} {g : Nat → Option α} {idx c k b w o n : Nat} (hf : jfI mi pc (.getfield idx) 3 [c, k, 2, b, w] = true) (hL : T.1[o]? = some (c, n)) (hc : c < 13) (H : Option.bind (jdyn P (h o k)) g = some out) (kk : ∀ q, P q → g q = some out → jEv xs d (mi, pc + 3, ls, (2, Int.ofNat q) :: st) (T, h) y) : jEv xs d (mi, pc, ls, (2, Int.ofNat o) :: st) (T, h) y := by
  refine jbind H (fun q h1 h2 => ?_)
  obtain ⟨h3, h4⟩ := jdyn_of h1
  refine jEv.on ?_ (kk q h3 h2)
  unfold jn0; dsimp only; rw [jfI_of hf]
  show jgf [c, k, 2, b, w] mi pc ls ((2, Int.ofNat o) :: st) (T, h) = _
  refine jpos (c := jcls T o c = true ∧ c < 13) ⟨jcls_at hL, hc⟩ ?_
  show jon mi (pc + 3) ls ((2, h o k) :: st) (T, h) = _
  rw [h4]
  rfl
theorem jEv.pfI {idx c k w o n : Nat} {v : Int} (hf : jfI mi pc (.putfield idx) 3 [c, k, 0, 0, w] = true) (hL : T.1[o]? = some (c, n)) (hc : c < 13) (kk : jEv xs d (mi, pc + 3, ls, st) (T, jup h o k v) y) : jEv xs d (mi, pc, ls, (0, v) :: (2, Int.ofNat o) :: st) (T, h) y := by
  refine jEv.on ?_ kk
  unfold jn0; dsimp only; rw [jfI_of hf]
  show jpf [c, k, 0, 0, w] mi pc ls ((0, v) :: (2, Int.ofNat o) :: st) (T, h) = _
  exact jpos (c := jcls T o c = true ∧ c < 13) ⟨jcls_at hL, hc⟩ (jpos (c := (0 : Nat) = 0 ∧ ((0 : Nat) = 0 ∨ jfit 22 v = true)) ⟨rfl, Or.inl rfl⟩ rfl)
theorem jEv.pfZ {idx c k w o n : Nat} {v : Int} (hf : jfI mi pc (.putfield idx) 3 [c, k, 0, 1, w] = true) (hL : T.1[o]? = some (c, n)) (hc : c < 13) (hv : v = 0 ∨ v = 1) (kk : jEv xs d (mi, pc + 3, ls, st) (T, jup h o k v) y) : jEv xs d (mi, pc, ls, (0, v) :: (2, Int.ofNat o) :: st) (T, h) y := by
  refine jEv.on ?_ kk
  unfold jn0; dsimp only; rw [jfI_of hf]
  show jpf [c, k, 0, 1, w] mi pc ls ((0, v) :: (2, Int.ofNat o) :: st) (T, h) = _
  exact jpos (c := jcls T o c = true ∧ c < 13) ⟨jcls_at hL, hc⟩ (jpos (c := (0 : Nat) = 0 ∧ ((1 : Nat) = 0 ∨ jfit 22 v = true)) ⟨rfl, Or.inr (by rcases hv with e | e <;> simp [jfit, e])⟩ rfl)
theorem jEv.pfJ {idx c k b w o n : Nat} {v : Int} (hf : jfI mi pc (.putfield idx) 3 [c, k, 1, b, w] = true) (hL : T.1[o]? = some (c, n)) (hc : c < 13) (kk : jEv xs d (mi, pc + 3, ls, st) (T, jup h o k v) y) : jEv xs d (mi, pc, ls, (1, v) :: (2, Int.ofNat o) :: st) (T, h) y := by
  refine jEv.on ?_ kk
  unfold jn0; dsimp only; rw [jfI_of hf]
  show jpf [c, k, 1, b, w] mi pc ls ((1, v) :: (2, Int.ofNat o) :: st) (T, h) = _
  exact jpos (c := jcls T o c = true ∧ c < 13) ⟨jcls_at hL, hc⟩ (jpos (c := (1 : Nat) = 1) rfl rfl)
theorem jEv.pfD {idx c k b w o n q : Nat} (hf : jfI mi pc (.putfield idx) 3 [c, k, 2, b, w] = true) (hL : T.1[o]? = some (c, n)) (hc : c < 13) (kk : jEv xs d (mi, pc + 3, ls, st) (T, jup h o k (Int.ofNat q)) y) : jEv xs d (mi, pc, ls, (2, Int.ofNat q) :: (2, Int.ofNat o) :: st) (T, h) y := by
  refine jEv.on ?_ kk
  unfold jn0; dsimp only; rw [jfI_of hf]
  show jpf [c, k, 2, b, w] mi pc ls ((2, Int.ofNat q) :: (2, Int.ofNat o) :: st) (T, h) = _
  exact jpos (c := jcls T o c = true ∧ c < 13) ⟨jcls_at hL, hc⟩ (jpos (c := (2 : Nat) = 2) rfl rfl)
theorem jinb_at {i : Int} {n : Nat} (hc : 0 ≤ i ∧ i.toNat < n) : jinb i n = true := by
  unfold jinb
  rw [Bool.and_eq_true]
  exact ⟨decide_eq_true hc.1, decide_eq_true hc.2⟩
theorem jEv.ald {ins : jI} {kind tg o n : Nat} {i : Int} (hk : (ins = .iaload ∧ kind = 20 ∧ tg = 0) ∨ (ins = .laload ∧ kind = 21 ∧ tg = 1) ∨ (ins = .caload ∧ kind = 23 ∧ tg = 0) ∨ (ins = .baload ∧ kind = 22 ∧ tg = 0)) (hf : jfI mi pc ins 1 [] = true) (hL : T.1[o]? = some (kind, n)) (H : (if 0 ≤ i ∧ i.toNat < n then A else none) = some out) (kk : 0 ≤ i ∧ i.toNat < n → A = some out → jEv xs d (mi, pc + 1, ls, (tg, h o i.toNat) :: st) (T, h) y) : jEv xs d (mi, pc, ls, (0, i) :: (2, Int.ofNat o) :: st) (T, h) y := by
  refine jchk H (fun hc H => jEv.on ?_ (kk hc H))
  have e : jld kind tg xs mi pc ls ((0, i) :: (2, Int.ofNat o) :: st) (T, h) = some (.inl ((mi, pc + 1, ls, (tg, h o i.toNat) :: st), (T, h))) := by
    show (match T.1[o]? with | some (k, n) => if k = kind ∧ jinb i n = true then jon mi (pc + 1) ls ((tg, h o i.toNat) :: st) (T, h) else none | none => none) = _
    rw [hL]
    exact jpos (c := kind = kind ∧ jinb i n = true) ⟨rfl, jinb_at hc⟩ rfl
  unfold jn0; dsimp only; rw [jfI_of hf]
  rcases hk with ⟨rfl, rfl, rfl⟩ | ⟨rfl, rfl, rfl⟩ | ⟨rfl, rfl, rfl⟩ | ⟨rfl, rfl, rfl⟩ <;> exact e
theorem jEv.aldX {z i : Int} {l : List Int} (hf : jfI mi pc .iaload 1 [] = true) (hx : jext xs z = some (20, l)) (H : (if 0 ≤ i ∧ i.toNat < l.length then A else none) = some out) (kk : 0 ≤ i ∧ i.toNat < l.length → A = some out → jEv xs d (mi, pc + 1, ls, (0, l.getD i.toNat 0) :: st) σ y) : jEv xs d (mi, pc, ls, (0, i) :: (4, z) :: st) σ y := by
  refine jchk H (fun hc H => jEv.on ?_ (kk hc H))
  unfold jn0; dsimp only; rw [jfI_of hf]
  show jld 20 0 xs mi pc ls ((0, i) :: (4, z) :: st) σ = _
  show (match jext xs z with | some (k, l) => if k = 20 ∧ jinb i l.length = true then jon mi (pc + 1) ls ((0, l.getD i.toNat 0) :: st) σ else none | none => none) = _
  rw [hx]
  exact jpos (c := (20 : Nat) = 20 ∧ jinb i l.length = true) ⟨rfl, jinb_at hc⟩ rfl
theorem jEv.ast {ins : jI} {kind tg o n : Nat} {i v : Int} (hk : (ins = .iastore ∧ kind = 20 ∧ tg = 0) ∨ (ins = .lastore ∧ kind = 21 ∧ tg = 1) ∨ (ins = .castore ∧ kind = 23 ∧ tg = 0) ∨ (ins = .bastore ∧ kind = 22 ∧ tg = 0)) (hf : jfI mi pc ins 1 [] = true) (hL : T.1[o]? = some (kind, n)) (hv : jfit kind v = true) (H : (if 0 ≤ i ∧ i.toNat < n then A else none) = some out) (kk : 0 ≤ i ∧ i.toNat < n → A = some out → jEv xs d (mi, pc + 1, ls, st) (T, jup h o i.toNat v) y) : jEv xs d (mi, pc, ls, (tg, v) :: (0, i) :: (2, Int.ofNat o) :: st) (T, h) y := by
  refine jchk H (fun hc H => jEv.on ?_ (kk hc H))
  have e : jsv kind tg mi pc ls ((tg, v) :: (0, i) :: (2, Int.ofNat o) :: st) (T, h) = some (.inl ((mi, pc + 1, ls, st), (T, jup h o i.toNat v))) := by
    show (match T.1[o]? with | some (k, n) => if tg = tg ∧ k = kind ∧ jinb i n = true ∧ jfit kind v = true then jon mi (pc + 1) ls st (T, jup h o i.toNat v) else none | none => none) = _
    rw [hL]
    exact jpos (c := tg = tg ∧ kind = kind ∧ jinb i n = true ∧ jfit kind v = true) ⟨rfl, rfl, jinb_at hc, hv⟩ rfl
  unfold jn0; dsimp only; rw [jfI_of hf]
  rcases hk with ⟨rfl, rfl, rfl⟩ | ⟨rfl, rfl, rfl⟩ | ⟨rfl, rfl, rfl⟩ | ⟨rfl, rfl, rfl⟩ <;> exact e
theorem jEv.aald {P : Nat → Prop} {g : Nat → Option α} {o n : Nat} {i : Int} (hf : jfI mi pc .aaload 1 [] = true) (hL : T.1[o]? = some (24, n)) (H : (if 0 ≤ i ∧ i.toNat < n then Option.bind (jdyn P (Int.ofNat (T.2 o i.toNat))) g else none) = some out) (kk : ∀ q, P q → q = T.2 o i.toNat → g q = some out → jEv xs d (mi, pc + 1, ls, (2, Int.ofNat q) :: st) (T, h) y) : jEv xs d (mi, pc, ls, (0, i) :: (2, Int.ofNat o) :: st) (T, h) y := by
  refine jchk H (fun hc H => jbind H (fun q h1 h2 => ?_))
  obtain ⟨h3, h4⟩ := jdyn_of h1
  have h5 : T.2 o i.toNat = q := Int.ofNat.inj h4
  refine jEv.on ?_ (kk q h3 h5.symm h2)
  unfold jn0; dsimp only; rw [jfI_of hf]
  show (match T.1[o]? with | some (k, n) => if k = 24 ∧ jinb i n = true then jon mi (pc + 1) ls ((2, Int.ofNat (T.2 o i.toNat)) :: st) (T, h) else none | none => none) = _
  rw [hL, h5]
  exact jpos (c := (24 : Nat) = 24 ∧ jinb i n = true) ⟨rfl, jinb_at hc⟩ rfl
theorem jEv.alen {o k n : Nat} (hf : jfI mi pc .arraylength 1 [] = true) (hL : T.1[o]? = some (k, n)) (hk : 20 ≤ k ∧ k < 25) (kk : jEv xs d (mi, pc + 1, ls, (0, (n : Int)) :: st) (T, h) y) : jEv xs d (mi, pc, ls, (2, Int.ofNat o) :: st) (T, h) y := by
  refine jEv.on ?_ kk
  unfold jn0; dsimp only; rw [jfI_of hf]
  show (match T.1[o]? with | some (k, n) => if 20 ≤ k ∧ k < 25 then jon mi (pc + 1) ls ((0, (n : Int)) :: st) (T, h) else none | none => none) = _
  rw [hL]
  exact jpos (c := 20 ≤ k ∧ k < 25) hk rfl
theorem jEv.alenX {z : Int} {k : Nat} {l : List Int} (hf : jfI mi pc .arraylength 1 [] = true) (hx : jext xs z = some (k, l)) (kk : jEv xs d (mi, pc + 1, ls, (0, (l.length : Int)) :: st) σ y) : jEv xs d (mi, pc, ls, (4, z) :: st) σ y := by
  refine jEv.on ?_ kk
  unfold jn0; dsimp only; rw [jfI_of hf]
  show (match jext xs z with | some (_, l) => jon mi (pc + 1) ls ((0, (l.length : Int)) :: st) σ | none => none) = _
  rw [hx]
  rfl
theorem jEv.gs {idx k b w : Nat} (hf : jfI mi pc (.getstatic idx) 3 [k, b, w] = true) (hk : k < 4) (kk : jEv xs d (mi, pc + 3, ls, (4, (k : Int)) :: st) σ y) : jEv xs d (mi, pc, ls, st) σ y := by
  refine jEv.on ?_ kk
  unfold jn0; dsimp only; rw [jfI_of hf]
  dsimp only [jst]
  split
  · rename_i hq; cases hq; omega
  · rename_i hq; cases hq; rw [if_pos hk]; rfl
  · rename_i hq1 hq2; exact absurd rfl (hq2 _ _ _)
theorem jEv.idiv {a b : Int} (hf : jfI mi pc .idiv 1 [] = true) (hb : b ≠ 0) (kk : jEv xs d (mi, pc + 1, ls, (0, wr (a.tdiv b)) :: st) σ y) : jEv xs d (mi, pc, ls, (0, b) :: (0, a) :: st) σ y := by
  refine jEv.on ?_ kk
  unfold jn0; dsimp only; rw [jfI_of hf]; exact jneg (c := b = 0) hb rfl
theorem jEv.irem {a b : Int} (hf : jfI mi pc .irem 1 [] = true) (hb : b ≠ 0) (kk : jEv xs d (mi, pc + 1, ls, (0, a.tmod b) :: st) σ y) : jEv xs d (mi, pc, ls, (0, b) :: (0, a) :: st) σ y := by
  refine jEv.on ?_ kk
  unfold jn0; dsimp only; rw [jfI_of hf]; exact jneg (c := b = 0) hb rfl
theorem jEv.ldiv {a b : Int} (hf : jfI mi pc .ldiv 1 [] = true) (hb : b ≠ 0) (kk : jEv xs d (mi, pc + 1, ls, (1, wl (a.tdiv b)) :: st) σ y) : jEv xs d (mi, pc, ls, (1, b) :: (1, a) :: st) σ y := by
  refine jEv.on ?_ kk
  unfold jn0; dsimp only; rw [jfI_of hf]; exact jneg (c := b = 0) hb rfl
theorem jEv.lrem {a b : Int} (hf : jfI mi pc .lrem 1 [] = true) (hb : b ≠ 0) (kk : jEv xs d (mi, pc + 1, ls, (1, a.tmod b) :: st) σ y) : jEv xs d (mi, pc, ls, (1, b) :: (1, a) :: st) σ y := by
  refine jEv.on ?_ kk
  unfold jn0; dsimp only; rw [jfI_of hf]; exact jneg (c := b = 0) hb rfl
def jisv (i : jI) : Bool := match i with
  | .invokevirtual _ => true
  | .invokestatic _ => true
  | .invokespecial _ => true
  | _ => false
theorem jn0_inv {i : jI} {info : List Nat} (hi : jisv i = true) (hf : jfI mi pc i 3 info = true) : jn0 xs (mi, pc, ls, st) σ = jinv info mi pc ls st σ := by
  unfold jn0; dsimp only; rw [jfI_of hf]
  cases i <;> first | rfl | cases hi
theorem jEv.calS {i : jI} {kd mi' na w : Nat} {st0 st' args : List jV} {r : jV} (hf : jfI mi pc i 3 [kd, mi', na, w] = true) (hi : jisv i = true) (hk : kd = 3 ∨ kd = 4) (hp : jpop na st0 = some (args, st)) (hr : jrm st ≤ 8) (hc : jEm xs d mi' args σ (r, σ')) (hst : jpush r st = st') (kk : jEv xs d (mi, pc + 3, ls, st') σ' y) : jEv xs d (mi, pc, ls, st0) σ y := by
  subst hst
  refine jEv.cal ?_ hc kk
  rw [jn0_inv hi hf]
  unfold jinv
  dsimp only
  rw [if_neg (by omega), if_neg (by omega)]
  unfold jcall
  rw [if_pos hk, hp]
  dsimp only
  rw [if_pos ⟨hr, by unfold jrcv; rw [if_pos hk]⟩]
theorem jEv.calV {i : jI} {kd mi' na w o c n : Nat} {st0 st' rest : List jV} {r : jV} (hf : jfI mi pc i 3 [kd, mi', na, w] = true) (hi : jisv i = true) (hk : kd = 1 ∨ kd = 2 ∨ kd = 5 ∨ kd = 6) (hp : jpop (na + 1) st0 = some ((2, Int.ofNat o) :: rest, st)) (hr : jrm st ≤ 8) (hci : (jmi mi').2.2.2.2.2.1.getD 4 99 = c) (hc13 : c < 13) (hL : σ.1.1[o]? = some (c, n)) (hc : jEm xs d mi' ((2, Int.ofNat o) :: rest) σ (r, σ')) (hst : jpush r st = st') (kk : jEv xs d (mi, pc + 3, ls, st') σ' y) : jEv xs d (mi, pc, ls, st0) σ y := by
  subst hst
  refine jEv.cal ?_ hc kk
  rw [jn0_inv hi hf]
  unfold jinv
  dsimp only
  rw [if_neg (by omega), if_neg (by omega)]
  unfold jcall
  rw [if_neg (by omega), hp]
  dsimp only
  have ej : jrcv σ.1 kd ((jmi mi').2.2.2.2.2.1.getD 4 99) ((2, Int.ofNat o) :: rest) = (jcls σ.1 o c && decide (c < 13)) := by
    unfold jrcv
    rw [if_neg (by omega), hci]
    rfl
  rw [if_pos ⟨hr, by rw [ej, jcls_at hL]; simp [hc13]⟩]
theorem jEv.calX {i : jI} {kd mi' na w : Nat} {z : Int} {st0 st' rest : List jV} {r : jV} (hf : jfI mi pc i 3 [kd, mi', na, w] = true) (hi : jisv i = true) (hk : kd = 1) (hp : jpop (na + 1) st0 = some ((4, z) :: rest, st)) (hr : jrm st ≤ 8) (hci : (jmi mi').2.2.2.2.2.1.getD 4 99 = 50) (hz : 10 ≤ z ∧ z < 40) (hc : jEm xs d mi' ((4, z) :: rest) σ (r, σ')) (hst : jpush r st = st') (kk : jEv xs d (mi, pc + 3, ls, st') σ' y) : jEv xs d (mi, pc, ls, st0) σ y := by
  subst hst
  refine jEv.cal ?_ hc kk
  rw [jn0_inv hi hf]
  unfold jinv
  dsimp only
  rw [if_neg (by omega), if_neg (by omega)]
  unfold jcall
  rw [if_neg (by omega), hp]
  dsimp only
  have ej : jrcv σ.1 kd ((jmi mi').2.2.2.2.2.1.getD 4 99) ((4, z) :: rest) = ((decide (kd = 1) || decide (kd = 2)) && decide ((50 : Nat) = 50) && decide (10 ≤ z) && decide (z < 40)) := by
    unfold jrcv
    rw [if_neg (by omega), hci]
    rfl
  rw [if_pos ⟨hr, by rw [ej]; simp [hk, hz.1, hz.2]⟩]
theorem jEv.cpy {i : jI} {a0 b0 w s dd ns nd : Nat} {n sp dp : Int} (hf : jfI mi pc i 3 [10, a0, b0, w] = true) (hi : jisv i = true) (hs : T.1[s]? = some (20, ns)) (hd : T.1[dd]? = some (20, nd)) (hr : jrm st ≤ 8) (H : (if 0 ≤ n ∧ 0 ≤ dp ∧ 0 ≤ sp ∧ sp.toNat + n.toNat ≤ ns ∧ dp.toNat + n.toNat ≤ nd then A else none) = some out) (kk : A = some out → jEv xs d (mi, pc + 3, ls, st) (T, jcpy h s dd sp.toNat dp.toNat n.toNat) y) : jEv xs d (mi, pc, ls, (0, n) :: (0, dp) :: (2, Int.ofNat dd) :: (0, sp) :: (2, Int.ofNat s) :: st) (T, h) y := by
  refine jchk H (fun hc H => jEv.on ?_ (kk H))
  rw [jn0_inv hi hf]
  unfold jinv
  dsimp only
  rw [if_neg (by decide), if_pos rfl]
  show (match T.1[s]?, T.1[dd]? with | some (ks, ns), some (kd, nd) => if ks = 20 ∧ kd = 20 ∧ 0 ≤ n ∧ 0 ≤ dp ∧ 0 ≤ sp ∧ sp.toNat + n.toNat ≤ ns ∧ dp.toNat + n.toNat ≤ nd ∧ jrm st ≤ 8 then jon mi (pc + 3) ls st (T, jcpy h s dd sp.toNat dp.toNat n.toNat) else none | _, _ => none) = _
  rw [hs, hd]
  exact jpos (c := (20 : Nat) = 20 ∧ (20 : Nat) = 20 ∧ 0 ≤ n ∧ 0 ≤ dp ∧ 0 ≤ sp ∧ sp.toNat + n.toNat ≤ ns ∧ dp.toNat + n.toNat ≤ nd ∧ jrm st ≤ 8) ⟨rfl, rfl, hc.1, hc.2.1, hc.2.2.1, hc.2.2.2.1, hc.2.2.2.2, hr⟩ rfl
theorem jEv.retI {v : Int} (hf : jfI mi pc .ireturn 1 [] = true) (hrc : (jmi mi).2.2.2.1 = 0) (e : y = ((0, v), σ)) : jEv xs d (mi, pc, ls, [(0, v)]) σ y := by
  subst e
  refine jEv.fin ?_
  unfold jn0; dsimp only; rw [jfI_of hf]; rw [hrc]; rfl
theorem jEv.retZ {v : Int} (hf : jfI mi pc .ireturn 1 [] = true) (hrc : (jmi mi).2.2.2.1 = 5) (hv : v = 0 ∨ v = 1) (e : y = ((0, v), σ)) : jEv xs d (mi, pc, ls, [(0, v)]) σ y := by
  subst e
  refine jEv.fin ?_
  unfold jn0; dsimp only; rw [jfI_of hf]; rw [hrc]
  exact jpos (c := jfit 22 v = true) (by rcases hv with e | e <;> simp [jfit, e]) rfl
theorem jEv.retJ {v : Int} (hf : jfI mi pc .lreturn 1 [] = true) (hrc : (jmi mi).2.2.2.1 = 1) (e : y = ((1, v), σ)) : jEv xs d (mi, pc, ls, [(1, v)]) σ y := by
  subst e
  refine jEv.fin ?_
  unfold jn0; dsimp only; rw [jfI_of hf]; exact jpos (c := (jmi mi).2.2.2.1 = 1) hrc rfl
theorem jEv.retR {v : Int} (hf : jfI mi pc .areturn 1 [] = true) (hrc : (jmi mi).2.2.2.1 = 9) (e : y = ((2, v), σ)) : jEv xs d (mi, pc, ls, [(2, v)]) σ y := by
  subst e
  refine jEv.fin ?_
  unfold jn0; dsimp only; rw [jfI_of hf]; exact jpos (c := (jmi mi).2.2.2.1 = 9) hrc rfl
theorem jEv.retN {v : Int} (hf : jfI mi pc .areturn 1 [] = true) (hrc : (jmi mi).2.2.2.1 = 9) (e : y = ((5, v), σ)) : jEv xs d (mi, pc, ls, [(5, v)]) σ y := by
  subst e
  refine jEv.fin ?_
  unfold jn0; dsimp only; rw [jfI_of hf]; exact jpos (c := (jmi mi).2.2.2.1 = 9) hrc rfl
theorem jEv.ifN {off v : Int} (hf : jfI mi pc (.ifnull off) 3 [] = true) (ht : jtgt pc off = t) (kk : jEv xs d (mi, t, ls, st) σ y) : jEv xs d (mi, pc, ls, (5, v) :: st) σ y := by
  subst ht
  refine jEv.on ?_ kk
  unfold jn0; dsimp only; rw [jfI_of hf]; rfl
theorem jEv.ifR {off : Int} {o c n : Nat} (hf : jfI mi pc (.ifnull off) 3 [] = true) (hL : T.1[o]? = some (c, n)) (hc : c < 13) (kk : jEv xs d (mi, pc + 3, ls, st) (T, h) y) : jEv xs d (mi, pc, ls, (2, Int.ofNat o) :: st) (T, h) y := by
  refine jEv.on ?_ kk
  unfold jn0; dsimp only; rw [jfI_of hf]
  show (match T.1[o]? with | some (k, _) => if k < 13 then jon mi (pc + 3) ls st (T, h) else none | none => none) = _
  rw [hL]
  exact jpos (c := c < 13) hc rfl
theorem jEv.retV (hf : jfI mi pc .return_ 1 [] = true) (hrc : (jmi mi).2.2.2.1 = 3) (e : y = ((3, 0), σ)) : jEv xs d (mi, pc, ls, []) σ y := by
  subst e
  refine jEv.fin ?_
  unfold jn0; dsimp only; rw [jfI_of hf]; exact jpos (c := (jmi mi).2.2.2.1 = 3) hrc rfl
theorem jEv.tsI {dflt lo hi off a v : Int} {offs : Array Int} {n : Nat} (hf : jfI mi pc (.tableswitch dflt lo hi offs) n [] = true) (e : a = v) (h1 : lo ≤ v ∧ v ≤ hi) (ho : offs[(v - lo).toNat]? = some off) (ht : jtgt pc off = t) (h0 : 0 ≤ (pc : Int) + off) (kk : jEv xs d (mi, t, ls, st) σ y) : jEv xs d (mi, pc, ls, (0, a) :: st) σ y := by
  subst e
  refine jEv.on ?_ kk
  unfold jn0; dsimp only; rw [jfI_of hf];
  show (if a < lo ∨ hi < a then (if 0 ≤ (pc : Int) + dflt then jon mi (jtgt pc dflt) ls st σ else none) else match offs[(a - lo).toNat]? with | some off => if 0 ≤ (pc : Int) + off then jon mi (jtgt pc off) ls st σ else none | none => none) = _
  rw [if_neg (by omega), ho]
  subst ht
  exact jpos (c := 0 ≤ (pc : Int) + off) h0 rfl
theorem jEv.tsO {dflt lo hi a : Int} {offs : Array Int} {n : Nat} (hf : jfI mi pc (.tableswitch dflt lo hi offs) n [] = true) (h1 : a < lo ∨ hi < a) (ht : jtgt pc dflt = t) (h0 : 0 ≤ (pc : Int) + dflt) (kk : jEv xs d (mi, t, ls, st) σ y) : jEv xs d (mi, pc, ls, (0, a) :: st) σ y := by
  refine jEv.on ?_ kk
  unfold jn0; dsimp only; rw [jfI_of hf];
  show (if a < lo ∨ hi < a then (if 0 ≤ (pc : Int) + dflt then jon mi (jtgt pc dflt) ls st σ else none) else match offs[(a - lo).toNat]? with | some off => if 0 ≤ (pc : Int) + off then jon mi (jtgt pc off) ls st σ else none | none => none) = _
  rw [if_pos h1]
  subst ht
  exact jpos (c := 0 ≤ (pc : Int) + dflt) h0 rfl
theorem jEv.lsw {dflt a off : Int} {ps : Array (Int × Int)} {n : Nat} (hf : jfI mi pc (.lookupswitch dflt ps) n [] = true) (ho : Op.lookupswitch.offset ps.toList dflt a = off) (ht : jtgt pc off = t) (h0 : 0 ≤ (pc : Int) + off) (kk : jEv xs d (mi, t, ls, st) σ y) : jEv xs d (mi, pc, ls, (0, a) :: st) σ y := by
  refine jEv.on ?_ kk
  unfold jn0; dsimp only; rw [jfI_of hf];
  subst ho
  subst ht
  exact jpos (c := 0 ≤ (pc : Int) + Op.lookupswitch.offset ps.toList dflt a) h0 rfl
theorem jEm.ent {n : Nat} {args : List jV} (hn : (jmi mi).2.2.1 = n) (hl : (jexp args).length ≤ n) (k : jEv xs d (mi, 0, jpad n (jexp args), []) σ y) : jEm xs (d + 1) mi args σ y := by
  refine jEm.of (by rw [hn]; exact hl) ?_
  unfold jent
  rw [hn]
  exact k
end JEV2
/-- loops -/
def jit {S O : Type} (f : S → Option (S ⊕ O)) : Nat → S → Option O
  | 0, _ => none
  | n + 1, s => match f s with
    | none => none
    | some (.inl s') => jit f n s'
    | some (.inr o) => some o
theorem jit_mono {S O : Type} {f : S → Option (S ⊕ O)} : ∀ (n m : Nat) (s : S) (o : O), n ≤ m → jit f n s = some o → jit f m s = some o := by
  intro n
  induction n with
  | zero => intro m s o _ h; cases h
  | succ n ih =>
    intro m s o hm h
    obtain ⟨m, rfl⟩ : ∃ q, m = q + 1 := ⟨m - 1, by omega⟩
    unfold jit at h ⊢
    split at h
    · cases h
    · rename_i s' e; exact ih m s' o (by omega) h
    · rename_i o' e; exact h
noncomputable def jloop {S O : Type} (f : S → Option (S ⊕ O)) (s : S) : Option O := @dite (Option O) (∃ n o, jit f n s = some o) (Classical.propDecidable _) (fun h => some (Classical.choose (Classical.choose_spec h))) (fun _ => none)
theorem jloop_iff {S O : Type} {f : S → Option (S ⊕ O)} {s : S} {o : O} : jloop f s = some o ↔ ∃ n, jit f n s = some o := by
  classical
  unfold jloop
  constructor
  · intro h
    split at h
    · rename_i hq
      have := Classical.choose_spec (Classical.choose_spec hq)
      rw [Option.some.inj h] at this
      exact ⟨_, this⟩
    · cases h
  · rintro ⟨n, hn⟩
    have hq : ∃ n o, jit f n s = some o := ⟨n, o, hn⟩
    rw [dif_pos hq]
    have h2 := Classical.choose_spec (Classical.choose_spec hq)
    have h3 := jit_mono _ (max n (Classical.choose hq)) _ _ (Nat.le_max_left _ _) hn
    have h4 := jit_mono _ (max n (Classical.choose hq)) _ _ (Nat.le_max_right _ _) h2
    rw [h3] at h4
    exact congrArg some (Option.some.inj h4).symm
theorem jloop_eq {S O : Type} (f : S → Option (S ⊕ O)) (s : S) : jloop f s = match f s with
    | none => none
    | some (.inl s') => jloop f s'
    | some (.inr o) => some o := by
  cases hf : f s with
  | none =>
    cases hq : jloop f s with
    | none => rfl
    | some o =>
      obtain ⟨n, hn⟩ := jloop_iff.mp hq
      cases n with
      | zero => cases hn
      | succ n => unfold jit at hn; rw [hf] at hn; cases hn
  | some z =>
    rcases z with s' | o
    · dsimp only
      cases hq : jloop f s' with
      | none =>
        cases hq2 : jloop f s with
        | none => rfl
        | some o =>
          obtain ⟨n, hn⟩ := jloop_iff.mp hq2
          cases n with
          | zero => cases hn
          | succ n =>
            unfold jit at hn
            rw [hf] at hn
            rw [jloop_iff.mpr ⟨n, hn⟩] at hq
            cases hq
      | some o =>
        obtain ⟨n, hn⟩ := jloop_iff.mp hq
        exact jloop_iff.mpr ⟨n + 1, by unfold jit; rw [hf]; exact hn⟩
    · exact jloop_iff.mpr ⟨1, by unfold jit; rw [hf]⟩
theorem jloop_sound {S O : Type} {f : S → Option (S ⊕ O)} {G : S → Prop} {K : S ⊕ O → Prop} (hstep : ∀ s out, f s = some out → K out → G s) (hK : ∀ s', G s' → K (.inl s')) {s : S} {o : O} (H : jloop f s = some o) (HY : K (.inr o)) : G s := by
  obtain ⟨n, hn⟩ := jloop_iff.mp H
  clear H
  induction n generalizing s with
  | zero => cases hn
  | succ n ih =>
    unfold jit at hn
    split at hn
    · cases hn
    · rename_i s' e
      exact hstep s _ e (hK s' (ih hn))
    · rename_i o' e
      cases hn
      exact hstep s _ e HY
