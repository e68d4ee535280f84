/-! soundness, first part: what changes locals and stack alone -/
def jrv (ad : Nat → Nat) (r : Nat) : Value := if r = 0 then .null else .ref (ad r)
def jcv (ad : Nat → Nat) (xv : Nat → Value) (v : jV) : Value := match v.1 with
  | 0 => .int (Int32.ofInt v.2)
  | 1 => .long (Int64.ofInt v.2)
  | 2 => jrv ad v.2.toNat
  | 4 => xv v.2.toNat
  | _ => .null
def jlv (ad : Nat → Nat) (xv : Nat → Value) : Nat → List jV → List (Nat × Value)
  | _, [] => []
  | i, v :: r => if v.1 = 3 then jlv ad xv (i + 1) r else (i, jcv ad xv v) :: jlv ad xv (i + 1) r
def jI32 (x : Int) : Prop := -2147483648 ≤ x ∧ x < 2147483648
def jI64 (x : Int) : Prop := -9223372036854775808 ≤ x ∧ x < 9223372036854775808
def jwv (n : Nat) (v : jV) : Prop := match v.1 with
  | 0 => jI32 v.2
  | 1 => jI64 v.2
  | 2 => 0 ≤ v.2 ∧ v.2.toNat < n
  | 4 => 0 ≤ v.2
  | _ => True
def jwl (n : Nat) (ls : List jV) : Prop := ∀ v ∈ ls, jwv n v
def jws (n : Nat) (st : List jV) : Prop := ∀ v ∈ st, jwv n v ∧ v.1 ≠ 3 ∧ v.1 < 6
def jref (v : Value) : Prop := v = .null ∨ ∃ a, v = .ref a
theorem jref.cat {v : Value} (h : jref v) : v.category = 1 := by
  rcases h with rfl | ⟨a, rfl⟩ <;> rfl
theorem jrv_ref (ad : Nat → Nat) (r : Nat) : jref (jrv ad r) := by
  unfold jrv
  split
  · exact Or.inl rfl
  · exact Or.inr ⟨_, rfl⟩
theorem wr_in (x : Int) : jI32 (wr x) := ⟨Int32.le_toInt _, Int32.toInt_lt _⟩
theorem wl_in (x : Int) : jI64 (wl x) := ⟨Int64.le_toInt _, Int64.toInt_lt _⟩
theorem wr_of (x : Int) : Int32.ofInt (wr x) = Int32.ofInt x := Int32.ofInt_toInt _
theorem wl_of (x : Int) : Int64.ofInt (wl x) = Int64.ofInt x := Int64.ofInt_toInt _
theorem wr_id {x : Int} (h : jI32 x) : wr x = x := Int32.toInt_ofInt_of_le h.1 h.2
theorem wl_id {x : Int} (h : jI64 x) : wl x = x := Int64.toInt_ofInt_of_le h.1 h.2
theorem jti {x : Int} (h : jI32 x) : (Int32.ofInt x).toInt = x := wr_id h
theorem jtl {x : Int} (h : jI64 x) : (Int64.ofInt x).toInt = x := wl_id h
theorem jof_lt {a b : Int} (ha : jI32 a) (hb : jI32 b) : Int32.ofInt a < Int32.ofInt b ↔ a < b := by
  rw [Int32.lt_iff_toInt_lt, jti ha, jti hb]
theorem jof_eq {a b : Int} (ha : jI32 a) (hb : jI32 b) : Int32.ofInt a = Int32.ofInt b ↔ a = b := by
  rw [← Int32.toInt_inj, jti ha, jti hb]
theorem jof_le {a b : Int} (ha : jI32 a) (hb : jI32 b) : Int32.ofInt a ≤ Int32.ofInt b ↔ a ≤ b := by
  rw [Int32.le_iff_toInt_le, jti ha, jti hb]
theorem jofl_lt {a b : Int} (ha : jI64 a) (hb : jI64 b) : Int64.ofInt a < Int64.ofInt b ↔ a < b := by
  rw [Int64.lt_iff_toInt_lt, jtl ha, jtl hb]
theorem jofl_eq {a b : Int} (ha : jI64 a) (hb : jI64 b) : Int64.ofInt a = Int64.ofInt b ↔ a = b := by
  rw [← Int64.toInt_inj, jtl ha, jtl hb]
theorem jcv_i (ad : Nat → Nat) (xv : Nat → Value) (x : Int) : jcv ad xv (0, x) = .int (Int32.ofInt x) := rfl
theorem jcv_l (ad : Nat → Nat) (xv : Nat → Value) (x : Int) : jcv ad xv (1, x) = .long (Int64.ofInt x) := rfl
theorem jcv_r (ad : Nat → Nat) (xv : Nat → Value) (x : Int) : jcv ad xv (2, x) = jrv ad x.toNat := rfl
theorem jcv_x (ad : Nat → Nat) (xv : Nat → Value) (x : Int) : jcv ad xv (4, x) = xv x.toNat := rfl
theorem jcv_cat {ad : Nat → Nat} {xv : Nat → Value} (hx : ∀ x, jref (xv x)) {v : jV} (h3 : v.1 ≠ 3) (h5 : v.1 < 6) : (jcv ad xv v).category = jcat v := by
  obtain ⟨t, x⟩ := v
  match t, h3, h5 with
  | 0, _, _ => rfl
  | 1, _, _ => rfl
  | 2, _, _ => exact (jrv_ref ad _).cat
  | 4, _, _ => exact (hx _).cat
  | 5, _, _ => rfl
theorem jlv_mem {ad : Nat → Nat} {xv : Nat → Value} : ∀ (ls : List jV) (n : Nat) (q : Nat × Value), q ∈ jlv ad xv n ls ↔ ∃ j v, jget ls j = some v ∧ v.1 ≠ 3 ∧ q = (n + j, jcv ad xv v) := by
  intro ls
  induction ls with
  | nil => intro n q; simp [jlv, jget]
  | cons a r ih =>
    intro n q
    have ih' := ih (n + 1) q
    constructor
    · intro h
      unfold jlv at h
      split at h
      · obtain ⟨j, v, h1, h2, h3⟩ := ih'.mp h
        exact ⟨j + 1, v, h1, h2, by rw [h3]; congr 1; omega⟩
      · rcases List.mem_cons.mp h with rfl | h
        · exact ⟨0, a, rfl, by assumption, rfl⟩
        · obtain ⟨j, v, h1, h2, h3⟩ := ih'.mp h
          exact ⟨j + 1, v, h1, h2, by rw [h3]; congr 1; omega⟩
    · rintro ⟨j, v, h1, h2, rfl⟩
      unfold jlv
      cases j with
      | zero =>
        have h1 : a = v := Option.some.inj h1
        subst h1
        rw [if_neg h2]
        exact List.mem_cons_self
      | succ j =>
        have h4 : (n + (j + 1), jcv ad xv v) ∈ jlv ad xv (n + 1) r := ih'.mpr ⟨j, v, h1, h2, by congr 1; omega⟩ |> fun h => by
          have e : n + 1 + j = n + (j + 1) := by omega
          exact h
        split
        · exact h4
        · exact List.mem_cons_of_mem _ h4
theorem jset_len : ∀ (ls : List jV) (k : Nat) (v : jV), (jset ls k v).length = ls.length := by
  intro ls
  induction ls with
  | nil => intro k v; rfl
  | cons a r ih => intro k v; cases k with
    | zero => rfl
    | succ k => simp [jset, ih]
theorem jget_set : ∀ (ls : List jV) (k j : Nat) (v : jV), jget (jset ls k v) j = if j = k then (jget ls k).map (fun _ => v) else jget ls j := by
  intro ls
  induction ls with
  | nil => intro k j v; simp [jset, jget]
  | cons a r ih =>
    intro k j v
    cases k with
    | zero => cases j with
      | zero => simp [jset, jget]
      | succ j => simp [jset, jget]
    | succ k => cases j with
      | zero => simp [jset, jget]
      | succ j => simp [jset, jget, ih]
theorem jget_lt : ∀ (ls : List jV) (k : Nat) (v : jV), jget ls k = some v → k < ls.length := by
  intro ls
  induction ls with
  | nil => intro k v h; simp [jget] at h
  | cons a r ih => intro k v h; cases k with
    | zero => simp
    | succ k => simpa using ih k v h
theorem jget_mem : ∀ (ls : List jV) (k : Nat) (v : jV), jget ls k = some v → v ∈ ls := by
  intro ls
  induction ls with
  | nil => intro k v h; simp [jget] at h
  | cons a r ih => intro k v h; cases k with
    | zero => simp [jget] at h; simp [h]
    | succ k => exact List.mem_cons_of_mem _ (ih k v h)
theorem jset_mem {ls : List jV} {k : Nat} {v w : jV} (h : w ∈ jset ls k v) : w = v ∨ w ∈ ls := by
  induction ls generalizing k with
  | nil => simp [jset] at h
  | cons a r ih => cases k with
    | zero =>
      rcases List.mem_cons.mp h with h | h
      · exact Or.inl h
      · exact Or.inr (List.mem_cons_of_mem _ h)
    | succ k =>
      rcases List.mem_cons.mp h with h | h
      · exact Or.inr (h ▸ List.mem_cons_self)
      · exact (ih h).imp id (List.mem_cons_of_mem _)
theorem jclr_len (ls : List jV) (i : Nat) : (jclr ls i).length = ls.length := by
  unfold jclr
  split
  · rfl
  · split
    · exact jset_len _ _ _
    · rfl
theorem jclr_get {ls : List jV} {k j : Nat} {w : jV} (h : jget (jclr ls k) j = some w) (h3 : w.1 ≠ 3) : jget ls j = some w ∧ (j + 1 = k → w.1 ≠ 1) := by
  unfold jclr at h
  split at h
  · exact ⟨h, fun e => by omega⟩
  · rename_i i
    split at h
    · rename_i x hx
      rw [jget_set] at h
      split at h
      · rw [hx] at h
        cases h
        exact absurd rfl h3
      · exact ⟨h, fun e => by omega⟩
    · rename_i hx
      refine ⟨h, fun e h1 => ?_⟩
      have e2 : j = i := by omega
      subst e2
      obtain ⟨t, y⟩ := w
      have h1 : t = 1 := h1
      subst h1
      exact hx _ h
theorem jclr_mem {ls : List jV} {k : Nat} {w : jV} (h : w ∈ jclr ls k) : w = (3, 0) ∨ w ∈ ls := by
  unfold jclr at h
  split at h
  · exact Or.inr h
  · split at h
    · exact jset_mem h
    · exact Or.inr h
/-- locals behind a store of one word -/
theorem jst1_has {ad : Nat → Nat} {xv : Nat → Value} (hx : ∀ x, jref (xv x)) {ls ls' : List jV} {k : Nat} {v : jV} (h : jst1 ls k v = some ls') (hv : v.1 ≠ 3) (hw : ∀ w ∈ ls, w.1 < 6) {arr : Array Slot} {nL : Nat} (ha : lv_has arr nL ((k, jcv ad xv v) :: (jlv ad xv 0 ls).filter (fun q => !(q.1 == k) && !(q.1 + 1 == k && q.2.category == 2)))) : lv_has arr nL (jlv ad xv 0 ls') ∧ ls'.length = ls.length := by
  unfold jst1 at h
  split at h
  · cases h
  · cases h
    refine ⟨⟨ha.1, ha.2.1, fun q hq => ha.2.2 q ?_⟩, by rw [jset_len, jclr_len]⟩
    obtain ⟨j, w, h1, h2, rfl⟩ := (jlv_mem _ _ _).mp hq
    rw [jget_set] at h1
    split at h1
    · rename_i hjk
      subst hjk
      cases hg : jget (jclr ls j) j with
      | none => rw [hg] at h1; cases h1
      | some y =>
        rw [hg] at h1
        cases h1
        rw [Nat.zero_add]
        exact List.mem_cons_self
    · rename_i hjk
      obtain ⟨h1, hn⟩ := jclr_get h1 h2
      refine List.mem_cons_of_mem _ (List.mem_filter.mpr ⟨(jlv_mem _ _ _).mpr ⟨j, w, h1, h2, rfl⟩, ?_⟩)
      rw [Nat.zero_add]
      have hc := jcv_cat (ad := ad) hx h2 (hw w (jget_mem _ _ _ h1))
      simp only [Bool.and_eq_true, Bool.not_eq_true', beq_eq_false_iff_ne, Bool.and_eq_false_iff]
      refine ⟨hjk, ?_⟩
      by_cases e : j + 1 = k
      · right
        rw [hc]
        simp [jcat, hn e]
      · left; exact e
theorem jst2_has {ad : Nat → Nat} {xv : Nat → Value} (hx : ∀ x, jref (xv x)) {ls ls' : List jV} {k : Nat} {v : jV} (h : jst2 ls k v = some ls') (hv : v.1 ≠ 3) (hw : ∀ w ∈ ls, w.1 < 6) {arr : Array Slot} {nL : Nat} (ha : lv_has arr nL ((k, jcv ad xv v) :: (jlv ad xv 0 ls).filter (fun q => !(q.1 == k) && (!(q.1 == k + 1) && !(q.1 + 1 == k && q.2.category == 2))))) : lv_has arr nL (jlv ad xv 0 ls') ∧ ls'.length = ls.length := by
  unfold jst2 at h
  split at h
  · cases h
  · cases h
    refine ⟨⟨ha.1, ha.2.1, fun q hq => ha.2.2 q ?_⟩, by rw [jset_len, jset_len, jclr_len]⟩
    obtain ⟨j, w, h1, h2, rfl⟩ := (jlv_mem _ _ _).mp hq
    rw [jget_set] at h1
    split at h1
    · cases hg : jget (jset (jclr ls k) k v) (k + 1) with
      | none => rw [hg] at h1; cases h1
      | some y =>
        rw [hg] at h1
        cases h1
        exact absurd rfl h2
    · rename_i hjk1
      rw [jget_set] at h1
      split at h1
      · rename_i hjk
        subst hjk
        cases hg : jget (jclr ls j) j with
        | none => rw [hg] at h1; cases h1
        | some y =>
          rw [hg] at h1
          cases h1
          rw [Nat.zero_add]
          exact List.mem_cons_self
      · rename_i hjk
        obtain ⟨h1, hn⟩ := jclr_get h1 h2
        refine List.mem_cons_of_mem _ (List.mem_filter.mpr ⟨(jlv_mem _ _ _).mpr ⟨j, w, h1, h2, rfl⟩, ?_⟩)
        rw [Nat.zero_add]
        have hc := jcv_cat (ad := ad) hx h2 (hw w (jget_mem _ _ _ h1))
        simp only [Bool.and_eq_true, Bool.not_eq_true', beq_eq_false_iff_ne, Bool.and_eq_false_iff]
        refine ⟨hjk, hjk1, ?_⟩
        by_cases e : j + 1 = k
        · right
          rw [hc]
          simp [jcat, hn e]
        · left; exact e
section JSIMPLE
variable {p : Program} {l : Launch} {e : Env} {R : Room} {s : State} {m : MethodId} {args : Array Value} {below : List Frame} {meth : Method} {c : Code} {H : Heap} {locs : List Loc} {cells slots : Nat} {Q : State → Prop}
variable {cc : ByteArray} {pc : Nat} {arr : Array Slot} {ad : Nat → Nat} {xv : Nat → Value} {ls st ls' st' : List jV} {nr : Nat}
/-- what the constants' words say -/
def jcon (own : String) (i : jI) (info : List Nat) (s : State) (args : Array Value) (xv : Nat → Value) : Prop := match i, info with
  | .ldc idx, [0, 0, m, _] => (Jvm.Cond.constant own idx (Int32.ofInt (m : Int))).before args s = true
  | .ldc idx, [0, 1, m, _] => (Jvm.Cond.constant own idx (Int32.ofInt (-(m : Int)))).before args s = true
  | .ldc_w idx, [0, 0, m, _] => (Jvm.Cond.constant own idx (Int32.ofInt (m : Int))).before args s = true
  | .ldc_w idx, [0, 1, m, _] => (Jvm.Cond.constant own idx (Int32.ofInt (-(m : Int)))).before args s = true
  | .ldc2_w idx, [1, 0, m, _] => (Jvm.Cond.constantLong own idx (Int64.ofInt (m : Int))).before args s = true
  | .ldc2_w idx, [1, 1, m, _] => (Jvm.Cond.constantLong own idx (Int64.ofInt (-(m : Int)))).before args s = true
  | .ldc idx, [4, k, _, _] => ∃ tx a, vk_R own idx tx a s ∧ xv k = .ref a
  | .ldc_w _, [4, _, _, _] => False
  | _, _ => True
/-- the rows' own numbers are such as they may be -/
def jnum (i : jI) (info : List Nat) : Prop := match i, info with
  | .iconst n, _ => -1 ≤ n ∧ n ≤ 5
  | .bipush n, _ => -128 ≤ n ∧ n < 128
  | .sipush n, _ => -32768 ≤ n ∧ n < 32768
  | .ldc _, [0, 0, m, _] => m < 2147483648
  | .ldc _, [0, 1, m, _] => m < 2147483648
  | .ldc_w _, [0, 0, m, _] => m < 2147483648
  | .ldc_w _, [0, 1, m, _] => m < 2147483648
  | .ldc2_w _, [1, 0, m, _] => m < 9223372036854775808
  | .ldc2_w _, [1, 1, m, _] => m < 9223372036854775808
  | _, _ => True
theorem jwl_get {n : Nat} (h : jwl n ls) {k : Nat} {v : jV} (hg : jget ls k = some v) : jwv n v := h v (jget_mem _ _ _ hg)
theorem jlv_at (hl : lv_has arr ls.length (jlv ad xv 0 ls)) {k : Nat} {v : jV} (hg : jget ls k = some v) (h3 : v.1 ≠ 3) : arr[k]? = some (.val (jcv ad xv v)) := hl.2.2 (k, jcv ad xv v) ((jlv_mem _ _ _).mpr ⟨k, v, hg, h3, by rw [Nat.zero_add]⟩)
theorem jst_mem {k : Nat} {v w : jV} (hm : w ∈ jset (jclr ls k) k v) : w = v ∨ w = (3, 0) ∨ w ∈ ls := by
  rcases jset_mem hm with h | h
  · exact Or.inl h
  · exact Or.inr (jclr_mem h)
theorem jst1_wf {n k : Nat} {v : jV} (h : jst1 ls k v = some ls') (hw : jwl n ls) (hv : jwv n v) : jwl n ls' := by
  unfold jst1 at h
  split at h
  · cases h
  · cases h
    intro w hm
    rcases jst_mem hm with rfl | rfl | hm
    · exact hv
    · trivial
    · exact hw w hm
theorem jst2_wf {n k : Nat} {v : jV} (h : jst2 ls k v = some ls') (hw : jwl n ls) (hv : jwv n v) : jwl n ls' := by
  unfold jst2 at h
  split at h
  · cases h
  · cases h
    intro w hm
    rcases jset_mem hm with rfl | hm
    · trivial
    · rcases jst_mem hm with rfl | rfl | hm
      · exact hv
      · trivial
      · exact hw w hm
theorem jst1_lt {k : Nat} {v : jV} (h : jst1 ls k v = some ls') : k < ls.length := by
  unfold jst1 at h
  split at h
  · cases h
  · exact jget_lt _ _ _ (by assumption)
theorem jst2_lt {k : Nat} {v : jV} (h : jst2 ls k v = some ls') : k + 1 < ls.length := by
  unfold jst2 at h
  split at h
  · cases h
  · exact jget_lt _ _ _ (by assumption)
/-- the same, with the tags in the locals below five -/
def jtg (ls : List jV) : Prop := ∀ w ∈ ls, w.1 < 6
theorem jst1_tg {k : Nat} {v : jV} (h : jst1 ls k v = some ls') (hw : jtg ls) (hv : v.1 < 6) : jtg ls' := by
  unfold jst1 at h
  split at h
  · cases h
  · cases h
    intro w hm
    rcases jst_mem hm with rfl | rfl | hm
    · exact hv
    · exact (by decide : 3 < 6)
    · exact hw w hm
theorem jst2_tg {k : Nat} {v : jV} (h : jst2 ls k v = some ls') (hw : jtg ls) (hv : v.1 < 6) : jtg ls' := by
  unfold jst2 at h
  split at h
  · cases h
  · cases h
    intro w hm
    rcases jset_mem hm with rfl | hm
    · exact (by decide : 3 < 6)
    · rcases jst_mem hm with rfl | rfl | hm
      · exact hv
      · exact (by decide : 3 < 6)
      · exact hw w hm
/-- what a row leaves is right again -/
abbrev jNext (W' : Nat → Array Slot → List Value → Prop) (ad : Nat → Nat) (xv : Nat → Value) (nL n pc' : Nat) (ls' st' : List jV) : Prop := ∀ arr' : Array Slot, lv_has arr' nL (jlv ad xv 0 ls') → ls'.length = nL → jwl n ls' → jtg ls' → jws n st' → W' pc' arr' (st'.map (jcv ad xv))
theorem jws_tail {n : Nat} {v : jV} {r : List jV} (h : jws n (v :: r)) : jws n r := fun w hm => h w (List.mem_cons_of_mem _ hm)
theorem jws_head {n : Nat} {v : jV} {r : List jV} (h : jws n (v :: r)) : jwv n v := (h v List.mem_cons_self).1
theorem jws_cons {n : Nat} {v : jV} {r : List jV} (hv : jwv n v) (h3 : v.1 ≠ 3) (h5 : v.1 < 6) (h : jws n r) : jws n (v :: r) := fun w hm => by
  rcases List.mem_cons.mp hm with rfl | hm
  · exact ⟨hv, h3, h5⟩
  · exact h w hm
theorem jw32_lit {n : Int} (h : -32768 ≤ n ∧ n < 32768) : jI32 n := ⟨by omega, by omega⟩
theorem jof8 {n : Int} (h : -128 ≤ n ∧ n < 128) : (Int8.ofInt n).toInt32 = Int32.ofInt n := by
  apply Int32.toInt_inj.mp
  rw [Int8.toInt_toInt32, Int8.toInt_ofInt_of_le h.1 h.2, jti ⟨by omega, by omega⟩]
theorem jof16 {n : Int} (h : -32768 ≤ n ∧ n < 32768) : (Int16.ofInt n).toInt32 = Int32.ofInt n := by
  apply Int32.toInt_inj.mp
  rw [Int16.toInt_toInt32, Int16.toInt_ofInt_of_le h.1 h.2, jti ⟨by omega, by omega⟩]
theorem jand_of (a b : Int) : Int32.ofInt (jand a b) = Int32.ofInt a &&& Int32.ofInt b := Int32.ofInt_toInt _
theorem jor_of (a b : Int) : Int32.ofInt (jor a b) = Int32.ofInt a ||| Int32.ofInt b := Int32.ofInt_toInt _
theorem jxor_of (a b : Int) : Int32.ofInt (jxor a b) = Int32.ofInt a ^^^ Int32.ofInt b := Int32.ofInt_toInt _
theorem jshl_of (a b : Int) : Int32.ofInt (jshl a b) = Int32.ofInt a <<< (Int32.ofInt b &&& 31) := Int32.ofInt_toInt _
theorem jshr_of (a b : Int) : Int32.ofInt (jshr a b) = Int32.ofInt a >>> (Int32.ofInt b &&& 31) := Int32.ofInt_toInt _
theorem jlan_of (a b : Int) : Int64.ofInt (jlan a b) = Int64.ofInt a &&& Int64.ofInt b := Int64.ofInt_toInt _
theorem jin32 (x : Int32) : jI32 x.toInt := ⟨Int32.le_toInt _, Int32.toInt_lt _⟩
theorem jin64 (x : Int64) : jI64 x.toInt := ⟨Int64.le_toInt _, Int64.toInt_lt _⟩
end JSIMPLE
