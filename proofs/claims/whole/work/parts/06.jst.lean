/-! soundness of a step that changes locals and stack alone -/
section JSTS
variable {p : Program} {l : Launch} {e : Env} {R : Room} {s : State} {m : MethodId} {args : Array Value} {below : List Frame} {meth : Method} {c : Code} {H : Heap} {locs : List Loc} {cells slots : Nat} {Q : State → Prop}
variable {cc : ByteArray} {pc : Nat} {arr : Array Slot} {ad : Nat → Nat} {xv : Nat → Value} {ls st ls' st' : List jV} {nr : Nat}
theorem jal (hx : p.tables.exec = Jvm.exec) (hb : c.code = cc) {k : Nat} {v : Value} {rest : List Value} (hdg : decode cc pc = .ok (.aload k, 2)) (hg : arr[k]? = some (.val v)) (hv : jref v) (kk : W p l e R s m args below meth c H locs cells slots Q (F0 m (pc + 2) arr (v :: rest))) : W p l e R s m args below meth c H locs cells slots Q (F0 m pc arr rest) := by
  rcases hv with rfl | ⟨a, rfl⟩
  · exact lv_aloadN hx hb hdg hg kk
  · exact lv_aload hx hb hdg hg kk
theorem jal_n (hx : p.tables.exec = Jvm.exec) (hb : c.code = cc) {k : Fin 4} {v : Value} {rest : List Value} (hdg : decode cc pc = .ok (.aload_n k, 1)) (hg : arr[k.val]? = some (.val v)) (hv : jref v) (kk : W p l e R s m args below meth c H locs cells slots Q (F0 m (pc + 1) arr (v :: rest))) : W p l e R s m args below meth c H locs cells slots Q (F0 m pc arr rest) := by
  rcases hv with rfl | ⟨a, rfl⟩
  · exact lv_aload_nN hx hb hdg rfl hg kk
  · exact lv_aload_n hx hb hdg rfl hg kk
theorem jas (hx : p.tables.exec = Jvm.exec) (hb : c.code = cc) {k nL : Nat} {v : Value} {rest : List Value} {lv : List (Nat × Value)} (hdg : decode cc pc = .ok (.astore k, 2)) (hl : lv_has arr nL lv) (hk : k < nL) (hv : jref v) (kk : ∀ arr' : Array Slot, lv_has arr' nL ((k, v) :: lv.filter (fun q => !(q.1 == k) && !(q.1 + 1 == k && q.2.category == 2))) → W p l e R s m args below meth c H locs cells slots Q (F0 m (pc + 2) arr' rest)) : W p l e R s m args below meth c H locs cells slots Q (F0 m pc arr (v :: rest)) := by
  rcases hv with rfl | ⟨a, rfl⟩
  · exact lv_astoreN hx hb hdg hl hk rfl kk
  · exact lv_astore hx hb hdg hl hk rfl kk
theorem jas_n (hx : p.tables.exec = Jvm.exec) (hb : c.code = cc) {k : Fin 4} {nL : Nat} {v : Value} {rest : List Value} {lv : List (Nat × Value)} (hdg : decode cc pc = .ok (.astore_n k, 1)) (hl : lv_has arr nL lv) (hk : k.val < nL) (hv : jref v) (kk : ∀ arr' : Array Slot, lv_has arr' nL ((k.val, v) :: lv.filter (fun q => !(q.1 == k.val) && !(q.1 + 1 == k.val && q.2.category == 2))) → W p l e R s m args below meth c H locs cells slots Q (F0 m (pc + 1) arr' rest)) : W p l e R s m args below meth c H locs cells slots Q (F0 m pc arr (v :: rest)) := by
  rcases hv with rfl | ⟨a, rfl⟩
  · exact lv_astore_nN hx hb hdg rfl hl hk rfl kk
  · exact lv_astore_n hx hb hdg rfl hl hk rfl kk
theorem jcmp_in (a b : Int) : jI32 (jcmp a b) := by
  unfold jcmp
  split
  · exact ⟨by decide, by decide⟩
  · split <;> exact ⟨by decide, by decide⟩
abbrev jK (p : Program) (l : Launch) (e : Env) (R : Room) (s : State) (m : MethodId) (args : Array Value) (below : List Frame) (meth : Method) (c : Code) (H : Heap) (locs : List Loc) (cells slots : Nat) (Q : State → Prop) (ad : Nat → Nat) (xv : Nat → Value) (nr nL pc' : Nat) (ls' st' : List jV) : Prop :=
  ∀ arr' : Array Slot, lv_has arr' ls'.length (jlv ad xv 0 ls') → ls'.length = nL → jwl nr ls' → jtg ls' → jws nr st' → W p l e R s m args below meth c H locs cells slots Q (F0 m pc' arr' (st'.map (jcv ad xv)))
theorem jsv1 (hxv : ∀ x, jref (xv x)) {k : Nat} {v : jV} {r : List jV} {pc' : Nat} (h : jst1 ls k v = some ls') (h3 : v.1 ≠ 3) (h5 : v.1 < 6) (hv : jwv nr v) (hw : jwl nr ls) (ht : jtg ls) (hr : jws nr r) (kk : jK p l e R s m args below meth c H locs cells slots Q ad xv nr ls.length pc' ls' r) (arr' : Array Slot) (ha : lv_has arr' ls.length ((k, jcv ad xv v) :: (jlv ad xv 0 ls).filter (fun q => !(q.1 == k) && !(q.1 + 1 == k && q.2.category == 2)))) : W p l e R s m args below meth c H locs cells slots Q (F0 m pc' arr' (r.map (jcv ad xv))) := by
  obtain ⟨h1, h2⟩ := jst1_has hxv h h3 ht ha
  exact kk arr' (by rw [h2]; exact h1) h2 (jst1_wf h hw hv) (jst1_tg h ht h5) hr
theorem jsv2 (hxv : ∀ x, jref (xv x)) {k : Nat} {v : jV} {r : List jV} {pc' : Nat} (h : jst2 ls k v = some ls') (h3 : v.1 ≠ 3) (h5 : v.1 < 6) (hv : jwv nr v) (hw : jwl nr ls) (ht : jtg ls) (hr : jws nr r) (kk : jK p l e R s m args below meth c H locs cells slots Q ad xv nr ls.length pc' ls' r) (arr' : Array Slot) (ha : lv_has arr' ls.length ((k, jcv ad xv v) :: (jlv ad xv 0 ls).filter (fun q => !(q.1 == k) && (!(q.1 == k + 1) && !(q.1 + 1 == k && q.2.category == 2))))) : W p l e R s m args below meth c H locs cells slots Q (F0 m pc' arr' (r.map (jcv ad xv))) := by
  obtain ⟨h1, h2⟩ := jst2_has hxv h h3 ht ha
  exact kk arr' (by rw [h2]; exact h1) h2 (jst2_wf h hw hv) (jst2_tg h ht h5) hr
theorem jbin_of {f : Int → Int → Int} (h : jbin f ls st = some (ls', st')) : ls' = ls ∧ ∃ a b r, st = (0, b) :: (0, a) :: r ∧ st' = (0, f a b) :: r := by
  unfold jbin at h
  split at h
  · cases h
    exact ⟨rfl, _, _, _, rfl, rfl⟩
  · cases h
theorem jbinL_of {f : Int → Int → Int} (h : jbinL f ls st = some (ls', st')) : ls' = ls ∧ ∃ a b r, st = (1, b) :: (1, a) :: r ∧ st' = (1, f a b) :: r := by
  unfold jbinL at h
  split at h
  · cases h
    exact ⟨rfl, _, _, _, rfl, rfl⟩
  · cases h
theorem jldI_of {k : Nat} (h : jldI ls st k = some (ls', st')) : ls' = ls ∧ ∃ a, jget ls k = some (0, a) ∧ st' = (0, a) :: st := by
  unfold jldI at h
  split at h
  · cases h
    exact ⟨rfl, _, by assumption, rfl⟩
  · cases h
theorem jldL_of {k : Nat} (h : jldL ls st k = some (ls', st')) : ls' = ls ∧ ∃ a, jget ls k = some (1, a) ∧ st' = (1, a) :: st := by
  unfold jldL at h
  split at h
  · cases h
    exact ⟨rfl, _, by assumption, rfl⟩
  · cases h
theorem jldA_of {k : Nat} (h : jldA ls st k = some (ls', st')) : ls' = ls ∧ ∃ v : jV, jget ls k = some v ∧ st' = v :: st ∧ (v.1 = 2 ∨ v.1 = 4 ∨ v.1 = 5) := by
  unfold jldA at h
  split at h
  · cases h
    exact ⟨rfl, _, by assumption, rfl, Or.inl rfl⟩
  · cases h
    exact ⟨rfl, _, by assumption, rfl, Or.inr (Or.inl rfl)⟩
  · cases h
    exact ⟨rfl, _, by assumption, rfl, Or.inr (Or.inr rfl)⟩
  · cases h
theorem jsvI_of {k : Nat} (h : jsvI ls st k = some (ls', st')) : ∃ a, st = (0, a) :: st' ∧ jst1 ls k (0, a) = some ls' := by
  unfold jsvI at h
  split at h
  · split at h
    · cases h
      exact ⟨_, rfl, by assumption⟩
    · cases h
  · cases h
theorem jsvA_of {k : Nat} (h : jsvA ls st k = some (ls', st')) : (∃ a, st = (2, a) :: st' ∧ jst1 ls k (2, a) = some ls') ∨ ∃ a, st = (5, a) :: st' ∧ jst1 ls k (5, a) = some ls' := by
  unfold jsvA at h
  split at h
  · split at h
    · cases h
      exact Or.inl ⟨_, rfl, by assumption⟩
    · cases h
  · split at h
    · cases h
      exact Or.inr ⟨_, rfl, by assumption⟩
    · cases h
  · cases h
theorem jsvL_of {k : Nat} (h : jsvL ls st k = some (ls', st')) : ∃ a, st = (1, a) :: st' ∧ jst2 ls k (1, a) = some ls' := by
  unfold jsvL at h
  split at h
  · split at h
    · cases h
      exact ⟨_, rfl, by assumption⟩
    · cases h
  · cases h
theorem jiinc_of {k : Nat} {n : Int} (h : jiinc ls st k n = some (ls', st')) : st' = st ∧ ∃ a, jget ls k = some (0, a) ∧ jst1 ls k (0, wr (a + n)) = some ls' := by
  unfold jiinc at h
  split at h
  · split at h
    · cases h
      exact ⟨rfl, _, by assumption, by assumption⟩
    · cases h
  · cases h
theorem jvref {v : jV} (hxv : ∀ x, jref (xv x)) (h : v.1 = 2 ∨ v.1 = 4 ∨ v.1 = 5) : jref (jcv ad xv v) := by
  obtain ⟨t, a⟩ := v
  rcases h with h | h | h
  · cases h
    exact jrv_ref _ _
  · cases h
    exact hxv _
  · cases h
    exact Or.inl rfl
theorem jst_sound (hx : p.tables.exec = Jvm.exec) (hb : c.code = cc) {own : String} (hown : s.vm.findClass own = some m.cls) (hxv : ∀ x, jref (xv x)) {i : jI} {info : List Nat} (hdg : decode cc pc = .ok (i, jlen i)) (hcon : jcon own i info s args xv) (hnum : jnum i info) (hj : jst i info ls st = some (ls', st'))
    (hl : lv_has arr ls.length (jlv ad xv 0 ls)) (hw : jwl nr ls) (ht : jtg ls) (hs : jws nr st) (k : jK p l e R s m args below meth c H locs cells slots Q ad xv nr ls.length (pc + jlen i) ls' st') : W p l e R s m args below meth c H locs cells slots Q (F0 m pc arr (st.map (jcv ad xv))) := by
  have bin : ∀ {f : Int → Int → Int}, jbin f ls st = some (ls', st') → ∃ a b r, st = (0, b) :: (0, a) :: r ∧ (jI32 (f a b) → W p l e R s m args below meth c H locs cells slots Q (F0 m (pc + jlen i) arr (.int (Int32.ofInt (f a b)) :: r.map (jcv ad xv)))) := by
    intro f h
    obtain ⟨rfl, a, b, r, rfl, rfl⟩ := jbin_of h
    exact ⟨a, b, r, rfl, fun hf => k arr hl rfl hw ht (jws_cons hf (by simp) (by simp) (jws_tail (jws_tail hs)))⟩
  have binL : ∀ {f : Int → Int → Int}, jbinL f ls st = some (ls', st') → ∃ a b r, st = (1, b) :: (1, a) :: r ∧ (jI64 (f a b) → W p l e R s m args below meth c H locs cells slots Q (F0 m (pc + jlen i) arr (.long (Int64.ofInt (f a b)) :: r.map (jcv ad xv)))) := by
    intro f h
    obtain ⟨rfl, a, b, r, rfl, rfl⟩ := jbinL_of h
    exact ⟨a, b, r, rfl, fun hf => k arr hl rfl hw ht (jws_cons hf (by simp) (by simp) (jws_tail (jws_tail hs)))⟩
  have lit : ∀ {v : jV}, ls' = ls → st' = v :: st → jwv nr v → v.1 ≠ 3 → v.1 < 6 → W p l e R s m args below meth c H locs cells slots Q (F0 m (pc + jlen i) arr (jcv ad xv v :: st.map (jcv ad xv))) := by
    rintro v rfl rfl h1 h2 h3
    exact k arr hl rfl hw ht (jws_cons h1 h2 h3 hs)
  cases i with
  | iconst n =>
    simp only [jst, Option.some.injEq, Prod.mk.injEq] at hj
    have hn : -1 ≤ n ∧ n ≤ 5 := hnum
    exact lv_iconst hx hb hdg rfl (lit hj.1.symm hj.2.symm (jw32_lit ⟨by omega, by omega⟩) (by simp) (by simp))
  | aconst_null =>
    simp only [jst, Option.some.injEq, Prod.mk.injEq] at hj
    exact lv_null hx hb hdg (lit (v := (5, 0)) hj.1.symm hj.2.symm trivial (by simp) (by simp))
  | bipush n =>
    simp only [jst, Option.some.injEq, Prod.mk.injEq] at hj
    have hn : -128 ≤ n ∧ n < 128 := hnum
    exact lv_bipush hx hb hdg (jof8 hn) (lit hj.1.symm hj.2.symm (jw32_lit ⟨by omega, by omega⟩) (by simp) (by simp))
  | sipush n =>
    simp only [jst, Option.some.injEq, Prod.mk.injEq] at hj
    have hn : -32768 ≤ n ∧ n < 32768 := hnum
    exact lv_sipush hx hb hdg (jof16 hn) (lit hj.1.symm hj.2.symm (jw32_lit ⟨by omega, by omega⟩) (by simp) (by simp))
  | lconst n =>
    simp only [jst, Option.some.injEq, Prod.mk.injEq] at hj
    refine lv_lconst hx hb hdg (v := Int64.ofInt ((n.val : Nat) : Int)) ?_ (lit hj.1.symm hj.2.symm ⟨by have := n.isLt; omega, by have := n.isLt; omega⟩ (by simp) (by simp))
    exact (Int64.ofInt_eq_ofNat).symm
  | ldc idx =>
    simp only [jst] at hj
    unfold jldc at hj
    split at hj
    · cases hj
      have hn : _ < 2147483648 := hnum
      exact lv_ldc hx hb hown hcon hdg (lit rfl rfl ⟨by omega, by omega⟩ (by simp) (by simp))
    · cases hj
      have hn : _ < 2147483648 := hnum
      exact lv_ldc hx hb hown hcon hdg (lit rfl rfl ⟨by omega, by omega⟩ (by simp) (by simp))
    · cases hj
      obtain ⟨tx, a, h1, h2⟩ := hcon
      refine va_ldcS hx hb hown h1 hdg ?_
      rw [← h2]
      exact lit rfl rfl (Int.natCast_nonneg _) (by simp) (by simp)
    · cases hj
  | ldc_w idx =>
    simp only [jst] at hj
    unfold jldc at hj
    split at hj
    · cases hj
      have hn : _ < 2147483648 := hnum
      exact lv_ldcw hx hb hown hcon hdg (lit rfl rfl ⟨by omega, by omega⟩ (by simp) (by simp))
    · cases hj
      have hn : _ < 2147483648 := hnum
      exact lv_ldcw hx hb hown hcon hdg (lit rfl rfl ⟨by omega, by omega⟩ (by simp) (by simp))
    · exact hcon.elim
    · cases hj
  | ldc2_w idx =>
    simp only [jst] at hj
    split at hj
    · cases hj
      have hn : _ < 9223372036854775808 := hnum
      exact lv_ldc2 hx hb hown hcon hdg (lit rfl rfl ⟨by omega, by omega⟩ (by simp) (by simp))
    · cases hj
      have hn : _ < 9223372036854775808 := hnum
      exact lv_ldc2 hx hb hown hcon hdg (lit rfl rfl ⟨by omega, by omega⟩ (by simp) (by simp))
    · cases hj
  | iload n =>
    obtain ⟨h1, a, h2, h3⟩ := jldI_of hj
    exact lv_iload hx hb hdg (jlv_at hl h2 (by simp)) (lit h1 h3 (jwl_get hw h2) (by simp) (by simp))
  | iload_n n =>
    obtain ⟨h1, a, h2, h3⟩ := jldI_of hj
    exact lv_iload_n hx hb hdg rfl (jlv_at hl h2 (by simp)) (lit h1 h3 (jwl_get hw h2) (by simp) (by simp))
  | lload n =>
    obtain ⟨h1, a, h2, h3⟩ := jldL_of hj
    exact lv_lload hx hb hdg (jlv_at hl h2 (by simp)) (lit h1 h3 (jwl_get hw h2) (by simp) (by simp))
  | lload_n n =>
    obtain ⟨h1, a, h2, h3⟩ := jldL_of hj
    exact lv_lload_n hx hb hdg rfl (jlv_at hl h2 (by simp)) (lit h1 h3 (jwl_get hw h2) (by simp) (by simp))
  | aload n =>
    obtain ⟨h1, v, h2, h3, h4⟩ := jldA_of hj
    have h5 : v.1 ≠ 3 ∧ v.1 < 6 := by rcases h4 with h | h | h <;> (rw [h]; decide)
    exact jal hx hb hdg (jlv_at hl h2 h5.1) (jvref hxv h4) (lit h1 h3 (jwl_get hw h2) h5.1 h5.2)
  | aload_n n =>
    obtain ⟨h1, v, h2, h3, h4⟩ := jldA_of hj
    have h5 : v.1 ≠ 3 ∧ v.1 < 6 := by rcases h4 with h | h | h <;> (rw [h]; decide)
    exact jal_n hx hb hdg (jlv_at hl h2 h5.1) (jvref hxv h4) (lit h1 h3 (jwl_get hw h2) h5.1 h5.2)
  | istore n =>
    obtain ⟨a, rfl, h⟩ := jsvI_of hj
    exact lv_istore hx hb hdg hl (jst1_lt h) rfl (jsv1 hxv h (by simp) (by simp) (jws_head hs) hw ht (jws_tail hs) k)
  | istore_n n =>
    obtain ⟨a, rfl, h⟩ := jsvI_of hj
    exact lv_istore_n hx hb hdg rfl hl (jst1_lt h) rfl (jsv1 hxv h (by simp) (by simp) (jws_head hs) hw ht (jws_tail hs) k)
  | lstore n =>
    obtain ⟨a, rfl, h⟩ := jsvL_of hj
    exact lv_lstore hx hb hdg hl (jst2_lt h) rfl (jsv2 hxv h (by simp) (by simp) (jws_head hs) hw ht (jws_tail hs) k)
  | lstore_n n =>
    obtain ⟨a, rfl, h⟩ := jsvL_of hj
    exact lv_lstore_n hx hb hdg rfl hl (jst2_lt h) rfl (jsv2 hxv h (by simp) (by simp) (jws_head hs) hw ht (jws_tail hs) k)
  | astore n =>
    rcases jsvA_of hj with ⟨a, rfl, h⟩ | ⟨a, rfl, h⟩
    · exact jas hx hb hdg hl (jst1_lt h) (jrv_ref _ _) (jsv1 hxv h (by simp) (by simp) (jws_head hs) hw ht (jws_tail hs) k)
    · exact jas hx hb hdg hl (jst1_lt h) (Or.inl rfl) (jsv1 hxv h (by simp) (by simp) (jws_head hs) hw ht (jws_tail hs) k)
  | astore_n n =>
    rcases jsvA_of hj with ⟨a, rfl, h⟩ | ⟨a, rfl, h⟩
    · exact jas_n hx hb hdg hl (jst1_lt h) (jrv_ref _ _) (jsv1 hxv h (by simp) (by simp) (jws_head hs) hw ht (jws_tail hs) k)
    · exact jas_n hx hb hdg hl (jst1_lt h) (Or.inl rfl) (jsv1 hxv h (by simp) (by simp) (jws_head hs) hw ht (jws_tail hs) k)
  | iinc n z =>
    obtain ⟨rfl, a, h1, h⟩ := jiinc_of hj
    obtain ⟨q, hq⟩ := List.mem_iff_getElem?.mp ((jlv_mem (ad := ad) (xv := xv) ls 0 (n, jcv ad xv (0, a))).mpr ⟨n, _, h1, by simp, by rw [Nat.zero_add]⟩)
    refine lv_iinc (v := Int32.ofInt (wr (a + z))) hx hb hdg hl hq ?_ (jst1_lt h) rfl (jsv1 (v := (0, wr (a + z))) hxv h (by simp) (by simp) (wr_in _) hw ht hs k)
    rw [wr_of, Int32.ofInt_add]
  | iadd =>
    obtain ⟨a, b, r, rfl, h⟩ := bin hj
    refine lv_iadd hx hb hdg ?_
    rw [← Int32.ofInt_add, ← wr_of]
    exact h (wr_in _)
  | isub =>
    obtain ⟨a, b, r, rfl, h⟩ := bin hj
    refine lv_isub hx hb hdg ?_
    rw [← Int32.ofInt_sub, ← wr_of]
    exact h (wr_in _)
  | imul =>
    obtain ⟨a, b, r, rfl, h⟩ := bin hj
    refine lv_imul hx hb hdg ?_
    rw [← Int32.ofInt_mul, ← wr_of]
    exact h (wr_in _)
  | iand =>
    obtain ⟨a, b, r, rfl, h⟩ := bin hj
    refine lv_iand hx hb hdg ?_
    rw [← jand_of]
    exact h (jin32 _)
  | ior =>
    obtain ⟨a, b, r, rfl, h⟩ := bin hj
    refine lv_ior hx hb hdg ?_
    rw [← jor_of]
    exact h (jin32 _)
  | ixor =>
    obtain ⟨a, b, r, rfl, h⟩ := bin hj
    refine lv_ixor hx hb hdg ?_
    rw [← jxor_of]
    exact h (jin32 _)
  | ishl =>
    obtain ⟨a, b, r, rfl, h⟩ := bin hj
    refine lv_ishl hx hb hdg ?_
    rw [← jshl_of]
    exact h (jin32 _)
  | ishr =>
    obtain ⟨a, b, r, rfl, h⟩ := bin hj
    refine lv_ishr hx hb hdg ?_
    rw [← jshr_of]
    exact h (jin32 _)
  | ladd =>
    obtain ⟨a, b, r, rfl, h⟩ := binL hj
    refine lv_ladd hx hb hdg ?_
    rw [← Int64.ofInt_add, ← wl_of]
    exact h (wl_in _)
  | lsub =>
    obtain ⟨a, b, r, rfl, h⟩ := binL hj
    refine lv_lsub hx hb hdg ?_
    rw [← Int64.ofInt_sub, ← wl_of]
    exact h (wl_in _)
  | lmul =>
    obtain ⟨a, b, r, rfl, h⟩ := binL hj
    refine lv_lmul hx hb hdg ?_
    rw [← Int64.ofInt_mul, ← wl_of]
    exact h (wl_in _)
  | land =>
    obtain ⟨a, b, r, rfl, h⟩ := binL hj
    refine lv_land hx hb hdg ?_
    rw [← jlan_of]
    exact h (jin64 _)
  | lcmp =>
    simp only [jst] at hj
    split at hj
    · cases hj
      rename_i b a r
      have ha : jI64 a := jws_head (jws_tail hs)
      have hb' : jI64 b := jws_head hs
      refine W.lcmp hx hb hdg ?_
      have kk := k arr hl rfl hw ht (jws_cons (v := (0, jcmp a b)) (jcmp_in a b) (by simp) (by simp) (jws_tail (jws_tail hs)))
      have e : lg_cmp (Int64.ofInt a) (Int64.ofInt b) = Int32.ofInt (jcmp a b) := by
        unfold lg_cmp jcmp
        simp only [gt_iff_lt, jofl_lt hb' ha, jofl_eq ha hb']
        by_cases h1 : b < a
        · rw [if_pos h1, if_neg (by omega), if_neg (by omega)]
          rfl
        · rw [if_neg h1]
          by_cases h2 : a = b
          · rw [if_pos h2, if_neg (by omega), if_pos h2]
            rfl
          · rw [if_neg h2, if_pos (by omega)]
            rfl
      rw [e]
      exact kk
    · cases hj
  | i2l =>
    simp only [jst] at hj
    split at hj
    · cases hj
      rename_i a r
      have ha : jI32 a := jws_head hs
      refine lv_i2l (v := Int64.ofInt a) hx hb hdg ?_ (k arr hl rfl hw ht (jws_cons (v := (1, a)) ⟨by have := ha.1; omega, by have := ha.2; omega⟩ (by simp) (by simp) (jws_tail hs)))
      apply Int64.toInt_inj.mp
      rw [Int32.toInt_toInt64, jti ha, jtl ⟨by have := ha.1; omega, by have := ha.2; omega⟩]
    · cases hj
  | l2i =>
    simp only [jst] at hj
    split at hj
    · cases hj
      rename_i a r
      refine lv_l2i (v := Int32.ofInt (wr a)) hx hb hdg ?_ (k arr hl rfl hw ht (jws_cons (v := (0, wr a)) (wr_in _) (by simp) (by simp) (jws_tail hs)))
      rw [wr_of, Int64.toInt32_ofInt]
    · cases hj
  | i2c =>
    simp only [jst] at hj
    split at hj
    · cases hj
      rename_i a r
      have ha : jI32 a := jws_head hs
      refine lv_i2c (v := Int32.ofInt (a % 65536)) hx hb hdg ?_ (k arr hl rfl hw ht (jws_cons (v := (0, a % 65536)) ⟨by omega, by omega⟩ (by simp) (by simp) (jws_tail hs)))
      rw [pk_char]
      show Int32.ofNat _ = _
      rw [← Int32.ofInt_eq_ofNat]
      congr 1
      show (((BitVec.ofInt 32 a).toNat % 65536 : Nat) : Int) = a % 65536
      rw [BitVec.toNat_ofInt]
      omega
    · cases hj
  | dup =>
    simp only [jst] at hj
    split at hj
    · cases hj
      exact lv_dup hx hb hdg rfl (k arr hl rfl hw ht (jws_cons (jws_head hs) (by simp) (by simp) hs))
    · cases hj
      exact lv_dup hx hb hdg (jrv_ref _ _).cat (k arr hl rfl hw ht (jws_cons (jws_head hs) (by simp) (by simp) hs))
    · cases hj
  | pop =>
    simp only [jst] at hj
    split at hj
    · cases hj
      exact lv_pop hx hb hdg rfl (k arr hl rfl hw ht (jws_tail hs))
    · cases hj
  | dup2 =>
    simp only [jst] at hj
    split at hj
    · cases hj
      exact lv_dup2_2 hx hb hdg rfl (k arr hl rfl hw ht (jws_cons (jws_head hs) (by simp) (by simp) hs))
    · cases hj
      exact lv_dup2_11 hx hb hdg rfl (jrv_ref _ _).cat (k arr hl rfl hw ht (jws_cons (jws_head hs) (by simp) (by simp) (jws_cons (jws_head (jws_tail hs)) (by simp) (by simp) hs)))
    · cases hj
  | _ => simp [jst] at hj
end JSTS
