/-! soundness of the steps that read and write the heap -/
section JHEAP
variable {p : Program} {l : Launch} {e : Env} {R : Room} {s : State} {m : MethodId} {args : Array Value} {below : List Frame} {meth : Method} {c : Code} {H : Heap} {locs : List Loc} {cells slots : Nat} {Q : State → Prop}
variable {cc : ByteArray} {pc : Nat} {arr : Array Slot} {rest : List Value} {D : va_G} {cs : Nat → ClassId} {ad : Nat → Nat} {xv : Nat → Value} {xs : List Int} {A : Nat → Prop} {T : jT} {h : jH} {own : String}
abbrev jWW (p : Program) (l : Launch) (e : Env) (R : Room) (s : State) (m : MethodId) (args : Array Value) (below : List Frame) (meth : Method) (c : Code) (Q : State → Prop) (arr : Array Slot) (cells slots : Nat) (H : Heap) (locs : List Loc) (pc : Nat) (st : List Value) : Prop := W p l e R s m args below meth c H locs cells slots Q (F0 m pc arr st)
theorem jel_cls {o : Nat} {t : Nat × Nat} (hc : t.1 < 13) : jel ad cs T h o t = .inr (t.1, (List.range (jFt.getD t.1 []).length).map (jsl ad T h o t.1)) := if_pos hc
theorem jel_lng {o n : Nat} : jel ad cs T h o (21, n) = .inl (cs 21, n, .inr (.inl fun j => Int64.ofInt (h o j))) := rfl
theorem jel_ref {o n : Nat} : jel ad cs T h o (24, n) = .inl (cs 24, n, .inr (.inr (.inr (.inr fun j => jro ad (T.2 o j))))) := rfl
theorem jel_int {o n : Nat} : jel ad cs T h o (20, n) = .inl (cs 20, n, .inl fun j => Int32.ofInt (h o j)) := rfl
theorem jel_boo {o n : Nat} : jel ad cs T h o (22, n) = .inl (cs 22, n, .inl fun j => Int32.ofInt (h o j)) := rfl
theorem jel_chr {o n : Nat} : jel ad cs T h o (23, n) = .inl (cs 23, n, .inl fun j => Int32.ofInt (h o j)) := rfl
theorem jcl_nat {i : Int} (hi : jI32 i) : (Int32.ofInt i).toNatClampNeg = i.toNat := by
  show (Int32.ofInt i).toInt.toNat = _
  rw [jti hi]
theorem jvp_in {i : Int} (hi : jI32 i) {n : Nat} (h : jinb i n = true) : vp_in (Int32.ofInt i) n := by
  unfold jinb at h
  rw [Bool.and_eq_true] at h
  have h1 := of_decide_eq_true h.1
  have h2 := of_decide_eq_true h.2
  apply vp_in_iff.mpr
  rw [jti hi]
  omega
theorem jget_sound (hx : p.tables.exec = Jvm.exec) (hb : c.code = cc) (hwd : jWd D cs xv xs A s) (hown : s.vm.findClass own = some m.cls) (hP : va_P D vwCl (jcl ad cs T h) H) {o k index : Nat} {t : Nat × Nat} (ht : T.1[o]? = some t) (h0 : 0 < o) (hc : t.1 < 13) {r : vw_C} (hr : vwCl[t.1]? = some r) (hk : k < r.2.2) (hlink : Jvm.Cond.fieldLink own index (r.2.1 k).1 (r.2.1 k).2.1 (r.2.1 k).2.2.1 ∈ lw_tbl) (hdg : decode cc pc = .ok (.getfield index, 3))
    (kk : W p l e R s m args below meth c H locs cells slots Q (F0 m (pc + 3) arr (jsl ad T h o t.1 k :: rest))) : W p l e R s m args below meth c H locs cells slots Q (F0 m pc arr (.ref (ad o) :: rest)) := by
  obtain ⟨C, Tb, N⟩ := r
  have he := jcl_at (ad := ad) (cs := cs) (h := h) ht h0
  rw [jel_cls hc] at he
  obtain ⟨r', hr', hn, -⟩ := jcl_class hc
  rw [hr] at hr'
  cases hr'
  have hv : ((List.range (jFt.getD t.1 []).length).map (jsl ad T h o t.1))[k]? = some (jsl ad T h o t.1 k) := by
    rw [List.getElem?_map, List.getElem?_range (by rw [hn]; exact hk)]
    rfl
  exact va_get hx hb (fun w hw => hwd.2.2.1 w hw args) (jcl_inT hr) hown hwd.2.1 hP (o - 1) he hr k hk (hwd.2.2.1 _ (jTg_in hlink rfl) args) (fun _ h => h) hv hdg kk
theorem jel_put {T' : jT} {h' : jH} {o k : Nat} {t : Nat × Nat} {v : Value} (hc : t.1 < 13) (hk : k < (jFt.getD t.1 []).length) (e1 : ∀ k', k' ≠ k → h' o k' = h o k') (e2 : ∀ k', k' ≠ k → T'.2 o k' = T.2 o k') (ev : jsl ad T' h' o t.1 k = v) : jel ad cs T' h' o t = .inr (t.1, ((List.range (jFt.getD t.1 []).length).map (jsl ad T h o t.1)).set k v) := by
  rw [jel_cls hc]
  congr 2
  apply List.ext_getElem?
  intro i
  rw [List.getElem?_set]
  by_cases hi : k = i
  · subst hi
    rw [if_pos rfl, List.length_map, List.length_range, if_pos hk, List.getElem?_map, List.getElem?_range hk]
    exact congrArg some ev
  · rw [if_neg hi, List.getElem?_map, List.getElem?_map]
    by_cases hin : i < (jFt.getD t.1 []).length
    · rw [List.getElem?_range hin]
      show some (jsl ad T' h' o t.1 i) = some (jsl ad T h o t.1 i)
      simp only [jsl, e1 i (Ne.symm hi), e2 i (Ne.symm hi)]
    · rw [List.getElem?_eq_none (by rw [List.length_range]; omega)]
      rfl
theorem jput_sound (hx : p.tables.exec = Jvm.exec) (hb : c.code = cc) (hwd : jWd D cs xv xs A s) (hown : s.vm.findClass own = some m.cls) (hP : va_P D vwCl (jcl ad cs T h) H) (hD : va_D A (jcl ad cs T h)) (hS : va_S A s.heap H locs) {o k index : Nat} {t : Nat × Nat} (ht : T.1[o]? = some t) (h0 : 0 < o) (hc : t.1 < 13) {r : vw_C} (hr : vwCl[t.1]? = some r) (hk : k < r.2.2) (hlink : Jvm.Cond.fieldLink own index (r.2.1 k).1 (r.2.1 k).2.1 (r.2.1 k).2.2.1 ∈ lw_tbl)
    (hfin : (r.2.1 k).2.2.2 = true → meth.name = "<init>" ∧ (r.2.1 k).1 = own) {ty : FieldType} {v : Value} (hd : parseFieldDescriptor (r.2.1 k).2.2.1 = some ty) (hn : narrow ty v = v) (hfit : fits ty v = true) {T' : jT} {h' : jH} (hL : T'.1 = T.1) (e1 : ∀ i, i ≠ o → h' i = h i) (e2 : ∀ i, i ≠ o → T'.2 i = T.2 i) (e3 : ∀ k', k' ≠ k → h' o k' = h o k') (e4 : ∀ k', k' ≠ k → T'.2 o k' = T.2 o k') (ev : jsl ad T' h' o t.1 k = v) (hdg : decode cc pc = .ok (.putfield index, 3))
    (kk : ∀ (H1 : Heap) (locs1 : List Loc), va_P D vwCl (jcl ad cs T' h') H1 → va_D A (jcl ad cs T' h') → va_S A s.heap H1 locs1 → W p l e R s m args below meth c H1 locs1 cells slots Q (F0 m (pc + 3) arr rest)) : W p l e R s m args below meth c H locs cells slots Q (F0 m pc arr (v :: .ref (ad o) :: rest)) := by
  obtain ⟨C, Tb, N⟩ := r
  have he := jcl_at (ad := ad) (cs := cs) (h := h) ht h0
  rw [jel_cls hc] at he
  obtain ⟨r', hr', hnn, -⟩ := jcl_class hc
  rw [hr] at hr'
  cases hr'
  have hset := jcl_set (ad := ad) (cs := cs) hL ht h0 e1 e2
  rw [jel_put (T := T) (h := h) hc (by rw [hnn]; exact hk) e3 e4 ev] at hset
  obtain ⟨ty0, hty⟩ := jcl_ty hr
  rw [hset] at kk
  by_cases hf : (Tb k).2.2.2 = true
  · exact va_putF hx hb (fun w hw => hwd.2.2.1 w hw args) (jcl_inT hr) ty0 hty (jcl_nm hr) hown hwd.2.1 hP hD hS (o - 1) he hr k hk (hwd.2.2.1 _ (jTg_in hlink rfl) args) (fun _ h => h) hf (hfin hf).1 (hfin hf).2 hd hn hfit (by rw [List.length_map, List.length_range, hnn]; exact hk) hdg kk
  · exact va_put hx hb (fun w hw => hwd.2.2.1 w hw args) (jcl_inT hr) ty0 hty (jcl_nm hr) hown hwd.2.1 hP hD hS (o - 1) he hr k hk (hwd.2.2.1 _ (jTg_in hlink rfl) args) (fun _ h => h) (by simpa using hf) hd hn hfit (by rw [List.length_map, List.length_range, hnn]; exact hk) hdg kk
theorem jcl_arr {o kd n : Nat} {x : (Nat → Int32) ⊕ (Nat → Int64) ⊕ (Nat → UInt32) ⊕ (Nat → UInt64) ⊕ (Nat → Option Nat)} {T' : jT} {h' : jH} (ht : T.1[o]? = some (kd, n)) (h0 : 0 < o) (hL : T'.1 = T.1) (e1 : ∀ i, i ≠ o → h' i = h i) (e2 : ∀ i, i ≠ o → T'.2 i = T.2 i) (ex : jel ad cs T' h' o (kd, n) = .inl (cs kd, n, x)) : jcl ad cs T' h' = (jcl ad cs T h).set (o - 1) (ad o, .inl (cs kd, n, x)) := by
  rw [jcl_set hL ht h0 e1 e2, ex]
/-- a store into an array of ints -/
theorem jupd_of {o i : Nat} {v : Int} : (fun j => Int32.ofInt (jup h o i v o j)) = upd (fun j => Int32.ofInt (h o j)) i (Int32.ofInt v) := by
  funext j
  simp only [jup, upd, if_true]
  split <;> rfl
theorem jupdL_of {o i : Nat} {v : Int} : (fun j => Int64.ofInt (jup h o i v o j)) = vp_updL (fun j => Int64.ofInt (h o j)) i (Int64.ofInt v) := by
  funext j
  simp only [jup, vp_updL, if_true]
  split <;> rfl
theorem jupdR_of {o i v : Nat} (hv : v ≠ 0) : (fun j => jro ad (jupR T.2 o i v o j)) = va_up (fun j => jro ad (T.2 o j)) i (some (ad v)) := by
  funext j
  simp only [jupR, va_up, if_true]
  split
  · simp [jro, hv]
  · rfl
end JHEAP
