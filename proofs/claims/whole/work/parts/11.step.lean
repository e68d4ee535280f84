/-! a step of the machine of numbers is a walk of the machine -/
def jtot (L : List (Nat × Nat)) : Nat := (L.map (fun t => t.2)).sum
def jFix (p : Program) (s : State) (m : MethodId) (meth : Method) (c : Code) (D : va_G) (cs : Nat → ClassId) (xv : Nat → Value) (xs : List Int) (A : Nat → Prop) (mi : Nat) : Prop :=
  p.tables.exec = Jvm.exec ∧ c.code = (jmi mi).2.1 ∧ c.maxLocals = (jmi mi).2.2.1 ∧ s.vm.findClass (jmi mi).1.cls = some m.cls ∧ jWd D cs xv xs A s ∧ (∀ q, s.heap.size ≤ q → A q) ∧ ((jmi mi).1.name = "<init>" → meth.name = "<init>")
def jRel (D : va_G) (cs : Nat → ClassId) (xv : Nat → Value) (A : Nat → Prop) (s : State) (mi : Nat) (ad : Nat → Nat) (arr : Array Slot) (H : Heap) (locs : List Loc) (ls st : List jV) (T : jT) (h : jH) : Prop :=
  lv_has arr ls.length (jlv ad xv 0 ls) ∧ ls.length = (jmi mi).2.2.1 ∧ jwl T.1.length ls ∧ jtg ls ∧ jws T.1.length st ∧ jOk T h ∧ va_P D vwCl (jcl ad cs T h) H ∧ va_D A (jcl ad cs T h) ∧ va_S A s.heap H locs
def jGo (p : Program) (l : Launch) (e : Env) (R : Room) (s : State) (m : MethodId) (args : Array Value) (below : List Frame) (meth : Method) (c : Code) (Q : State → Prop) (D : va_G) (cs : Nat → ClassId) (xv : Nat → Value) (A : Nat → Prop) (mi L0 t0 : Nat) (ad0 : Nat → Nat) (f : jF) (σ : jS) : Prop :=
  ∀ (ad : Nat → Nat) (arr : Array Slot) (H : Heap) (locs : List Loc), (∀ o, o < L0 → ad o = ad0 o) → L0 ≤ σ.1.1.length → t0 ≤ jtot σ.1.1 → jRel D cs xv A s mi ad arr H locs f.2.2.1 f.2.2.2 σ.1 σ.2 → W p l e R s m args below meth c H locs (σ.1.1.length - L0) (jtot σ.1.1 - t0) Q (F0 m f.2.1 arr (f.2.2.2.map (jcv ad xv)))
theorem jfet_ok {mi pc n : Nat} {i : jI} {info : List Nat} (h : jfet mi pc = some (i, n, info)) : decode (jmi mi).2.1 pc = .ok (i, n) ∧ (jswi i = true ∨ n = jlen i) ∧ jtok pc i = true ∧ (j99 i info = true ∨ jlok (jmi mi).1.cls (decide ((jmi mi).1.name = "<init>")) i info = true) := by
  unfold jfet at h
  split at h
  · rename_i r hr
    obtain ⟨p0, i0, n0, f0⟩ := r
    cases h
    have h1 := jrows (List.mem_of_find?_eq_some hr)
    have h2 := List.find?_some hr
    simp only [beq_iff_eq] at h2
    unfold jrok at h1
    simp only [Bool.and_eq_true, Bool.or_eq_true, decide_eq_true_eq] at h1
    obtain ⟨⟨⟨g1, g2⟩, g3⟩, g4⟩ := h1
    (try dsimp only at h2 g1 g2 g3 g4)
    rw [h2] at g1 g3
    exact ⟨jdok_of g1, g2, g3, g4⟩
  · cases h
theorem jcls_of {T : jT} {o c : Nat} (h : jcls T o c = true) : ∃ n, T.1[o]? = some (c, n) := by
  unfold jcls at h
  split at h
  · rename_i c' n hq
    have e : c' = c := by simpa using h
    subst e
    exact ⟨n, hq⟩
  · cases h
theorem jOk.pos {T : jT} {h : jH} (H : jOk T h) {o c n : Nat} (ho : T.1[o]? = some (c, n)) (hc : c ≠ 99) : 0 < o := by
  rcases Nat.eq_zero_or_pos o with h0 | h0
  · subst h0
    have := H.1.symm.trans ho
    cases this
    exact absurd rfl hc
  · exact h0
theorem jrv_pos {ad : Nat → Nat} {o : Nat} (h : 0 < o) : jrv ad o = .ref (ad o) := if_neg (by omega)
theorem jlf_of {own : String} {idx c k t b w : Nat} (h : jlf own idx c k t b w = true) : ∃ r : vw_C, vwCl[c]? = some r ∧ Jvm.Cond.fieldLink own idx (r.2.1 k).1 (r.2.1 k).2.1 (r.2.1 k).2.2.1 ∈ lw_tbl ∧ k < r.2.2 ∧ jtk c k t b = true := by
  unfold jlf at h
  split at h
  · rename_i r hr
    simp only [Bool.and_eq_true, decide_eq_true_eq] at h
    exact ⟨r, hr, jhas_mem h.1.1, h.1.2, h.2⟩
  · cases h
theorem jext_kind {xs : List Int} {z : Int} {k : Nat} {l : List Int} (h : jext xs z = some (k, l)) : k = 20 ∨ k = 25 := by
  unfold jext at h
  split at h
  · cases h; exact Or.inl rfl
  · split at h
    · cases h; exact Or.inl rfl
    · split at h
      · cases h; exact Or.inl rfl
      · split at h
        · cases hq : jStr[(z - 50).toNat]? with
          | none => rw [hq] at h; cases h
          | some q => rw [hq] at h; cases h; exact Or.inr rfl
        · cases h
theorem jStr_in : jStr.all (fun l => l.all (fun v => decide (0 ≤ v) && decide (v < 128)) && decide (l.length < 100)) = true := by decide +kernel
theorem jall_in {l : List Int} (h : l.all (fun v => decide (-2147483648 ≤ v) && decide (v < 2147483648)) = true) : ∀ v ∈ l, jI32 v := fun v hv => by
  have := List.all_eq_true.mp h v hv
  simpa [jI32] using this
theorem jext_in {xs : List Int} (hxs : ∀ v ∈ xs, jI32 v) (hl : xs.length < 2147483648) {z : Int} {k : Nat} {l : List Int} (h : jext xs z = some (k, l)) : (∀ v ∈ l, jI32 v) ∧ l.length < 2147483648 := by
  unfold jext at h
  split at h
  · cases h; exact ⟨jall_in (by decide), by decide⟩
  · split at h
    · cases h; exact ⟨jall_in (by decide), by decide⟩
    · split at h
      · cases h; exact ⟨hxs, hl⟩
      · split at h
        · cases hq : jStr[(z - 50).toNat]? with
          | none => rw [hq] at h; cases h
          | some q =>
            rw [hq] at h; cases h
            have h1 := List.all_eq_true.mp jStr_in _ (List.mem_of_getElem? hq)
            simp only [Bool.and_eq_true, decide_eq_true_eq, List.all_eq_true] at h1
            exact ⟨fun v hv => ⟨by have := (h1.1 v hv).1; omega, by have := (h1.1 v hv).2; omega⟩, by omega⟩
        · cases h
theorem jgetD_in {l : List Int} (h : ∀ v ∈ l, jI32 v) (i : Nat) : jI32 (l.getD i 0) := by
  rw [List.getD_eq_getElem?_getD]
  cases hq : l[i]? with
  | none => exact ⟨by decide, by decide⟩
  | some v => exact h v (List.mem_of_getElem? hq)
theorem jskd_cls {c n k : Nat} (hc : c < 13) : jskd (c, n) k = jftg c k := if_pos hc
section JSTEP
variable {p : Program} {l : Launch} {e : Env} {R : Room} {s : State} {m : MethodId} {args : Array Value} {below : List Frame} {meth : Method} {c : Code} {Q : State → Prop}
variable {D : va_G} {cs : Nat → ClassId} {xv : Nat → Value} {xs : List Int} {A : Nat → Prop} {mi L0 t0 : Nat} {ad0 : Nat → Nat} {pc : Nat} {ls st : List jV} {T : jT} {h : jH} {f' : jF} {σ' : jS}
theorem jgf_sound (F : jFix p s m meth c D cs xv xs A mi) {idx : Nat} {info : List Nat} (hdg : decode (jmi mi).2.1 pc = .ok (.getfield idx, 3)) (hok : jlok (jmi mi).1.cls (decide ((jmi mi).1.name = "<init>")) (.getfield idx) info = true) (hj : jgf info mi pc ls st (T, h) = some (.inl (f', σ'))) (kk : jGo p l e R s m args below meth c Q D cs xv A mi L0 t0 ad0 f' σ') : jGo p l e R s m args below meth c Q D cs xv A mi L0 t0 ad0 (mi, pc, ls, st) (T, h) := by
  intro ad arr H locs had hL0 ht0 hrel
  obtain ⟨hx, hb, hml, hown, hwd, hA, hini⟩ := F
  obtain ⟨hl, hlen, hw, htg, hs, hO, hP, hD, hS⟩ := hrel
  dsimp only at hl hlen hw htg hs hO hP hD hS hL0 ht0 ⊢
  unfold jgf at hj
  split at hj
  · rename_i cc k t bb ww o r
    split at hj
    · rename_i hcc
      obtain ⟨n, hto⟩ := jcls_of hcc.1
      have ho := hO.pos hto (by omega)
      have hok : (if cc < 13 then jlf (jmi mi).1.cls idx cc k t bb ww else _) = true := hok
      rw [if_pos hcc.2] at hok
      obtain ⟨rr, hr, hlink, hk, htk⟩ := jlf_of hok
      have hkv := hO.2.2.1 _ _ k hto
      rw [jskd_cls hcc.2] at hkv
      have fin : ∀ v : jV, jwv T.1.length v → v.1 ≠ 3 → v.1 < 6 → jon mi (pc + 3) ls (v :: r) (T, h) = some (.inl (f', σ')) → jcv ad xv v = jsl ad T h o.toNat cc k → W p l e R s m args below meth c H locs (T.1.length - L0) (jtot T.1 - t0) Q (F0 m pc arr (((2, o) :: r).map (jcv ad xv))) := by
        intro v h1 h2 h3 h4 h5
        cases h4
        show W p l e R s m args below meth c H locs (T.1.length - L0) (jtot T.1 - t0) Q (F0 m pc arr (jrv ad o.toNat :: r.map (jcv ad xv)))
        rw [jrv_pos ho]
        refine jget_sound hx hb hwd hown hP hto ho hcc.2 hr hk hlink hdg ?_
        rw [← h5]
        exact kk ad arr H locs had hL0 ht0 ⟨hl, hlen, hw, htg, jws_cons h1 h2 h3 (jws_tail hs), hO, hP, hD, hS⟩
      unfold jtk at htk
      unfold jokv at hkv
      split at hj
      · refine fin _ ?_ (by simp) (by simp) hj ?_
        · split at htk <;> first | (rename_i e; rw [e] at hkv; first | exact hkv | (show jI32 _; rcases hkv with q | q <;> (dsimp only at q ⊢; rw [q]; exact ⟨by decide, by decide⟩))) | simp at htk
        · unfold jsl
          split at htk <;> first | (rename_i e; rw [e]; rfl) | simp at htk
      · refine fin _ ?_ (by simp) (by simp) hj ?_
        · split at htk <;> first | (rename_i e; rw [e] at hkv; first | exact hkv | simp at htk) | simp at htk
        · unfold jsl
          split at htk <;> first | simp at htk; done | (rename_i e; rw [e]; rfl)
      · refine fin _ ?_ (by simp) (by simp) hj ?_
        · split at htk <;> first | (rename_i e; rw [e] at hkv; first | exact hkv | simp at htk) | simp at htk
        · unfold jsl
          split at htk <;> first | simp at htk; done | (rename_i e; rw [e]; rfl)
      · refine fin _ ?_ (by simp) (by simp) hj ?_
        · split at htk <;> first | (rename_i e; rw [e] at hkv; exact ⟨Int.natCast_nonneg _, hkv⟩) | (simp at htk; done) | (simp_all; done)
        · unfold jsl
          split at htk <;> first | (rename_i e; rw [e]; rfl) | (simp at htk; done) | (simp_all; done)
    · cases hj
  · rename_i k u1 u2 ww z r
    split at hj
    · rename_i hz
      obtain ⟨a, b, e1, e2, g1, g2, g3⟩ := hwd.2.2.2.2.2.2.2.1 z.toNat (by omega) (by omega)
      have hok : jhas ww (.fieldLink (jmi mi).1.cls idx "java/lang/String" (if k = 0 then "value" else "coder") (if k = 0 then "[B" else "B")) = true := hok
      have hlink := fun w hw => hwd.2.2.1 w hw args
      show W p l e R s m args below meth c H locs (T.1.length - L0) (jtot T.1 - t0) Q (F0 m pc arr (xv z.toNat :: r.map (jcv ad xv)))
      rw [e1]
      split at hj
      · cases hj
        rw [if_pos rfl, if_pos rfl] at hok
        refine vk_getf hx hb g3 hS hown (hlink _ (jTg_in (jhas_mem hok) rfl)) (fun _ h => h) hdg ?_
        have e3 : (Value.ref b) = jcv ad xv (4, z + 40) := by
          show _ = xv (z + 40).toNat
          rw [show (z + 40).toNat = z.toNat + 40 by omega, e2]
        rw [e3]
        exact kk ad arr H locs had hL0 ht0 ⟨hl, hlen, hw, htg, jws_cons (show (0:Int) ≤ z + 40 by omega) (by simp) (by simp) (jws_tail hs), hO, hP, hD, hS⟩
      · rename_i hk
        cases hj
        rw [if_neg (by simpa using hk), if_neg (by simpa using hk)] at hok
        refine vk_getf hx hb g2 hS hown (hlink _ (jTg_in (jhas_mem hok) rfl)) (fun _ h => h) hdg ?_
        exact kk ad arr H locs had hL0 ht0 ⟨hl, hlen, hw, htg, jws_cons (v := (0, 0)) ⟨by decide, by decide⟩ (by simp) (by simp) (jws_tail hs), hO, hP, hD, hS⟩
    · cases hj
  · cases hj
end JSTEP
