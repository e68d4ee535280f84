/-! the heap's picture: cells of objects by place -/
def jsl (ad : Nat → Nat) (T : jT) (h : jH) (o c k : Nat) : Value := match jftg c k with
  | 1 => .long (Int64.ofInt (h o k))
  | 2 => jrv ad (h o k).toNat
  | 5 => jrv ad (T.2 o k)
  | _ => .int (Int32.ofInt (h o k))
def jro (ad : Nat → Nat) (r : Nat) : Option Nat := if r = 0 then none else some (ad r)
theorem jro_rf (ad : Nat → Nat) (r : Nat) : va_rf (jro ad r) = jrv ad r := by
  unfold jro jrv
  split <;> rfl
def jel (ad : Nat → Nat) (cs : Nat → ClassId) (T : jT) (h : jH) (o : Nat) (t : Nat × Nat) : va_E :=
  if t.1 < 13 then .inr (t.1, (List.range (jFt.getD t.1 []).length).map (jsl ad T h o t.1))
  else if t.1 = 21 then .inl (cs 21, t.2, .inr (.inl fun j => Int64.ofInt (h o j)))
  else if t.1 = 24 then .inl (cs 24, t.2, .inr (.inr (.inr (.inr fun j => jro ad (T.2 o j)))))
  else .inl (cs t.1, t.2, .inl fun j => Int32.ofInt (h o j))
def jcl (ad : Nat → Nat) (cs : Nat → ClassId) (T : jT) (h : jH) : va_W := (List.range (T.1.length - 1)).map (fun i => (ad (i + 1), jel ad cs T h (i + 1) (T.1.getD (i + 1) (99, 0))))
theorem jcl_at {ad : Nat → Nat} {cs : Nat → ClassId} {T : jT} {h : jH} {o : Nat} {t : Nat × Nat} (ht : T.1[o]? = some t) (h0 : 0 < o) : (jcl ad cs T h)[o - 1]? = some (ad o, jel ad cs T h o t) := by
  have hl : o < T.1.length := (List.getElem?_eq_some_iff.mp ht).1
  unfold jcl
  rw [List.getElem?_map, List.getElem?_range (by omega)]
  have e : o - 1 + 1 = o := by omega
  simp only [Option.map_some, e]
  rw [List.getD_eq_getElem?_getD, ht]
  rfl
theorem jcl_len {ad : Nat → Nat} {cs : Nat → ClassId} {T : jT} {h : jH} : (jcl ad cs T h).length = T.1.length - 1 := by simp [jcl]
theorem jel_congr {ad : Nat → Nat} {cs : Nat → ClassId} {T T' : jT} {h h' : jH} {o : Nat} (e1 : h' o = h o) (e2 : T'.2 o = T.2 o) (t : Nat × Nat) : jel ad cs T' h' o t = jel ad cs T h o t := by
  have e3 : ∀ c k, jsl ad T' h' o c k = jsl ad T h o c k := fun c k => by simp only [jsl, e1, e2]
  simp only [jel, e1, e2, funext (e3 t.1)]
theorem jcl_set {ad : Nat → Nat} {cs : Nat → ClassId} {T T' : jT} {h h' : jH} {o : Nat} {t : Nat × Nat} (hL : T'.1 = T.1) (ht : T.1[o]? = some t) (h0 : 0 < o) (e1 : ∀ i, i ≠ o → h' i = h i) (e2 : ∀ i, i ≠ o → T'.2 i = T.2 i) : jcl ad cs T' h' = (jcl ad cs T h).set (o - 1) (ad o, jel ad cs T' h' o t) := by
  have hl : o < T.1.length := (List.getElem?_eq_some_iff.mp ht).1
  apply List.ext_getElem?
  intro i
  rw [List.getElem?_set]
  by_cases hi : o - 1 = i
  · subst hi
    rw [if_pos rfl, jcl_len, if_pos (by omega)]
    exact jcl_at (by rw [hL]; exact ht) h0
  · rw [if_neg hi]
    by_cases hl2 : i < T.1.length - 1
    · obtain ⟨t2, ht2⟩ : ∃ t2, T.1[i + 1]? = some t2 := ⟨_, List.getElem?_eq_getElem (by omega)⟩
      have a1 := jcl_at (ad := ad) (cs := cs) (T := T') (h := h') (o := i + 1) (by rw [hL]; exact ht2) (by omega)
      have a2 := jcl_at (ad := ad) (cs := cs) (T := T) (h := h) (o := i + 1) ht2 (by omega)
      rw [Nat.add_sub_cancel] at a1 a2
      rw [a1, a2, jel_congr (e1 _ (by omega)) (e2 _ (by omega))]
    · rw [List.getElem?_eq_none (by rw [jcl_len, hL]; omega), List.getElem?_eq_none (by rw [jcl_len]; omega)]
/-- what a slot may hold, by its kind: 0 int, 1 long, 2 and 5 references, 8 boolean, 9 char -/
def jskd (t : Nat × Nat) (k : Nat) : Nat := if t.1 < 13 then jftg t.1 k else match t.1 with
  | 21 => 1
  | 22 => 8
  | 23 => 9
  | 24 => 5
  | _ => 0
def jokv (n tag : Nat) (x : Int) (r : Nat) : Prop := match tag with
  | 0 => jI32 x
  | 1 => jI64 x
  | 2 => 0 ≤ x ∧ x.toNat < n
  | 5 => r < n
  | 8 => x = 0 ∨ x = 1
  | 9 => 0 ≤ x ∧ x < 65536
  | _ => True
def jOk (T : jT) (h : jH) : Prop := T.1[0]? = some (99, 0) ∧ (∀ o t, 0 < o → T.1[o]? = some t → (t.1 < 13 ∧ t.2 = (jFt.getD t.1 []).length) ∨ (20 ≤ t.1 ∧ t.1 < 25 ∧ t.2 ≤ 100000)) ∧ (∀ o t k, T.1[o]? = some t → jokv T.1.length (jskd t k) (h o k) (T.2 o k)) ∧ (∀ o, T.1.length ≤ o → ∀ k, h o k = 0 ∧ T.2 o k = 0)
theorem jup_ne {h : jH} {o k : Nat} {v : Int} {i : Nat} (hi : i ≠ o) : jup h o k v i = h i := by simp [jup, hi]
theorem jupR_ne {h : Nat → Nat → Nat} {o k v i : Nat} (hi : i ≠ o) : jupR h o k v i = h i := by simp [jupR, hi]
theorem jOk.put {T : jT} {h : jH} (H : jOk T h) {o k : Nat} {v : Int} {t : Nat × Nat} (ht : T.1[o]? = some t) (hv : jskd t k ≠ 5 → jokv T.1.length (jskd t k) v 0) (hr : jskd t k ≠ 5) : jOk T (jup h o k v) := by
  obtain ⟨h1, h2, h3, h4⟩ := H
  refine ⟨h1, h2, fun o' t' k' ht' => ?_, fun o' ho k' => ?_⟩
  · by_cases e : o' = o
    · subst e
      rw [ht] at ht'
      cases ht'
      by_cases e2 : k' = k
      · subst e2
        have e3 : jup h o' k' v o' k' = v := by simp [jup]
        rw [e3]
        have hv := hv hr
        unfold jokv at hv ⊢
        split <;> simp_all
      · have e3 : jup h o' k v o' k' = h o' k' := by simp [jup, e2]
        rw [e3]
        exact h3 _ _ _ ht
    · rw [jup_ne e]
      exact h3 _ _ _ ht'
  · have e : o' ≠ o := by
      have := (List.getElem?_eq_some_iff.mp ht).1
      omega
    rw [jup_ne e]
    exact h4 o' ho k'
theorem jOk.putR {T : jT} {h : jH} (H : jOk T h) {o k v : Nat} {t : Nat × Nat} (ht : T.1[o]? = some t) (hv : v < T.1.length) (hr : jskd t k = 5) : jOk (T.1, jupR T.2 o k v) h := by
  obtain ⟨h1, h2, h3, h4⟩ := H
  refine ⟨h1, h2, fun o' t' k' ht' => ?_, fun o' ho k' => ?_⟩
  · by_cases e : o' = o
    · subst e
      have ht'' : T.1[o']? = some t' := ht'
      rw [ht] at ht''
      cases ht''
      by_cases e2 : k' = k
      · subst e2
        have e3 : jupR T.2 o' k' v o' k' = v := by simp [jupR]
        show jokv T.1.length _ _ (jupR T.2 o' k' v o' k')
        rw [e3, hr]
        exact hv
      · have e3 : jupR T.2 o' k v o' k' = T.2 o' k' := by simp [jupR, e2]
        show jokv T.1.length _ _ (jupR T.2 o' k v o' k')
        rw [e3]
        exact h3 _ _ _ ht
    · show jokv T.1.length _ _ (jupR T.2 o k v o' k')
      rw [jupR_ne e]
      exact h3 _ _ _ ht'
  · have e : o' ≠ o := by
      have := (List.getElem?_eq_some_iff.mp ht).1
      have ho : T.1.length ≤ o' := ho
      omega
    show _ ∧ jupR T.2 o k v o' k' = 0
    rw [jupR_ne e]
    exact h4 o' ho k'
theorem jokv_mono {n n' tag : Nat} {x : Int} {r : Nat} (h : jokv n tag x r) (hn : n ≤ n') : jokv n' tag x r := by
  unfold jokv at h ⊢
  split
  · exact h
  · exact h
  · exact ⟨h.1, Nat.lt_of_lt_of_le h.2 hn⟩
  · exact Nat.lt_of_lt_of_le h hn
  · exact h
  · exact h
  · trivial
theorem jOk.grow {T : jT} {h : jH} (H : jOk T h) {t : Nat × Nat} (ht : (t.1 < 13 ∧ t.2 = (jFt.getD t.1 []).length) ∨ (20 ≤ t.1 ∧ t.1 < 25 ∧ t.2 ≤ 100000)) : jOk (T.1 ++ [t], T.2) h := by
  obtain ⟨h1, h2, h3, h4⟩ := H
  have h0 : 0 < T.1.length := (List.getElem?_eq_some_iff.mp h1).1
  have at' : ∀ o t', (T.1 ++ [t])[o]? = some t' → (o < T.1.length ∧ T.1[o]? = some t') ∨ (o = T.1.length ∧ t' = t) := by
    intro o t' h
    by_cases ho : o < T.1.length
    · left
      rw [List.getElem?_append_left ho] at h
      exact ⟨ho, h⟩
    · right
      rw [List.getElem?_append_right (by omega)] at h
      have := (List.getElem?_eq_some_iff.mp h).1
      have ho2 : o - T.1.length = 0 := by simp at this; omega
      rw [ho2] at h
      cases h
      exact ⟨by omega, rfl⟩
  refine ⟨by show (T.1 ++ [t])[0]? = _; rw [List.getElem?_append_left h0]; exact h1, fun o t' ho hq => ?_, fun o t' k hq => ?_, fun o ho k => ?_⟩
  · rcases at' o t' hq with ⟨_, h⟩ | ⟨_, rfl⟩
    · exact h2 o t' ho h
    · exact ht
  · have hlen : T.1.length ≤ (T.1 ++ [t]).length := by simp
    rcases at' o t' hq with ⟨_, h⟩ | ⟨rfl, rfl⟩
    · exact jokv_mono (h3 o t' k h) hlen
    · obtain ⟨e1, e2⟩ := h4 T.1.length (Nat.le_refl _) k
      show jokv _ _ (h T.1.length k) (T.2 T.1.length k)
      rw [e1, e2]
      have hp : 0 < (T.1 ++ [t']).length := by simp
      unfold jokv
      split
      · exact ⟨by decide, by decide⟩
      · exact ⟨by decide, by decide⟩
      · exact ⟨by decide, hp⟩
      · exact hp
      · exact Or.inl rfl
      · exact ⟨by decide, by decide⟩
      · trivial
  · have ho : (T.1 ++ [t]).length ≤ o := ho
    rw [List.length_append, List.length_singleton] at ho
    exact h4 o (by omega) k
theorem jcl_grow {ad ad' : Nat → Nat} {cs : Nat → ClassId} {T : jT} {h : jH} {t : Nat × Nat} (H : jOk T h) (had : ∀ o, o < T.1.length → ad' o = ad o) : jcl ad' cs (T.1 ++ [t], T.2) h = jcl ad cs T h ++ [(ad' T.1.length, jel ad' cs T h T.1.length t)] := by
  obtain ⟨h1, h2, h3, h4⟩ := H
  have h0 : 0 < T.1.length := (List.getElem?_eq_some_iff.mp h1).1
  have jrv_eq : ∀ r, r < T.1.length → jrv ad' r = jrv ad r := fun r hr => by simp only [jrv, had r hr]
  have jro_eq : ∀ r, r < T.1.length → jro ad' r = jro ad r := fun r hr => by simp only [jro, had r hr]
  have el : ∀ o t', T.1[o]? = some t' → jel ad' cs T h o t' = jel ad cs T h o t' := by
    intro o t' ht'
    have hk : ∀ k, jokv T.1.length (jskd t' k) (h o k) (T.2 o k) := fun k => h3 o t' k ht'
    unfold jel
    by_cases c1 : t'.1 < 13
    · rw [if_pos c1, if_pos c1]
      have : jsl ad' T h o t'.1 = jsl ad T h o t'.1 := by
        funext k
        have hk := hk k
        have e : jskd t' k = jftg t'.1 k := by simp [jskd, c1]
        rw [e] at hk
        unfold jsl
        unfold jokv at hk
        split
        · rfl
        · rename_i e2
          rw [e2] at hk
          exact jrv_eq _ hk.2
        · rename_i e2
          rw [e2] at hk
          exact jrv_eq _ hk
        · rfl
      rw [this]
    · rw [if_neg c1, if_neg c1]
      by_cases c2 : t'.1 = 21
      · rw [if_pos c2, if_pos c2]
      · rw [if_neg c2, if_neg c2]
        by_cases c3 : t'.1 = 24
        · rw [if_pos c3, if_pos c3]
          have : (fun j => jro ad' (T.2 o j)) = (fun j => jro ad (T.2 o j)) := by
            funext j
            have hk := hk j
            have e : jskd t' j = 5 := by simp [jskd, c3]
            rw [e] at hk
            exact jro_eq _ hk
          rw [this]
        · rw [if_neg c3, if_neg c3]
  apply List.ext_getElem?
  intro i
  by_cases hi : i < T.1.length - 1
  · obtain ⟨t2, ht2⟩ : ∃ t2, T.1[i + 1]? = some t2 := ⟨_, List.getElem?_eq_getElem (by omega)⟩
    have a1 := jcl_at (ad := ad') (cs := cs) (T := (T.1 ++ [t], T.2)) (h := h) (o := i + 1) (t := t2) (by show (T.1 ++ [t])[i + 1]? = _; rw [List.getElem?_append_left (by omega)]; exact ht2) (by omega)
    have a2 := jcl_at (ad := ad) (cs := cs) (T := T) (h := h) (o := i + 1) ht2 (by omega)
    rw [Nat.add_sub_cancel] at a1 a2
    rw [a1, List.getElem?_append_left (by rw [jcl_len]; exact hi), a2, had _ (by omega)]
    congr 2
    exact (jel_congr rfl rfl t2).trans (el _ _ ht2)
  · by_cases hi2 : i = T.1.length - 1
    · have e : T.1.length - 1 + 1 = T.1.length := by omega
      have a1 := jcl_at (ad := ad') (cs := cs) (T := (T.1 ++ [t], T.2)) (h := h) (o := T.1.length) (t := t) (by show (T.1 ++ [t])[T.1.length]? = _; rw [List.getElem?_append_right (Nat.le_refl _)]; simp) h0
      rw [hi2, a1, List.getElem?_append_right (by rw [jcl_len]; exact Nat.le_refl _), jcl_len, Nat.sub_self]
      show some _ = some _
      congr 2
    · rw [List.getElem?_eq_none (by rw [jcl_len]; show (T.1 ++ [t]).length - 1 ≤ i; rw [List.length_append, List.length_singleton]; omega), List.getElem?_eq_none (by rw [List.length_append, jcl_len]; simp; omega)]
