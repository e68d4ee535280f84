/-! every run is a contract -/
theorem jexp_ne {t : Nat} {z : Int} {r : List jV} (e : t ≠ 1) : jexp ((t, z) :: r) = (t, z) :: jexp r := match t, e with
  | 0, _ => rfl
  | 1, e => absurd rfl e
  | n + 2, _ => rfl
theorem jexp_sl {ad : Nat → Nat} {xv : Nat → Value} (hxv : ∀ z, jref (xv z)) : ∀ (a : List jV) (n : Nat), jws n a → (lg_sl (a.map (jcv ad xv))).length = (jexp a).length := by
  intro a
  induction a with
  | nil => intro n _; rfl
  | cons v r ih =>
    intro n h
    have h1 := h v List.mem_cons_self
    have h2 := ih n (jws_tail h)
    have hc := jcv_cat (ad := ad) hxv h1.2.1 h1.2.2
    unfold lg_sl at h2 ⊢
    rw [List.map_cons, List.flatMap_cons, List.length_append, h2, hc]
    obtain ⟨t, z⟩ := v
    by_cases e : t = 1
    · subst e
      simp [jcat, jexp]
      omega
    · rw [jexp_ne e]
      simp [jcat, e]
      omega
theorem jpad_nil {ad : Nat → Nat} {xv : Nat → Value} : ∀ (n i : Nat), jlv ad xv i (jpad n []) = [] := by
  intro n
  induction n with
  | zero => intro i; rfl
  | succ n ih => intro i; show jlv ad xv i ((3, 0) :: jpad n []) = []; unfold jlv; rw [if_pos rfl]; exact ih (i + 1)
theorem jent_sub {ad : Nat → Nat} {xv : Nat → Value} (hxv : ∀ z, jref (xv z)) : ∀ (a : List jV) (i n k : Nat), jws k a → ∀ q ∈ jlv ad xv i (jpad n (jexp a)), q ∈ lv_args i (a.map (jcv ad xv)) := by
  intro a
  induction a with
  | nil => intro i n k _ q hq; unfold jexp at hq; rw [jpad_nil] at hq; cases hq
  | cons v r ih =>
    intro i n k h q hq
    have h1 := h v List.mem_cons_self
    have hc := jcv_cat (ad := ad) hxv h1.2.1 h1.2.2
    rw [List.map_cons]
    unfold lv_args
    rw [hc]
    obtain ⟨t, z⟩ := v
    by_cases e : t = 1
    · subst e
      rw [show jcat (1, z) = 2 from rfl, if_pos rfl]
      match n, hq with
      | 0, hq => cases hq
      | 1, hq =>
        have hq : q ∈ jlv ad xv i [(1, z)] := hq
        unfold jlv at hq
        rw [if_neg (by simp)] at hq
        unfold jlv at hq
        rw [List.mem_singleton] at hq
        rw [hq]
        exact List.mem_cons_self
      | n + 2, hq =>
        have hq : q ∈ jlv ad xv i ((1, z) :: (3, 0) :: jpad n (jexp r)) := hq
        unfold jlv at hq
        rw [if_neg (by simp)] at hq
        unfold jlv at hq
        rw [if_pos rfl] at hq
        rcases List.mem_cons.mp hq with hq | hq
        · rw [hq]; exact List.mem_cons_self
        · exact List.mem_cons_of_mem _ (ih (i + 1 + 1) n k (jws_tail h) q hq)
    · have e3 : jcat (t, z) = 1 := by simp [jcat, e]
      rw [e3, if_neg (by decide)]
      rw [jexp_ne e] at hq
      match n, hq with
      | 0, hq => cases hq
      | n + 1, hq =>
        have hq : q ∈ jlv ad xv i ((t, z) :: jpad n (jexp r)) := hq
        unfold jlv at hq
        rw [if_neg h1.2.1] at hq
        rcases List.mem_cons.mp hq with hq | hq
        · rw [hq]; exact List.mem_cons_self
        · exact List.mem_cons_of_mem _ (ih (i + 1) n k (jws_tail h) q hq)
theorem jpad_len : ∀ (n : Nat) (a : List jV), (jpad n a).length = n := by
  intro n
  induction n with
  | zero => intro a; rfl
  | succ n ih => intro a; cases a with
    | nil => show ((3, 0) :: jpad n []).length = n + 1; simp [ih]
    | cons v r => show (v :: jpad n r).length = n + 1; simp [ih]
theorem jpad_mem : ∀ (n : Nat) (a : List jV) (v : jV), v ∈ jpad n a → v = (3, 0) ∨ v ∈ a := by
  intro n
  induction n with
  | zero => intro a v h; cases h
  | succ n ih => intro a v h; cases a with
    | nil =>
      rcases List.mem_cons.mp (show v ∈ (3, 0) :: jpad n [] from h) with h | h
      · exact Or.inl h
      · exact ih [] v h
    | cons w r =>
      rcases List.mem_cons.mp (show v ∈ w :: jpad n r from h) with h | h
      · exact Or.inr (by rw [h]; exact List.mem_cons_self)
      · exact (ih r v h).imp id (List.mem_cons_of_mem _)
theorem jexp_mem : ∀ (a : List jV) (v : jV), v ∈ jexp a → v = (3, 0) ∨ v ∈ a := by
  intro a
  induction a with
  | nil => intro v h; cases h
  | cons w r ih =>
    intro v h
    obtain ⟨t, z⟩ := w
    by_cases e : t = 1
    · subst e
      rcases List.mem_cons.mp (show v ∈ (1, z) :: (3, 0) :: jexp r from h) with h | h
      · exact Or.inr (by rw [h]; exact List.mem_cons_self)
      · rcases List.mem_cons.mp h with h | h
        · exact Or.inl h
        · exact (ih v h).imp id (List.mem_cons_of_mem _)
    · rw [jexp_ne e] at h
      rcases List.mem_cons.mp h with h | h
      · exact Or.inr (by rw [h]; exact List.mem_cons_self)
      · exact (ih v h).imp id (List.mem_cons_of_mem _)
/-- the entry's locals -/
theorem jent_rel {a : List jV} {n mL : Nat} (h : jws n a) : jwl n (jpad mL (jexp a)) ∧ jtg (jpad mL (jexp a)) := by
  have key : ∀ v, v ∈ jpad mL (jexp a) → v = (3, 0) ∨ v ∈ a := fun v hv => by
    rcases jpad_mem _ _ _ hv with h | h
    · exact Or.inl h
    · exact jexp_mem _ _ h
  refine ⟨fun v hv => ?_, fun v hv => ?_⟩
  · rcases key v hv with rfl | hm
    · trivial
    · exact (h v hm).1
  · rcases key v hv with rfl | hm
    · exact (by decide : (3 : Nat) < 6)
    · exact (h v hm).2.2
/-- a method's contract out of its body's walk; the class may have rows of its own for other methods (Math) -/
theorem jMetW {l : Launch} {y : MethodName} {ws ws' : List Jvm.Cond} {rm : Room} {Pc : Array Value → State → Prop} {Qc : Array Value → State → Outcome → State → Prop} {mc ms : Nat} {free : Addr → Prop} {cc : ByteArray} {maxL : Nat} {ret : Option Jvm.ClassFile.FieldType} (hy : plainFor y = true) (hw : ws = Jvm.Cond.code y cc maxL ret :: ws')
    (hb : ∀ p e s m args below meth c s₁, BodyLoose p l y (headSpec ws rm) cc maxL ret e s m args below meth c s₁ → c.maxLocals = maxL → Pc args s → W p l e (headSpec ws rm).room s m args below meth c s.heap [] 0 0 (MQ below Qc args s mc ms free) (entryFrame m args maxL)) : Met l y ws rm Pc Qc mc ms free := by
  refine MetFree.of_bodySF (code := cc) (maxLocals := maxL) (ret := ret) hy (fun args s m h hn => ?_) (fun p e s m args below meth c s₁ B hml hP _ => ?_)
  · obtain ⟨meth, c, q1, q2, q3, q4, q5, q6, _⟩ := Jvm.Cond.code_spec hn (atoms_spec (ws := ws) h _ (hw ▸ List.mem_cons_self))
    exact ⟨meth, c, q1, q2, q3, q4, q5, q6⟩
  · obtain ⟨t, q1, o, q2, q3, q4⟩ := hb p e s m args below meth c s₁ B hml hP s₁ (by rw [B.state]; rfl) (Stand.of_body B)
    exact ⟨t, o, q1, q2, q3, q4.1, q4.2⟩
section JCON
variable {l : Launch} {D : va_G} {cs : Nat → ClassId} {xv : Nat → Value} {xs : List Int} {A : Nat → Prop} {base : Nat}
theorem jcon_of (hA : ∀ q, base ≤ q → A q) {d k mi : Nat} {a : List jV} {σ σ' : jS} {r : jV} (m0 : 0 < mi) (m1 : mi < 373) (hcall : ∀ mi' a σ r σ', jrun xs d k mi' a σ = some (r, σ') → jle2 σ σ' ∧ (0 < mi' → mi' < 373 → jCon l D cs xv xs A base d mi' a σ r σ')) (hlen : (jexp a).length ≤ (jmi mi).2.2.1) (hrun : jxN xs (jrun xs d k) k (jent mi a) σ = some (r, σ')) : jCon l D cs xv xs A base (d + 1) mi a σ r σ' := by
  intro ad hO hsa
  obtain ⟨g1, -, -, -, -, gp, -⟩ := jmok_of m0 m1
  refine jMetW (cc := (jmi mi).2.1) (maxL := (jmi mi).2.2.1) (ret := jret (jmi mi).2.2.2.1) gp rfl ?_
  intro p e s m args below meth c s₁ B hml hv
  obtain ⟨rfl, hwd, hb, hP, hD⟩ := hv
  have hF : jFix p s m meth c D cs xv xs A mi := ⟨B.exec, B.bytes, hml, findClass_of_methodNamed B.named, hwd, fun q hq => hA q (Nat.le_trans hb hq), fun hn => (name_of_methodNamed B.named B.method).1.trans hn⟩
  have hsl := jexp_sl (ad := ad) hwd.1.1 a _ hsa
  have hl := lv_entry (a.map (jcv ad xv)) (n := (jmi mi).2.2.1) (by rw [hsl]; exact hlen)
  rw [lg_entry_eq]
  generalize (lg_sl (a.map (jcv ad xv)) ++ List.replicate ((jmi mi).2.2.1 - (lg_sl (a.map (jcv ad xv))).length) Slot.unset).toArray = ls at hl ⊢
  have hl2 : lv_has ls (jmi mi).2.2.1 (jlv ad xv 0 (jpad (jmi mi).2.2.1 (jexp a))) := ⟨hl.1, hl.2.1, fun q hq => hl.2.2 q (jent_sub hwd.1.1 a 0 _ _ hsa q hq)⟩
  have hpl := jpad_len (jmi mi).2.2.1 (jexp a)
  obtain ⟨e1, e2⟩ := jent_rel (mL := (jmi mi).2.2.1) hsa
  have go := jbody (L0 := σ.1.1.length) (t0 := jtot σ.1.1) (ad0 := ad) (R := { frames := d + 1, cells := σ'.1.1.length - σ.1.1.length, slots := jtot σ'.1.1 - jtot σ.1.1, locals := (d + 1) * 128 }) (y := (r, σ')) (e := e) (l := l) (args := (a.map (jcv ad xv)).toArray) (below := below)
    (Q := MQ below (fun _ st oc t => jPo D cs A ad σ r σ' oc t ∧ va_F A st t) (a.map (jcv ad xv)).toArray s (σ'.1.1.length - σ.1.1.length) (jtot σ'.1.1 - jtot σ.1.1) A)
    hF hb ⟨Nat.le_refl _, Nat.le_refl _⟩ hcall ⟨Nat.le_refl _, Nat.le_refl _⟩ (fun pc ls st hj => jend hF B.returns B.notSynchronized rfl rfl hj) k (jent mi a) σ rfl hrun ad ls s.heap [] (fun _ _ => rfl) (Nat.le_refl _) (Nat.le_refl _)
    ⟨by show lv_has ls (jpad (jmi mi).2.2.1 (jexp a)).length _; rw [hpl]; exact hl2, hpl, e1, e2, (fun v hv => by cases hv), hO, hP, hD, va_S.rf⟩
  rw [Nat.sub_self, Nat.sub_self] at go
  exact go
theorem jrun_sound (hA : ∀ q, base ≤ q → A q) : ∀ (d k mi : Nat) (a : List jV) (σ : jS) (r : jV) (σ' : jS), jrun xs d k mi a σ = some (r, σ') → jle2 σ σ' ∧ (0 < mi → mi < 373 → jCon l D cs xv xs A base d mi a σ r σ') := by
  intro d
  induction d with
  | zero => intro k mi a σ r σ' h; simp [jrun] at h
  | succ d ih =>
    intro k mi a σ r σ' h
    refine ⟨jrun_le _ _ _ _ _ _ _ h, fun m0 m1 => ?_⟩
    simp only [jrun] at h
    split at h
    · rename_i hc
      exact jcon_of hA m0 m1 (fun mi' a σ r σ' h => ih k mi' a σ r σ' h) hc h
    · cases h
end JCON
