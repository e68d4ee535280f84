/-! the checks of the rows against the Statement's words; the world that a method finds -/
def jgw (c : Jvm.Cond) : Bool := goodWord c
/-- the words that go along from method to method as they are -/
def jTg : List Jvm.Cond := lw_tbl.filter goodWord
theorem jTg_in {c : Jvm.Cond} (h : c ∈ lw_tbl) (hg : goodWord c = true) : c ∈ jTg := List.mem_filter.mpr ⟨h, hg⟩
/-- a class's table: its types by the tags, its name at every field -/
def jclok1 (R : String) (Tb : u_T) (c k : Nat) : Bool := decide ((Tb k).1 = R) && (match jftg c k, parseFieldDescriptor (Tb k).2.2.1 with
  | 0, some .int => !(Tb k).2.2.2
  | 8, some .boolean => !(Tb k).2.2.2
  | 1, some .long => !(Tb k).2.2.2
  | 2, some (.object _) => !(Tb k).2.2.2
  | 2, some (.array _) => !(Tb k).2.2.2
  | 5, some (.object _) => (Tb k).2.2.2
  | 5, some (.array _) => (Tb k).2.2.2
  | _, _ => false)
def jclok (c : Nat) (r : vw_C) : Bool := decide ((jFt.getD c []).length = r.2.2) && (List.range r.2.2).all (jclok1 r.1 r.2.1 c)
theorem jcl_all : (List.range 13).all (fun c => match vwCl[c]? with | some r => jclok c r | none => false) = true := by decide +kernel
theorem jcl_class {c : Nat} (hc : c < 13) : ∃ r, vwCl[c]? = some r ∧ (jFt.getD c []).length = r.2.2 ∧ ∀ k, k < r.2.2 → jclok1 r.1 r.2.1 c k = true := by
  have h := List.all_eq_true.mp jcl_all c (List.mem_range.mpr hc)
  split at h
  · rename_i r hr
    unfold jclok at h
    rw [Bool.and_eq_true] at h
    exact ⟨r, hr, of_decide_eq_true h.1, fun k hk => List.all_eq_true.mp h.2 k (List.mem_range.mpr hk)⟩
  · cases h
theorem jcl_in {c : Nat} {r : vw_C} (hr : vwCl[c]? = some r) : ∀ w ∈ u_ws r.1 r.2.1 r.2.2, w ∈ lw_tbl := by
  have hc : c < 13 := by
    have := (List.getElem?_eq_some_iff.mp hr).1
    exact this
  match c, hc, hr with
  | 0, _, hr => cases hr; exact inX0
  | 1, _, hr => cases hr; exact inX1
  | 2, _, hr => cases hr; exact inX2
  | 3, _, hr => cases hr; exact inX3
  | 4, _, hr => cases hr; exact inX4
  | 5, _, hr => cases hr; exact inX5
  | 6, _, hr => cases hr; exact inX6
  | 7, _, hr => cases hr; exact inX7
  | 8, _, hr => cases hr; exact inX8
  | 9, _, hr => cases hr; exact inX9
  | 10, _, hr => cases hr; exact inX10
  | 11, _, hr => cases hr; exact inX11
  | 12, _, hr => cases hr; exact inX12
theorem jlay_good (C : String) (T : u_T) (k : Nat) : goodWord (u_lay C T k) = true := by
  unfold u_lay
  split <;> rfl
theorem jcl_inT {c : Nat} {r : vw_C} (hr : vwCl[c]? = some r) : ∀ w ∈ u_ws r.1 r.2.1 r.2.2, w ∈ jTg := fun w hw => by
  refine jTg_in (jcl_in hr w hw) ?_
  obtain ⟨k, -, rfl⟩ := List.mem_map.mp hw
  exact jlay_good _ _ _
/-- the names of a class's fields are apart, their types are known -/
theorem jcl_nm {c : Nat} {r : vw_C} (hr : vwCl[c]? = some r) : ∀ a, a < r.2.2 → ∀ b, b < r.2.2 → a ≠ b → (r.2.1 a).2.1 ≠ (r.2.1 b).2.1 := by
  have hc : c < 13 := (List.getElem?_eq_some_iff.mp hr).1
  match c, hc, hr with
  | 0, _, hr => cases hr; exact nmX0
  | 1, _, hr => cases hr; exact nmX1
  | 2, _, hr => cases hr; exact nmX2
  | 3, _, hr => cases hr; exact nmX3
  | 4, _, hr => cases hr; exact nmX4
  | 5, _, hr => cases hr; exact nmX5
  | 6, _, hr => cases hr; exact nmX6
  | 7, _, hr => cases hr; exact nmX7
  | 8, _, hr => cases hr; exact nmX8
  | 9, _, hr => cases hr; exact nmX9
  | 10, _, hr => cases hr; exact nmX10
  | 11, _, hr => cases hr; exact nmX11
  | 12, _, hr => cases hr; exact nmX12
theorem jcl_ty {c : Nat} {r : vw_C} (hr : vwCl[c]? = some r) : ∃ ty0 : Nat → FieldType, ∀ k, k < r.2.2 → parseFieldDescriptor (r.2.1 k).2.2.1 = some (ty0 k) := by
  have hc : c < 13 := (List.getElem?_eq_some_iff.mp hr).1
  match c, hc, hr with
  | 0, _, hr => cases hr; exact ⟨_, tyX0_ok⟩
  | 1, _, hr => cases hr; exact ⟨_, tyX1_ok⟩
  | 2, _, hr => cases hr; exact ⟨_, tyX2_ok⟩
  | 3, _, hr => cases hr; exact ⟨_, tyX3_ok⟩
  | 4, _, hr => cases hr; exact ⟨_, tyX4_ok⟩
  | 5, _, hr => cases hr; exact ⟨_, tyX5_ok⟩
  | 6, _, hr => cases hr; exact ⟨_, tyX6_ok⟩
  | 7, _, hr => cases hr; exact ⟨_, tyX7_ok⟩
  | 8, _, hr => cases hr; exact ⟨_, tyX8_ok⟩
  | 9, _, hr => cases hr; exact ⟨_, tyX9_ok⟩
  | 10, _, hr => cases hr; exact ⟨_, tyX10_ok⟩
  | 11, _, hr => cases hr; exact ⟨_, tyX11_ok⟩
  | 12, _, hr => cases hr; exact ⟨_, tyX12_ok⟩
def jtys (cs : Nat → ClassId) : List (ClassId × FieldType) := [(cs 20, .int), (cs 21, .long), (cs 22, .boolean), (cs 23, .char), (cs 24, .object RX9)]
def jisN (w : Jvm.Cond) : Bool := match w with
  | .methodLinkNest _ _ _ _ => true
  | .fieldLinkNest _ _ _ _ _ _ => true
  | _ => false
/-- what lies outside: static arrays, the script, String constants -/
def jXt (xv : Nat → Value) (xs : List Int) (A : Nat → Prop) (U : State) : Prop :=
  (∀ (z : Int) (kind : Nat) (l : List Int), jext xs z = some (kind, l) → ∃ t, xv z.toNat = .ref t ∧ va_T (jty kind) t l.length (fun j => .int (Int32.ofInt (l.getD j 0))) A U U.heap) ∧
  (∀ z : Nat, 10 ≤ z → z < 40 → ∃ a b, xv z = .ref a ∧ xv (z + 40) = .ref b ∧ va_O "java/lang/String" a A U U.heap ∧ va_OF "java/lang/String" "coder" "B" (.int 0) a A U U.heap ∧ va_OF "java/lang/String" "value" "[B" (.ref b) a A U U.heap) ∧
  va_Z "GroupJournal" "CLOSES_WITHOUT" "[I" (xv 0) A U U.heap ∧ va_Z "GroupJournal" "TAKES_WITHOUT" "[I" (xv 1) A U U.heap ∧ va_Z "java/lang/String" "COMPACT_STRINGS" "Z" (.int 1) A U U.heap ∧ va_Z "jdk/internal/util/Preconditions" "SIOOBE_FORMATTER" "Ljava/util/function/BiFunction;" (xv 3) A U U.heap
def jWd (D : va_G) (cs : Nat → ClassId) (xv : Nat → Value) (xs : List Int) (A : Nat → Prop) (U : State) : Prop :=
  ((∀ z, jref (xv z)) ∧ (∀ v ∈ xs, jI32 v) ∧ xs.length < 2147483648) ∧ va_K D vwCl (jtys cs) U ∧ (∀ w ∈ jTg, ∀ a, w.before a U = true) ∧ (∀ w ∈ lw_tbl, jisN w = true → va_Nw w U) ∧ va_AO RX9 U ∧
  (∀ own k tx z, Jvm.Cond.stringRef own k tx ∈ lw_tbl → jStr[z - 10]? = some (tx.toList.map (fun ch => (ch.toNat : Int))) → 10 ≤ z → z < 40 → ∃ a, vk_R own k tx a U ∧ xv z = .ref a) ∧ jXt xv xs A U
theorem jXt.move {xv : Nat → Value} {xs : List Int} {A : Nat → Prop} {s U : State} (h : jXt xv xs A s) (hvm : s.vm.Alike U.vm) (hh : ∀ a : Nat, a < s.heap.size → ¬ A a → U.heap[a]? = s.heap[a]?) : jXt xv xs A U := by
  obtain ⟨h1, h2, h3, h4, h5, h6⟩ := h
  refine ⟨fun z kind l hz => ?_, fun z hz1 hz2 => ?_, (va_Z.moved hvm h3).kept hh, (va_Z.moved hvm h4).kept hh, (va_Z.moved hvm h5).kept hh, (va_Z.moved hvm h6).kept hh⟩
  · obtain ⟨t, e, hT⟩ := h1 z kind l hz
    exact ⟨t, e, (va_T.moved hvm hT).kept hh⟩
  · obtain ⟨a, b, e1, e2, g1, g2, g3⟩ := h2 z hz1 hz2
    exact ⟨a, b, e1, e2, (va_O.moved hvm g1).kept hh, (va_OF.moved hvm g2).kept hh, (va_OF.moved hvm g3).kept hh⟩
theorem jWd.move {D : va_G} {cs : Nat → ClassId} {xv : Nat → Value} {xs : List Int} {A : Nat → Prop} {s U : State} (h : jWd D cs xv xs A s) (hW : s.WarmedH U.vm) (hh : ∀ a : Nat, a < s.heap.size → ¬ A a → U.heap[a]? = s.heap[a]?) : jWd D cs xv xs A U := by
  obtain ⟨h1, h2, h3, h4, h5, h6, h7⟩ := h
  refine ⟨h1, va_K.moved hW.alike h2, fun w hw a => ?_, fun w hw hn => ?_, va_AO.moved hW.alike h5, fun own k tx z g1 g2 g3 g4 => ?_, h7.move hW.alike hh⟩
  · exact word_at (args := #[]) hW (good_of_word (List.mem_filter.mp hw).2) (h3 w hw #[])
  · have hq := h4 w hw hn
    cases w <;> first | exact va_Nw.warmF hW hq | exact va_Nw.warmM hW hq | cases hn
  · obtain ⟨a, e1, e2⟩ := h6 own k tx z g1 g2 g3 g4
    exact ⟨a, vk_R.warm hW e1, e2⟩
