/-! rules by which a method's function is shown to be what the machine of numbers does -/
/-- locals that say less -/
def jles : List jV → List jV → Prop
  | [], [] => True
  | a :: r, b :: q => (a.1 = 3 ∨ a = b) ∧ jles r q
  | _, _ => False
theorem jles.rf : ∀ (a : List jV), jles a a
  | [] => trivial
  | _ :: r => ⟨Or.inr rfl, jles.rf r⟩
theorem jles.get : ∀ {a b : List jV} {k : Nat} {v : jV}, jles a b → jget a k = some v → v.1 = 3 ∧ (∃ w, jget b k = some w) ∨ jget b k = some v := by
  intro a
  induction a with
  | nil => intro b k v _ h; cases h
  | cons x r ih =>
    intro b k v h hg
    cases b with
    | nil => exact h.elim
    | cons y q =>
      cases k with
      | zero =>
        cases hg
        rcases h.1 with e | e
        · exact Or.inl ⟨e, y, rfl⟩
        · exact Or.inr (by rw [e]; rfl)
      | succ k => exact ih (b := q) (k := k) h.2 hg
theorem jles.set : ∀ {a b : List jV} (k : Nat) (v : jV), jles a b → jles (jset a k v) (jset b k v) := by
  intro a
  induction a with
  | nil => intro b k v h; cases b with
    | nil => trivial
    | cons y q => exact h.elim
  | cons x r ih =>
    intro b k v h
    cases b with
    | nil => exact h.elim
    | cons y q => cases k with
      | zero => exact ⟨Or.inr rfl, h.2⟩
      | succ k => exact ⟨h.1, ih k v h.2⟩
theorem jles.setR : ∀ {a b : List jV} (k : Nat) (v : jV), jles a b → (∀ w, jget a k = some w → w.1 = 3) → jles a (jset b k v) := by
  intro a
  induction a with
  | nil => intro b k v h _; cases b with
    | nil => trivial
    | cons y q => exact h.elim
  | cons x r ih =>
    intro b k v h hk
    cases b with
    | nil => exact h.elim
    | cons y q => cases k with
      | zero => exact ⟨Or.inl (hk x rfl), h.2⟩
      | succ k => exact ⟨h.1, ih k v h.2 (fun w hw => hk w hw)⟩
theorem jles.clr {a b : List jV} (k : Nat) (h : jles a b) : jles (jclr a k) (jclr b k) := by
  cases k with
  | zero => exact h
  | succ i =>
    have hb : ∀ w, jget b i = some w → (w.1 = 1 → jclr b (i + 1) = jset b i (3, 0)) ∧ (w.1 ≠ 1 → jclr b (i + 1) = b) := by
      rintro ⟨t, x⟩ hw
      unfold jclr
      dsimp only
      rw [hw]
      refine ⟨fun e => ?_, fun e => ?_⟩
      · cases e; rfl
      · split
        · rename_i hq; cases hq; exact absurd rfl e
        · rfl
    have ha : ∀ w, jget a i = some w → (w.1 = 1 → jclr a (i + 1) = jset a i (3, 0)) ∧ (w.1 ≠ 1 → jclr a (i + 1) = a) := by
      rintro ⟨t, x⟩ hw
      unfold jclr
      dsimp only
      rw [hw]
      refine ⟨fun e => ?_, fun e => ?_⟩
      · cases e; rfl
      · split
        · rename_i hq; cases hq; exact absurd rfl e
        · rfl
    cases hga : jget a i with
    | none =>
      have e1 : jclr a (i + 1) = a := by unfold jclr; dsimp only; rw [hga]
      have hgb : jget b i = none := by
        cases hq : jget b i with
        | none => rfl
        | some w =>
          exfalso
          have key : ∀ (a b : List jV) (i : Nat) (w : jV), jles a b → jget b i = some w → jget a i ≠ none := by
            intro a
            induction a with
            | nil => intro b i w h hg; cases b with
              | nil => cases hg
              | cons y q => exact h.elim
            | cons x r ih => intro b i w h hg; cases b with
              | nil => exact h.elim
              | cons y q => cases i with
                | zero => intro e; cases e
                | succ i => exact ih q i w h.2 hg
          exact key a b i w h hq hga
      have e2 : jclr b (i + 1) = b := by unfold jclr; dsimp only; rw [hgb]
      rw [e1, e2]
      exact h
    | some w =>
      rcases h.get hga with ⟨h3, w', hw'⟩ | hw
      · rw [(ha w hga).2 (by omega)]
        by_cases e : w'.1 = 1
        · rw [(hb w' hw').1 e]
          exact h.setR i _ (fun z hz => by rw [hga] at hz; cases hz; exact h3)
        · rw [(hb w' hw').2 e]
          exact h
      · by_cases e : w.1 = 1
        · rw [(ha w hga).1 e, (hb w hw).1 e]
          exact h.set i _
        · rw [(ha w hga).2 e, (hb w hw).2 e]
          exact h
theorem jles.st1 {a b a' : List jV} {k : Nat} {v : jV} (h : jles a b) (hs : jst1 a k v = some a') : ∃ b', jst1 b k v = some b' ∧ jles a' b' := by
  unfold jst1 at hs
  split at hs
  · cases hs
  · rename_i w hw
    cases hs
    have : ∃ w', jget b k = some w' := by
      rcases h.get hw with ⟨_, w', hq⟩ | hq
      · exact ⟨w', hq⟩
      · exact ⟨_, hq⟩
    obtain ⟨w', hw'⟩ := this
    refine ⟨_, by unfold jst1; rw [hw'], (h.clr k).set k v⟩
theorem jles.st2 {a b a' : List jV} {k : Nat} {v : jV} (h : jles a b) (hs : jst2 a k v = some a') : ∃ b', jst2 b k v = some b' ∧ jles a' b' := by
  unfold jst2 at hs
  split at hs
  · cases hs
  · rename_i w hw
    cases hs
    have : ∃ w', jget b (k + 1) = some w' := by
      rcases h.get hw with ⟨_, w', hq⟩ | hq
      · exact ⟨w', hq⟩
      · exact ⟨_, hq⟩
    obtain ⟨w', hw'⟩ := this
    refine ⟨_, by unfold jst2; rw [hw'], ((h.clr k).set k v).set (k + 1) _⟩
theorem jles.jstep {i : jI} {info : List Nat} {a b a' st st' : List jV} (h : jles a b) (hs : jst i info a st = some (a', st')) : ∃ b', jst i info b st = some (b', st') ∧ jles a' b' := by
  have ldI : ∀ {k : Nat}, jldI a st k = some (a', st') → ∃ b', jldI b st k = some (b', st') ∧ jles a' b' := by
    intro k hq
    obtain ⟨rfl, x, h1, rfl⟩ := jldI_of hq
    rcases h.get h1 with ⟨h3, _⟩ | h2
    · cases h3
    · exact ⟨b, by unfold jldI; rw [h2]; rfl, h⟩
  have ldL : ∀ {k : Nat}, jldL a st k = some (a', st') → ∃ b', jldL b st k = some (b', st') ∧ jles a' b' := by
    intro k hq
    obtain ⟨rfl, x, h1, rfl⟩ := jldL_of hq
    rcases h.get h1 with ⟨h3, _⟩ | h2
    · cases h3
    · exact ⟨b, by unfold jldL; rw [h2]; rfl, h⟩
  have ldA : ∀ {k : Nat}, jldA a st k = some (a', st') → ∃ b', jldA b st k = some (b', st') ∧ jles a' b' := by
    intro k hq
    obtain ⟨rfl, ⟨t, x⟩, h1, rfl, h4⟩ := jldA_of hq
    rcases h.get h1 with ⟨h3, _⟩ | h2
    · rcases h4 with h4 | h4 | h4 <;> (rw [h4] at h3; cases h3)
    · refine ⟨b, ?_, h⟩
      unfold jldA
      rw [h2]
      rcases h4 with h4 | h4 | h4 <;> (cases h4; rfl)
  have svI : ∀ {k : Nat}, jsvI a st k = some (a', st') → ∃ b', jsvI b st k = some (b', st') ∧ jles a' b' := by
    intro k hq
    obtain ⟨x, rfl, h1⟩ := jsvI_of hq
    obtain ⟨b', h2, h3⟩ := h.st1 h1
    exact ⟨b', by unfold jsvI; simp only [h2], h3⟩
  have svA : ∀ {k : Nat}, jsvA a st k = some (a', st') → ∃ b', jsvA b st k = some (b', st') ∧ jles a' b' := by
    intro k hq
    rcases jsvA_of hq with ⟨x, rfl, h1⟩ | ⟨x, rfl, h1⟩
    · obtain ⟨b', h2, h3⟩ := h.st1 h1
      exact ⟨b', by unfold jsvA; simp only [h2], h3⟩
    · obtain ⟨b', h2, h3⟩ := h.st1 h1
      exact ⟨b', by unfold jsvA; simp only [h2], h3⟩
  have svL : ∀ {k : Nat}, jsvL a st k = some (a', st') → ∃ b', jsvL b st k = some (b', st') ∧ jles a' b' := by
    intro k hq
    obtain ⟨x, rfl, h1⟩ := jsvL_of hq
    obtain ⟨b', h2, h3⟩ := h.st2 h1
    exact ⟨b', by unfold jsvL; simp only [h2], h3⟩
  have bin : ∀ {f : Int → Int → Int}, jbin f a st = some (a', st') → ∃ b', jbin f b st = some (b', st') ∧ jles a' b' := by
    intro f hq
    obtain ⟨rfl, x, y, r, rfl, rfl⟩ := jbin_of hq
    exact ⟨b, rfl, h⟩
  have binL : ∀ {f : Int → Int → Int}, jbinL f a st = some (a', st') → ∃ b', jbinL f b st = some (b', st') ∧ jles a' b' := by
    intro f hq
    obtain ⟨rfl, x, y, r, rfl, rfl⟩ := jbinL_of hq
    exact ⟨b, rfl, h⟩
  have inc : ∀ {k : Nat} {n : Int}, jiinc a st k n = some (a', st') → ∃ b', jiinc b st k n = some (b', st') ∧ jles a' b' := by
    intro k n hq
    obtain ⟨rfl, x, h0, h1⟩ := jiinc_of hq
    obtain ⟨b', h2, h3⟩ := h.st1 h1
    rcases h.get h0 with ⟨h4, _⟩ | h4
    · cases h4
    · exact ⟨b', by unfold jiinc; simp only [h4, h2], h3⟩
  cases i <;> first
    | exact ldI hs | exact ldL hs | exact ldA hs | exact svI hs | exact svA hs | exact svL hs | exact bin hs | exact binL hs | exact inc hs
    | (simp only [jst] at hs ⊢
       repeat' split at hs
       all_goals first
         | (cases hs; done)
         | (cases hs; exact ⟨b, rfl, h⟩))
    | (simp only [jst] at hs ⊢
       unfold jldc at hs ⊢
       repeat' split at hs
       all_goals first
         | (cases hs; done)
         | (cases hs; exact ⟨b, rfl, h⟩))
    | (simp [jst] at hs)
def jsub (ls : List jV) : jX → jX
  | .inl ((m, p, _, s), σ) => .inl ((m, p, ls, s), σ)
  | .inr (.inl y) => .inr (.inl y)
  | .inr (.inr (mi, a, (m, p, _, s))) => .inr (.inr (mi, a, (m, p, ls, s)))
theorem jgf_sub {info : List Nat} {mi pc : Nat} {a b st : List jV} {σ : jS} : jgf info mi pc b st σ = (jgf info mi pc a st σ).map (jsub b) := by
  unfold jgf jon
  repeat' split
  all_goals rfl
theorem jpf_sub {info : List Nat} {mi pc : Nat} {a b st : List jV} {σ : jS} : jpf info mi pc b st σ = (jpf info mi pc a st σ).map (jsub b) := by
  unfold jpf jon
  repeat' split
  all_goals rfl
theorem jld_sub {kind t : Nat} {xs : List Int} {mi pc : Nat} {a b st : List jV} {σ : jS} : jld kind t xs mi pc b st σ = (jld kind t xs mi pc a st σ).map (jsub b) := by
  unfold jld jon
  repeat' split
  all_goals rfl
theorem jsv_sub {kind t : Nat} {mi pc : Nat} {a b st : List jV} {σ : jS} : jsv kind t mi pc b st σ = (jsv kind t mi pc a st σ).map (jsub b) := by
  unfold jsv jon
  repeat' split
  all_goals rfl
theorem jinv_sub {info : List Nat} {mi pc : Nat} {a b st : List jV} {σ : jS} : jinv info mi pc b st σ = (jinv info mi pc a st σ).map (jsub b) := by
  unfold jinv jnat7 jnat10 jcall jon
  repeat' split
  all_goals rfl
theorem jn0_sub {xs : List Int} {mi pc n : Nat} {i : jI} {info : List Nat} {a b st : List jV} {σ : jS} {z : jX} (hf : jfet mi pc = some (i, n, info)) (ha : jst i info a st = none) (hb : jst i info b st = none) (h : jn0 xs (mi, pc, a, st) σ = some z) : jn0 xs (mi, pc, b, st) σ = some (jsub b z) := by
  have key : jn0 xs (mi, pc, b, st) σ = (jn0 xs (mi, pc, a, st) σ).map (jsub b) := by
    unfold jn0
    dsimp only
    rw [hf]
    dsimp only
    rw [ha, hb]
    dsimp only
    cases i <;> dsimp only <;> first
      | rfl
      | exact jgf_sub | exact jpf_sub | exact jld_sub | exact jsv_sub | exact jinv_sub
      | (unfold jnew jon
         repeat' split
         all_goals rfl)
      | (unfold jon
         repeat' split
         all_goals rfl)
      | (repeat' split
         all_goals first | exact jld_sub | rfl)
  rw [key, h]
  rfl
theorem jst_kind (i : jI) : (∀ info ls st xs mi pc n σ, jfet mi pc = some (i, n, info) → jst i info ls st = none → jn0 xs (mi, pc, ls, st) σ = none) ∨ ∀ info ls st, jst i info ls st = none := by
  cases i <;> first
    | (right; intro info ls st; rfl)
    | (left; intro info ls st xs mi pc n σ hf hj; unfold jn0; dsimp only; rw [hf]; dsimp only; rw [hj])
theorem jEv.weak {xs : List Int} {d mi pc : Nat} {a b st : List jV} {σ : jS} {y : jV × jS} (h : jles a b) (k : jEv xs d (mi, pc, a, st) σ y) : jEv xs d (mi, pc, b, st) σ y := by
  obtain ⟨n, hn⟩ := k
  refine ⟨n, ?_⟩
  have key : ∀ (m pc : Nat) (a b st : List jV) (σ : jS) (mi : Nat), jles a b → jxN xs (jrun xs d n) m (mi, pc, a, st) σ = some y → jxN xs (jrun xs d n) m (mi, pc, b, st) σ = some y := by
    intro m
    induction m with
    | zero => intro pc a b st σ mi _ h; simp [jxN] at h
    | succ m ih =>
      intro pc a b st σ mi hab h
      simp only [jxN] at h ⊢
      cases hz : jn0 xs (mi, pc, a, st) σ with
      | none => rw [hz] at h; cases h
      | some z =>
        rw [hz] at h
        cases hf : jfet mi pc with
        | none =>
          unfold jn0 at hz
          dsimp only at hz
          rw [hf] at hz
          cases hz
        | some q =>
          obtain ⟨i, nn, info⟩ := q
          cases hs : jst i info a st with
          | some w =>
            obtain ⟨a', st'⟩ := w
            obtain ⟨b', h2, h3⟩ := hab.jstep hs
            have e1 : jn0 xs (mi, pc, a, st) σ = some (.inl ((mi, pc + nn, a', st'), σ)) := by
              unfold jn0
              dsimp only
              rw [hf]
              dsimp only
              rw [hs]
              rfl
            have e2 : jn0 xs (mi, pc, b, st) σ = some (.inl ((mi, pc + nn, b', st'), σ)) := by
              unfold jn0
              dsimp only
              rw [hf]
              dsimp only
              rw [h2]
              rfl
            rw [e1] at hz
            cases hz
            rw [e2]
            exact ih _ _ _ _ _ _ h3 h
          | none =>
            rcases jst_kind i with hk | hk
            · rw [hk info a st xs mi pc nn σ hf hs] at hz
              cases hz
            · have e2 := jn0_sub (b := b) hf hs (hk info b st) hz
              rw [e2]
              -- what comes out has the locals that went in
              have keep : jn0 xs (mi, pc, a, st) σ = some (jsub a z) := jn0_sub (b := a) hf hs hs hz
              rw [hz] at keep
              have ez : z = jsub a z := Option.some.inj keep
              rcases z with ⟨⟨m1, p1, l1, s1⟩, σ1⟩ | y1 | ⟨mi1, a1, m1, p1, l1, s1⟩
              · have el : l1 = a := by
                  have := ez
                  simp only [jsub] at this
                  injection this with this
                  injection this with t1 t2
                  injection t1 with t3 t4
                  injection t4 with t5 t6
                  injection t6
                subst el
                exact ih _ _ _ _ _ _ hab h
              · exact h
              · have el : l1 = a := by
                  have := ez
                  simp only [jsub] at this
                  injection this with this
                  injection this with this
                  injection this with t1 t2
                  injection t2 with t3 t4
                  injection t4 with t5 t6
                  injection t6 with t7 t8
                  injection t8
                subst el
                simp only [jsub] at h ⊢
                cases hc : jrun xs d n mi1 a1 σ with
                | none => rw [hc] at h; cases h
                | some r =>
                  obtain ⟨r1, r2⟩ := r
                  rw [hc] at h
                  exact ih _ _ _ _ _ _ hab h
  exact key n pc a b st σ mi h hn
/-! the rules -/
def jxB : List (jI × Nat × List Nat) → Nat → List jV → List jV → Option (Nat × List jV × List jV)
  | [], pc, ls, st => some (pc, ls, st)
  | (i, n, info) :: r, pc, ls, st => match jst i info ls st with
    | some (ls', st') => jxB r (pc + n) ls' st'
    | none => none
def jfI (mi pc : Nat) (i : jI) (n : Nat) (info : List Nat) : Bool := decide (jfet mi pc = some (i, n, info))
def jfB (mi : Nat) : List (jI × Nat × List Nat) → Nat → Bool
  | [], _ => true
  | (i, n, info) :: r, pc => jfI mi pc i n info && jfB mi r (pc + n)
theorem jfI_of {mi pc n : Nat} {i : jI} {info : List Nat} (h : jfI mi pc i n info = true) : jfet mi pc = some (i, n, info) := of_decide_eq_true h
theorem jEv.blk {xs : List Int} {d mi : Nat} {σ : jS} {y : jV × jS} : ∀ (B : List (jI × Nat × List Nat)) {pc pc' : Nat} {ls ls' st st' : List jV}, jfB mi B pc = true → jxB B pc ls st = some (pc', ls', st') → jEv xs d (mi, pc', ls', st') σ y → jEv xs d (mi, pc, ls, st) σ y := by
  intro B
  induction B with
  | nil => intro pc pc' ls ls' st st' _ h k; cases h; exact k
  | cons b r ih =>
    obtain ⟨i, n, info⟩ := b
    intro pc pc' ls ls' st st' hf h k
    unfold jfB at hf
    rw [Bool.and_eq_true] at hf
    unfold jxB at h
    split at h
    · rename_i l2 s2 hq
      refine jEv.on ?_ (ih hf.2 h k)
      unfold jn0
      dsimp only
      rw [jfI_of hf.1]
      dsimp only
      rw [hq]
      rfl
    · cases h
theorem jleaf {α : Type} {P : α → Prop} {v out : α} (H : some v = some out) (HY : P out) : P v := by cases H; exact HY
theorem jmapr {α β : Type} {X : Option β} {P : α ⊕ β → Prop} {out : α ⊕ β} {G : Prop} (H : Option.map Sum.inr X = some out) (HY : P out) (k : ∀ o, X = some o → P (.inr o) → G) : G := by
  cases X with
  | none => cases H
  | some o => cases H; exact k o rfl HY
theorem jbind {α β : Type} {X : Option α} {g : α → Option β} {out : β} {G : Prop} (H : Option.bind X g = some out) (k : ∀ a, X = some a → g a = some out → G) : G := by
  cases X with
  | none => cases H
  | some a => exact k a rfl H
theorem jchk {α : Type} {c : Prop} [Decidable c] {A : Option α} {out : α} {G : Prop} (H : (if c then A else none) = some out) (k : c → A = some out → G) : G := by
  by_cases h : c
  · rw [if_pos h] at H; exact k h H
  · rw [if_neg h] at H; cases H
theorem jite {α : Type} {c : Prop} [Decidable c] {A B : Option α} {out : α} {G : Prop} (H : (if c then A else B) = some out) (t : c → A = some out → G) (f : ¬ c → B = some out → G) : G := by
  by_cases h : c
  · rw [if_pos h] at H; exact t h H
  · rw [if_neg h] at H; exact f h H
section JEV
variable {xs : List Int} {d mi pc t : Nat} {ls st : List jV} {T : jT} {h : jH} {σ : jS} {y : jV × jS} {off a b : Int} {α : Type} {A B : Option α} {out : α}
theorem jEv.goto (hf : jfI mi pc (.goto off) 3 [] = true) (ht : jtgt pc off = t) (k : jEv xs d (mi, t, ls, st) σ y) : jEv xs d (mi, pc, ls, st) σ y := by
  refine jEv.on ?_ k
  unfold jn0; dsimp only; rw [jfI_of hf]; rw [← ht]; rfl
theorem jEv.cnd {c : Jvm.ClassFile.Cond} (hf : jfI mi pc (.if_icmp c off) 3 [] = true) (ht : jtgt pc off = t) (kt : jcnd c a b = true → jEv xs d (mi, t, ls, st) σ y) (kf : jcnd c a b = false → jEv xs d (mi, pc + 3, ls, st) σ y) : jEv xs d (mi, pc, ls, (0, b) :: (0, a) :: st) σ y := by
  have e : jn0 xs (mi, pc, ls, (0, b) :: (0, a) :: st) σ = jon mi (if jcnd c a b = true then jtgt pc off else pc + 3) ls st σ := by
    unfold jn0; dsimp only; rw [jfI_of hf]; rfl
  cases hc : jcnd c a b with
  | true => rw [hc, if_pos rfl, ht] at e; exact jEv.on e (kt hc)
  | false => rw [hc, if_neg (by decide)] at e; exact jEv.on e (kf hc)
theorem jEv.cnd0 {c : Jvm.ClassFile.Cond} (hf : jfI mi pc (.ifCond c off) 3 [] = true) (ht : jtgt pc off = t) (kt : jcnd c a 0 = true → jEv xs d (mi, t, ls, st) σ y) (kf : jcnd c a 0 = false → jEv xs d (mi, pc + 3, ls, st) σ y) : jEv xs d (mi, pc, ls, (0, a) :: st) σ y := by
  have e : jn0 xs (mi, pc, ls, (0, a) :: st) σ = jon mi (if jcnd c a 0 = true then jtgt pc off else pc + 3) ls st σ := by
    unfold jn0; dsimp only; rw [jfI_of hf]; rfl
  cases hc : jcnd c a 0 with
  | true => rw [hc, if_pos rfl, ht] at e; exact jEv.on e (kt hc)
  | false => rw [hc, if_neg (by decide)] at e; exact jEv.on e (kf hc)
theorem jEv.ic_lt (hf : jfI mi pc (.if_icmp .lt off) 3 [] = true) (ht : jtgt pc off = t) (H : (if a < b then A else B) = some out) (kt : a < b → A = some out → jEv xs d (mi, t, ls, st) σ y) (kf : ¬ a < b → B = some out → jEv xs d (mi, pc + 3, ls, st) σ y) : jEv xs d (mi, pc, ls, (0, b) :: (0, a) :: st) σ y :=
  jite H (fun c H => jEv.cnd hf ht (fun _ => kt c H) (fun e => absurd c (by simpa [jcnd] using e))) (fun c H => jEv.cnd hf ht (fun e => absurd (by simpa [jcnd] using e) c) (fun _ => kf c H))
theorem jEv.ic_ge (hf : jfI mi pc (.if_icmp .ge off) 3 [] = true) (ht : jtgt pc off = t) (H : (if a < b then A else B) = some out) (kf : a < b → A = some out → jEv xs d (mi, pc + 3, ls, st) σ y) (kt : ¬ a < b → B = some out → jEv xs d (mi, t, ls, st) σ y) : jEv xs d (mi, pc, ls, (0, b) :: (0, a) :: st) σ y :=
  jite H (fun c H => jEv.cnd hf ht (fun e => absurd c (by simpa [jcnd] using e)) (fun _ => kf c H)) (fun c H => jEv.cnd hf ht (fun _ => kt c H) (fun e => absurd (by simpa [jcnd] using e) c))
theorem jEv.ic_gt (hf : jfI mi pc (.if_icmp .gt off) 3 [] = true) (ht : jtgt pc off = t) (H : (if b < a then A else B) = some out) (kt : b < a → A = some out → jEv xs d (mi, t, ls, st) σ y) (kf : ¬ b < a → B = some out → jEv xs d (mi, pc + 3, ls, st) σ y) : jEv xs d (mi, pc, ls, (0, b) :: (0, a) :: st) σ y :=
  jite H (fun c H => jEv.cnd hf ht (fun _ => kt c H) (fun e => absurd c (by simpa [jcnd] using e))) (fun c H => jEv.cnd hf ht (fun e => absurd (by simpa [jcnd] using e) c) (fun _ => kf c H))
theorem jEv.ic_le (hf : jfI mi pc (.if_icmp .le off) 3 [] = true) (ht : jtgt pc off = t) (H : (if b < a then A else B) = some out) (kf : b < a → A = some out → jEv xs d (mi, pc + 3, ls, st) σ y) (kt : ¬ b < a → B = some out → jEv xs d (mi, t, ls, st) σ y) : jEv xs d (mi, pc, ls, (0, b) :: (0, a) :: st) σ y :=
  jite H (fun c H => jEv.cnd hf ht (fun e => absurd c (by simpa [jcnd] using e)) (fun _ => kf c H)) (fun c H => jEv.cnd hf ht (fun _ => kt c H) (fun e => absurd (by simpa [jcnd] using e) c))
theorem jEv.ic_eq (hf : jfI mi pc (.if_icmp .eq off) 3 [] = true) (ht : jtgt pc off = t) (H : (if a = b then A else B) = some out) (kt : a = b → A = some out → jEv xs d (mi, t, ls, st) σ y) (kf : ¬ a = b → B = some out → jEv xs d (mi, pc + 3, ls, st) σ y) : jEv xs d (mi, pc, ls, (0, b) :: (0, a) :: st) σ y :=
  jite H (fun c H => jEv.cnd hf ht (fun _ => kt c H) (fun e => absurd c (by simpa [jcnd] using e))) (fun c H => jEv.cnd hf ht (fun e => absurd (by simpa [jcnd] using e) c) (fun _ => kf c H))
theorem jEv.ic_ne (hf : jfI mi pc (.if_icmp .ne off) 3 [] = true) (ht : jtgt pc off = t) (H : (if a = b then A else B) = some out) (kf : a = b → A = some out → jEv xs d (mi, pc + 3, ls, st) σ y) (kt : ¬ a = b → B = some out → jEv xs d (mi, t, ls, st) σ y) : jEv xs d (mi, pc, ls, (0, b) :: (0, a) :: st) σ y :=
  jite H (fun c H => jEv.cnd hf ht (fun e => absurd c (by simpa [jcnd] using e)) (fun _ => kf c H)) (fun c H => jEv.cnd hf ht (fun _ => kt c H) (fun e => absurd (by simpa [jcnd] using e) c))
theorem jEv.if_lt (hf : jfI mi pc (.ifCond .lt off) 3 [] = true) (ht : jtgt pc off = t) (H : (if a < 0 then A else B) = some out) (kt : a < 0 → A = some out → jEv xs d (mi, t, ls, st) σ y) (kf : ¬ a < 0 → B = some out → jEv xs d (mi, pc + 3, ls, st) σ y) : jEv xs d (mi, pc, ls, (0, a) :: st) σ y :=
  jite H (fun c H => jEv.cnd0 hf ht (fun _ => kt c H) (fun e => absurd c (by simpa [jcnd] using e))) (fun c H => jEv.cnd0 hf ht (fun e => absurd (by simpa [jcnd] using e) c) (fun _ => kf c H))
theorem jEv.if_ge (hf : jfI mi pc (.ifCond .ge off) 3 [] = true) (ht : jtgt pc off = t) (H : (if a < 0 then A else B) = some out) (kf : a < 0 → A = some out → jEv xs d (mi, pc + 3, ls, st) σ y) (kt : ¬ a < 0 → B = some out → jEv xs d (mi, t, ls, st) σ y) : jEv xs d (mi, pc, ls, (0, a) :: st) σ y :=
  jite H (fun c H => jEv.cnd0 hf ht (fun e => absurd c (by simpa [jcnd] using e)) (fun _ => kf c H)) (fun c H => jEv.cnd0 hf ht (fun _ => kt c H) (fun e => absurd (by simpa [jcnd] using e) c))
theorem jEv.if_gt (hf : jfI mi pc (.ifCond .gt off) 3 [] = true) (ht : jtgt pc off = t) (H : (if 0 < a then A else B) = some out) (kt : 0 < a → A = some out → jEv xs d (mi, t, ls, st) σ y) (kf : ¬ 0 < a → B = some out → jEv xs d (mi, pc + 3, ls, st) σ y) : jEv xs d (mi, pc, ls, (0, a) :: st) σ y :=
  jite H (fun c H => jEv.cnd0 hf ht (fun _ => kt c H) (fun e => absurd c (by simpa [jcnd] using e))) (fun c H => jEv.cnd0 hf ht (fun e => absurd (by simpa [jcnd] using e) c) (fun _ => kf c H))
theorem jEv.if_le (hf : jfI mi pc (.ifCond .le off) 3 [] = true) (ht : jtgt pc off = t) (H : (if 0 < a then A else B) = some out) (kf : 0 < a → A = some out → jEv xs d (mi, pc + 3, ls, st) σ y) (kt : ¬ 0 < a → B = some out → jEv xs d (mi, t, ls, st) σ y) : jEv xs d (mi, pc, ls, (0, a) :: st) σ y :=
  jite H (fun c H => jEv.cnd0 hf ht (fun e => absurd c (by simpa [jcnd] using e)) (fun _ => kf c H)) (fun c H => jEv.cnd0 hf ht (fun _ => kt c H) (fun e => absurd (by simpa [jcnd] using e) c))
theorem jEv.if_eq (hf : jfI mi pc (.ifCond .eq off) 3 [] = true) (ht : jtgt pc off = t) (H : (if a = 0 then A else B) = some out) (kt : a = 0 → A = some out → jEv xs d (mi, t, ls, st) σ y) (kf : ¬ a = 0 → B = some out → jEv xs d (mi, pc + 3, ls, st) σ y) : jEv xs d (mi, pc, ls, (0, a) :: st) σ y :=
  jite H (fun c H => jEv.cnd0 hf ht (fun _ => kt c H) (fun e => absurd c (by simpa [jcnd] using e))) (fun c H => jEv.cnd0 hf ht (fun e => absurd (by simpa [jcnd] using e) c) (fun _ => kf c H))
theorem jEv.if_ne (hf : jfI mi pc (.ifCond .ne off) 3 [] = true) (ht : jtgt pc off = t) (H : (if a = 0 then A else B) = some out) (kf : a = 0 → A = some out → jEv xs d (mi, pc + 3, ls, st) σ y) (kt : ¬ a = 0 → B = some out → jEv xs d (mi, t, ls, st) σ y) : jEv xs d (mi, pc, ls, (0, a) :: st) σ y :=
  jite H (fun c H => jEv.cnd0 hf ht (fun e => absurd c (by simpa [jcnd] using e)) (fun _ => kf c H)) (fun c H => jEv.cnd0 hf ht (fun _ => kt c H) (fun e => absurd (by simpa [jcnd] using e) c))
end JEV
