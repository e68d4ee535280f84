/-! the machine of numbers: values are (tag, number): 0 int, 1 long, 2 a reference (the place of an object; 0 null), 3 nothing, 4 a known thing outside, 5 null. The terrain: objects by place (kind, size), and what final references hold. -/
abbrev jV : Type := Nat × Int
abbrev jT : Type := List (Nat × Nat) × (Nat → Nat → Nat)
abbrev jH : Type := Nat → Nat → Int
abbrev jS : Type := jT × jH
abbrev jF : Type := Nat × Nat × List jV × List jV
def jup (h : jH) (o k : Nat) (v : Int) : jH := fun o' => if o' = o then (fun k' => if k' = k then v else h o k') else h o'
def jupR (R : Nat → Nat → Nat) (o k v : Nat) : Nat → Nat → Nat := fun o' => if o' = o then (fun k' => if k' = k then v else R o k') else R o'
def wr (x : Int) : Int := (Int32.ofInt x).toInt
def wl (x : Int) : Int := (Int64.ofInt x).toInt
def jshl (a b : Int) : Int := (Int32.ofInt a <<< (Int32.ofInt b &&& 31)).toInt
def jshr (a b : Int) : Int := (Int32.ofInt a >>> (Int32.ofInt b &&& 31)).toInt
def jand (a b : Int) : Int := (Int32.ofInt a &&& Int32.ofInt b).toInt
def jor (a b : Int) : Int := (Int32.ofInt a ||| Int32.ofInt b).toInt
def jxor (a b : Int) : Int := (Int32.ofInt a ^^^ Int32.ofInt b).toInt
def jlan (a b : Int) : Int := (Int64.ofInt a &&& Int64.ofInt b).toInt
def jcmp (a b : Int) : Int := if a < b then -1 else if a = b then 0 else 1
def jget : List jV → Nat → Option jV
  | [], _ => none
  | v :: _, 0 => some v
  | _ :: r, n + 1 => jget r n
def jset : List jV → Nat → jV → List jV
  | [], _, _ => []
  | _ :: r, 0, v => v :: r
  | a :: r, n + 1, v => a :: jset r n v
/-- a long just ahead is broken -/
def jclr (ls : List jV) (i : Nat) : List jV := match i with
  | 0 => ls
  | i + 1 => match jget ls i with
    | some (1, _) => jset ls i (3, 0)
    | _ => ls
def jst1 (ls : List jV) (i : Nat) (v : jV) : Option (List jV) := match jget ls i with
  | none => none
  | some _ => some (jset (jclr ls i) i v)
def jst2 (ls : List jV) (i : Nat) (v : jV) : Option (List jV) := match jget ls (i + 1) with
  | none => none
  | some _ => some (jset (jset (jclr ls i) i v) (i + 1) (3, 0))
def jldI (ls st : List jV) (k : Nat) : Option (List jV × List jV) := match jget ls k with
  | some (0, x) => some (ls, (0, x) :: st)
  | _ => none
def jldL (ls st : List jV) (k : Nat) : Option (List jV × List jV) := match jget ls k with
  | some (1, x) => some (ls, (1, x) :: st)
  | _ => none
def jldA (ls st : List jV) (k : Nat) : Option (List jV × List jV) := match jget ls k with
  | some (2, x) => some (ls, (2, x) :: st)
  | some (4, x) => some (ls, (4, x) :: st)
  | some (5, x) => some (ls, (5, x) :: st)
  | _ => none
def jsvI (ls st : List jV) (k : Nat) : Option (List jV × List jV) := match st with
  | (0, x) :: r => match jst1 ls k (0, x) with
    | some ls' => some (ls', r)
    | none => none
  | _ => none
def jsvA (ls st : List jV) (k : Nat) : Option (List jV × List jV) := match st with
  | (2, x) :: r => match jst1 ls k (2, x) with
    | some ls' => some (ls', r)
    | none => none
  | (5, x) :: r => match jst1 ls k (5, x) with
    | some ls' => some (ls', r)
    | none => none
  | _ => none
def jsvL (ls st : List jV) (k : Nat) : Option (List jV × List jV) := match st with
  | (1, x) :: r => match jst2 ls k (1, x) with
    | some ls' => some (ls', r)
    | none => none
  | _ => none
def jbin (f : Int → Int → Int) (ls st : List jV) : Option (List jV × List jV) := match st with
  | (0, b) :: (0, a) :: r => some (ls, (0, f a b) :: r)
  | _ => none
def jbinL (f : Int → Int → Int) (ls st : List jV) : Option (List jV × List jV) := match st with
  | (1, b) :: (1, a) :: r => some (ls, (1, f a b) :: r)
  | _ => none
def jldc (info : List Nat) (ls st : List jV) : Option (List jV × List jV) := match info with
  | [0, 0, m, _] => some (ls, (0, (m : Int)) :: st)
  | [0, 1, m, _] => some (ls, (0, -(m : Int)) :: st)
  | [4, k, _, _] => some (ls, (4, (k : Int)) :: st)
  | _ => none
def jiinc (ls st : List jV) (k : Nat) (n : Int) : Option (List jV × List jV) := match jget ls k with
  | some (0, x) => match jst1 ls k (0, wr (x + n)) with
    | some ls' => some (ls', st)
    | none => none
  | _ => none
/-- what changes locals and stack alone -/
def jst (i : jI) (info : List Nat) (ls st : List jV) : Option (List jV × List jV) := match i with
  | .iconst n => some (ls, (0, n) :: st)
  | .aconst_null => some (ls, (5, 0) :: st)
  | .bipush n => some (ls, (0, n) :: st)
  | .sipush n => some (ls, (0, n) :: st)
  | .lconst n => some (ls, (1, ((n.val : Nat) : Int)) :: st)
  | .ldc _ => jldc info ls st
  | .ldc_w _ => jldc info ls st
  | .ldc2_w _ => match info with
    | [1, 0, m, _] => some (ls, (1, (m : Int)) :: st)
    | [1, 1, m, _] => some (ls, (1, -(m : Int)) :: st)
    | _ => none
  | .iload k => jldI ls st k
  | .iload_n k => jldI ls st k.val
  | .lload k => jldL ls st k
  | .lload_n k => jldL ls st k.val
  | .aload k => jldA ls st k
  | .aload_n k => jldA ls st k.val
  | .istore k => jsvI ls st k
  | .istore_n k => jsvI ls st k.val
  | .lstore k => jsvL ls st k
  | .lstore_n k => jsvL ls st k.val
  | .astore k => jsvA ls st k
  | .astore_n k => jsvA ls st k.val
  | .iinc k n => jiinc ls st k n
  | .iadd => jbin (fun a b => wr (a + b)) ls st
  | .isub => jbin (fun a b => wr (a - b)) ls st
  | .imul => jbin (fun a b => wr (a * b)) ls st
  | .iand => jbin jand ls st
  | .ior => jbin jor ls st
  | .ixor => jbin jxor ls st
  | .ishl => jbin jshl ls st
  | .ishr => jbin jshr ls st
  | .ladd => jbinL (fun a b => wl (a + b)) ls st
  | .lsub => jbinL (fun a b => wl (a - b)) ls st
  | .lmul => jbinL (fun a b => wl (a * b)) ls st
  | .land => jbinL jlan ls st
  | .lcmp => match st with
    | (1, b) :: (1, a) :: r => some (ls, (0, jcmp a b) :: r)
    | _ => none
  | .i2l => match st with
    | (0, a) :: r => some (ls, (1, a) :: r)
    | _ => none
  | .l2i => match st with
    | (1, a) :: r => some (ls, (0, wr a) :: r)
    | _ => none
  | .i2c => match st with
    | (0, a) :: r => some (ls, (0, a % 65536) :: r)
    | _ => none
  | .dup => match st with
    | (0, a) :: r => some (ls, (0, a) :: (0, a) :: r)
    | (2, a) :: r => some (ls, (2, a) :: (2, a) :: r)
    | _ => none
  | .pop => match st with
    | (0, _) :: r => some (ls, r)
    | _ => none
  | .dup2 => match st with
    | (1, a) :: r => some (ls, (1, a) :: (1, a) :: r)
    | (0, a) :: (2, b) :: r => some (ls, (0, a) :: (2, b) :: (0, a) :: (2, b) :: r)
    | _ => none
  | _ => none
def jcnd (c : Jvm.ClassFile.Cond) (a b : Int) : Bool := match c with
  | .eq => decide (a = b)
  | .ne => !decide (a = b)
  | .lt => decide (a < b)
  | .ge => !decide (a < b)
  | .gt => decide (b < a)
  | .le => !decide (b < a)
def jext (xs : List Int) (x : Int) : Option (Nat × List Int) :=
  if x = 0 then some (20, [10001, 3, 30003, 10003, 4, 30003, 30000])
  else if x = 1 then some (20, [1, 10002, 16, 30008, 30005])
  else if x = 2 then some (20, xs)
  else if 50 ≤ x then (jStr[(x - 50).toNat]?).map (fun l => (25, l)) else none
def jcls (T : jT) (o c : Nat) : Bool := match T.1[o]? with
  | some (c', _) => c' == c
  | none => false
def jpop : Nat → List jV → Option (List jV × List jV)
  | 0, st => some ([], st)
  | _ + 1, [] => none
  | n + 1, v :: st => match jpop n st with
    | some (a, r) => some (a ++ [v], r)
    | none => none
def jcat (v : jV) : Nat := if v.1 = 1 then 2 else 1
def jrm (st : List jV) : Nat := (st.map jcat).sum
def jpush (r : jV) (st : List jV) : List jV := match r with
  | (3, _) => st
  | v => v :: st
def jexp : List jV → List jV
  | [] => []
  | (1, x) :: r => (1, x) :: (3, 0) :: jexp r
  | v :: r => v :: jexp r
def jpad : Nat → List jV → List jV
  | 0, _ => []
  | n + 1, [] => (3, 0) :: jpad n []
  | n + 1, v :: r => v :: jpad n r
def jent (mi : Nat) (args : List jV) : jF := (mi, 0, jpad (jmi mi).2.2.1 (jexp args), [])
def jfet (mi pc : Nat) : Option (jI × Nat × List Nat) := match (jTab mi).find? (fun r => r.1 == pc) with
  | some r => some r.2
  | none => none
/-- a step: on, an end, a call (whom, with what, where one goes on) -/
abbrev jX : Type := (jF × jS) ⊕ ((jV × jS) ⊕ (Nat × List jV × jF))
def jon (mi pc : Nat) (ls st : List jV) (σ : jS) : Option jX := some (.inl ((mi, pc, ls, st), σ))
def jtgt (pc : Nat) (off : Int) : Nat := ((pc : Int) + off).toNat
def jinb (i : Int) (n : Nat) : Bool := decide (0 ≤ i) && decide (i.toNat < n)
def jld (kind t : Nat) (xs : List Int) (mi pc : Nat) (ls st : List jV) (σ : jS) : Option jX := match st with
  | (0, i) :: (2, o) :: r => match σ.1.1[o.toNat]? with
    | some (k, n) => if k = kind ∧ jinb i n = true then jon mi (pc + 1) ls ((t, σ.2 o.toNat i.toNat) :: r) σ else none
    | none => none
  | (0, i) :: (4, x) :: r => match jext xs x with
    | some (k, l) => if k = kind ∧ jinb i l.length = true then jon mi (pc + 1) ls ((0, l.getD i.toNat 0) :: r) σ else none
    | none => none
  | _ => none
/-- which numbers a slot of that kind takes -/
def jfit (kind : Nat) (x : Int) : Bool := match kind with
  | 22 => decide (x = 0) || decide (x = 1)
  | 23 => decide (0 ≤ x) && decide (x < 65536)
  | _ => true
def jsv (kind t : Nat) (mi pc : Nat) (ls st : List jV) (σ : jS) : Option jX := match st with
  | (t', v) :: (0, i) :: (2, o) :: r => match σ.1.1[o.toNat]? with
    | some (k, n) => if t' = t ∧ k = kind ∧ jinb i n = true ∧ jfit kind v = true then jon mi (pc + 1) ls r (σ.1, jup σ.2 o.toNat i.toNat v) else none
    | none => none
  | _ => none
def jgf (info : List Nat) (mi pc : Nat) (ls st : List jV) (σ : jS) : Option jX := match info, st with
  | [c, k, t, _, _], (2, o) :: r => if jcls σ.1 o.toNat c = true ∧ c < 13 then (match t with
    | 0 => jon mi (pc + 3) ls ((0, σ.2 o.toNat k) :: r) σ
    | 2 => jon mi (pc + 3) ls ((2, σ.2 o.toNat k) :: r) σ
    | 1 => jon mi (pc + 3) ls ((1, σ.2 o.toNat k) :: r) σ
    | _ => jon mi (pc + 3) ls ((2, Int.ofNat (σ.1.2 o.toNat k)) :: r) σ) else none
  | [50, k, _, _, _], (4, x) :: r => if 10 ≤ x ∧ x < 40 then (match k with
    | 0 => jon mi (pc + 3) ls ((4, x + 40) :: r) σ
    | _ => jon mi (pc + 3) ls ((0, 0) :: r) σ) else none
  | _, _ => none
def jpf (info : List Nat) (mi pc : Nat) (ls st : List jV) (σ : jS) : Option jX := match info, st with
  | [c, k, t, b, _], (tv, v) :: (2, o) :: r => if jcls σ.1 o.toNat c = true ∧ c < 13 then (match t with
    | 0 => if tv = 0 ∧ (b = 0 ∨ jfit 22 v = true) then jon mi (pc + 3) ls r (σ.1, jup σ.2 o.toNat k v) else none
    | 1 => if tv = 1 then jon mi (pc + 3) ls r (σ.1, jup σ.2 o.toNat k v) else none
    | 2 => if tv = 2 then jon mi (pc + 3) ls r (σ.1, jup σ.2 o.toNat k v) else none
    | _ => if tv = 2 then jon mi (pc + 3) ls r ((σ.1.1, jupR σ.1.2 o.toNat k v.toNat), σ.2) else none) else none
  | _, _ => none
def jnew (k n : Nat) (mi pc len : Nat) (ls st : List jV) (σ : jS) : Option jX :=
  jon mi (pc + len) ls ((2, Int.ofNat σ.1.1.length) :: st) ((σ.1.1 ++ [(k, n)], σ.1.2), σ.2)
def jcpy (h : jH) (s d : Nat) (sp dp n : Nat) : jH := fun o => if o = d then (fun k => if dp ≤ k ∧ k < dp + n then h s (sp + (k - dp)) else h d k) else h o
def jrcv (T : jT) (kd ci : Nat) (args : List jV) : Bool := if kd = 3 ∨ kd = 4 then true else match args with
  | (2, o) :: _ => jcls T o.toNat ci && decide (ci < 13)
  | (4, z) :: _ => (decide (kd = 1) || decide (kd = 2)) && decide (ci = 50) && decide (10 ≤ z) && decide (z < 40)
  | _ => false
def jnat7 (mi pc : Nat) (ls st : List jV) (σ : jS) : Option jX := match st with
  | (2, o) :: r => match σ.1.1[o.toNat]? with
    | some (k, _) => if k < 13 ∧ jrm r ≤ 8 then jon mi (pc + 3) ls r σ else none
    | none => none
  | _ => none
def jnat10 (mi pc : Nat) (ls st : List jV) (σ : jS) : Option jX := match st with
  | (0, n) :: (0, dp) :: (2, d) :: (0, sp) :: (2, s) :: r => match σ.1.1[s.toNat]?, σ.1.1[d.toNat]? with
    | some (ks, ns), some (kd, nd) => if ks = 20 ∧ kd = 20 ∧ 0 ≤ n ∧ 0 ≤ dp ∧ 0 ≤ sp ∧ sp.toNat + n.toNat ≤ ns ∧ dp.toNat + n.toNat ≤ nd ∧ jrm r ≤ 8 then jon mi (pc + 3) ls r (σ.1, jcpy σ.2 s.toNat d.toNat sp.toNat dp.toNat n.toNat) else none
    | _, _ => none
  | _ => none
def jcall (kd mi' na mi pc : Nat) (ls st : List jV) (σ : jS) : Option jX := match jpop (if kd = 3 ∨ kd = 4 then na else na + 1) st with
  | none => none
  | some (args, r) => if jrm r ≤ 8 ∧ jrcv σ.1 kd ((jmi mi').2.2.2.2.2.1.getD 4 99) args = true then some (.inr (.inr (mi', args, (mi, pc + 3, ls, r)))) else none
def jinv (info : List Nat) (mi pc : Nat) (ls st : List jV) (σ : jS) : Option jX := match info with
  | [kd, mi', na, _] => if kd = 7 then jnat7 mi pc ls st σ else if kd = 10 then jnat10 mi pc ls st σ else jcall kd mi' na mi pc ls st σ
  | _ => none
def jn0 (xs : List Int) (f : jF) (σ : jS) : Option jX := match f with
  | (mi, pc, ls, st) => match jfet mi pc with
    | none => none
    | some (i, n, info) => match jst i info ls st with
      | some (ls', st') => jon mi (pc + n) ls' st' σ
      | none => match i with
        | .getfield _ => jgf info mi pc ls st σ
        | .putfield _ => jpf info mi pc ls st σ
        | .iaload => jld 20 0 xs mi pc ls st σ
        | .laload => jld 21 1 xs mi pc ls st σ
        | .caload => jld 23 0 xs mi pc ls st σ
        | .baload => match st with
          | (0, _) :: (2, _) :: _ => jld 22 0 xs mi pc ls st σ
          | _ => jld 25 0 xs mi pc ls st σ
        | .aaload => match st with
          | (0, i) :: (2, o) :: r => match σ.1.1[o.toNat]? with
            | some (k, n) => if k = 24 ∧ jinb i n = true then jon mi (pc + 1) ls ((2, Int.ofNat (σ.1.2 o.toNat i.toNat)) :: r) σ else none
            | none => none
          | _ => none
        | .iastore => jsv 20 0 mi pc ls st σ
        | .lastore => jsv 21 1 mi pc ls st σ
        | .castore => jsv 23 0 mi pc ls st σ
        | .bastore => jsv 22 0 mi pc ls st σ
        | .aastore => match st with
          | (2, v) :: (0, i) :: (2, o) :: r => match σ.1.1[o.toNat]? with
            | some (k, n) => if k = 24 ∧ jinb i n = true ∧ jcls σ.1 v.toNat 9 = true then jon mi (pc + 1) ls r ((σ.1.1, jupR σ.1.2 o.toNat i.toNat v.toNat), σ.2) else none
            | none => none
          | _ => none
        | .arraylength => match st with
          | (2, o) :: r => match σ.1.1[o.toNat]? with
            | some (k, n) => if 20 ≤ k ∧ k < 25 then jon mi (pc + 1) ls ((0, (n : Int)) :: r) σ else none
            | none => none
          | (4, x) :: r => match jext xs x with
            | some (_, l) => jon mi (pc + 1) ls ((0, (l.length : Int)) :: r) σ
            | none => none
          | _ => none
        | .getstatic _ => match info with
          | [7, _, _] => jon mi (pc + 3) ls ((0, 1) :: st) σ
          | [k, _, _] => if k < 4 then jon mi (pc + 3) ls ((4, (k : Int)) :: st) σ else none
          | _ => none
        | .new _ => match info with
          | [c, _] => if c < 13 then jnew c ((jFt.getD c []).length) mi pc 3 ls st σ else none
          | _ => none
        | .newarray _ => match info, st with
          | [k], (0, n) :: r => if 0 ≤ n ∧ n ≤ 100000 then jnew k n.toNat mi pc 2 ls r σ else none
          | _, _ => none
        | .anewarray _ => match info, st with
          | [k, _], (0, n) :: r => if 0 ≤ n ∧ n ≤ 100000 ∧ k = 24 then jnew k n.toNat mi pc 3 ls r σ else none
          | _, _ => none
        | .idiv => match st with
          | (0, b) :: (0, a) :: r => if b = 0 then none else jon mi (pc + 1) ls ((0, wr (a.tdiv b)) :: r) σ
          | _ => none
        | .irem => match st with
          | (0, b) :: (0, a) :: r => if b = 0 then none else jon mi (pc + 1) ls ((0, a.tmod b) :: r) σ
          | _ => none
        | .ldiv => match st with
          | (1, b) :: (1, a) :: r => if b = 0 then none else jon mi (pc + 1) ls ((1, wl (a.tdiv b)) :: r) σ
          | _ => none
        | .lrem => match st with
          | (1, b) :: (1, a) :: r => if b = 0 then none else jon mi (pc + 1) ls ((1, a.tmod b) :: r) σ
          | _ => none
        | .goto off => jon mi (jtgt pc off) ls st σ
        | .ifCond c off => match st with
          | (0, a) :: r => jon mi (if jcnd c a 0 = true then jtgt pc off else pc + 3) ls r σ
          | _ => none
        | .if_icmp c off => match st with
          | (0, b) :: (0, a) :: r => jon mi (if jcnd c a b = true then jtgt pc off else pc + 3) ls r σ
          | _ => none
        | .ifnull off => match st with
          | (5, _) :: r => jon mi (jtgt pc off) ls r σ
          | (2, v) :: r => match σ.1.1[v.toNat]? with
            | some (k, _) => if k < 13 then jon mi (pc + 3) ls r σ else none
            | none => none
          | _ => none
        | .tableswitch dflt lo hi offs => match st with
          | (0, a) :: r => if a < lo ∨ hi < a then (if 0 ≤ (pc : Int) + dflt then jon mi (jtgt pc dflt) ls r σ else none) else match offs[(a - lo).toNat]? with
            | some off => if 0 ≤ (pc : Int) + off then jon mi (jtgt pc off) ls r σ else none
            | none => none
          | _ => none
        | .lookupswitch dflt ps => match st with
          | (0, a) :: r => if 0 ≤ (pc : Int) + Op.lookupswitch.offset ps.toList dflt a then jon mi (jtgt pc (Op.lookupswitch.offset ps.toList dflt a)) ls r σ else none
          | _ => none
        | .invokevirtual _ => jinv info mi pc ls st σ
        | .invokestatic _ => jinv info mi pc ls st σ
        | .invokespecial _ => jinv info mi pc ls st σ
        | .ireturn => match st with
          | [(0, v)] => (match (jmi mi).2.2.2.1 with
            | 0 => some (.inr (.inl ((0, v), σ)))
            | 5 => if jfit 22 v = true then some (.inr (.inl ((0, v), σ))) else none
            | 6 => if jfit 23 v = true then some (.inr (.inl ((0, v), σ))) else none
            | 7 => if -128 ≤ v ∧ v < 128 then some (.inr (.inl ((0, v), σ))) else none
            | _ => none)
          | _ => none
        | .lreturn => match st with
          | [(1, v)] => if (jmi mi).2.2.2.1 = 1 then some (.inr (.inl ((1, v), σ))) else none
          | _ => none
        | .areturn => match st with
          | [(2, v)] => if (jmi mi).2.2.2.1 = 9 then some (.inr (.inl ((2, v), σ))) else none
          | [(5, v)] => if (jmi mi).2.2.2.1 = 9 then some (.inr (.inl ((5, v), σ))) else none
          | _ => none
        | .return_ => match st with
          | [] => if (jmi mi).2.2.2.1 = 3 then some (.inr (.inl ((3, 0), σ))) else none
          | _ => none
        | _ => none
abbrev jC : Type := Nat → List jV → jS → Option (jV × jS)
def jxN (xs : List Int) (call : jC) : Nat → jF → jS → Option (jV × jS)
  | 0, _, _ => none
  | n + 1, f, σ => match jn0 xs f σ with
    | none => none
    | some (.inl (f', σ')) => jxN xs call n f' σ'
    | some (.inr (.inl r)) => some r
    | some (.inr (.inr (mi, args, (m2, pc, ls, st)))) => match call mi args σ with
      | none => none
      | some (r, σ') => jxN xs call n (m2, pc, ls, jpush r st) σ'
def jrun (xs : List Int) : Nat → Nat → jC
  | 0, _ => fun _ _ _ => none
  | d + 1, k => fun mi args σ => if (jexp args).length ≤ (jmi mi).2.2.1 then jxN xs (jrun xs d k) k (jent mi args) σ else none
def jle (c1 c2 : jC) : Prop := ∀ mi a σ r, c1 mi a σ = some r → c2 mi a σ = some r
theorem jxN_mono {xs : List Int} {c1 c2 : jC} (h : jle c1 c2) : ∀ (n m : Nat), n ≤ m → ∀ f σ r, jxN xs c1 n f σ = some r → jxN xs c2 m f σ = some r := by
  intro n
  induction n with
  | zero => intro m _ f σ r h1; simp [jxN] at h1
  | succ n ih =>
    intro m hm f σ r h1
    obtain ⟨m, rfl⟩ : ∃ q, m = q + 1 := ⟨m - 1, by omega⟩
    simp only [jxN] at h1 ⊢
    cases hj : jn0 xs f σ with
    | none => rw [hj] at h1; cases h1
    | some z =>
      rw [hj] at h1
      rcases z with ⟨f', σ'⟩ | r' | ⟨mi, args, m2, pc, ls, st⟩
      · exact ih m (by omega) f' σ' r h1
      · exact h1
      · simp only at h1 ⊢
        cases hc : c1 mi args σ with
        | none => rw [hc] at h1; cases h1
        | some q =>
          obtain ⟨q1, q2⟩ := q
          rw [hc] at h1
          rw [h _ _ _ _ hc]
          exact ih m (by omega) _ _ r h1
theorem jrun_mono {xs : List Int} : ∀ (d e n m : Nat), d ≤ e → n ≤ m → jle (jrun xs d n) (jrun xs e m) := by
  intro d
  induction d with
  | zero => intro e n m _ _ mi a σ r h; simp [jrun] at h
  | succ d ih =>
    intro e n m he hm mi a σ r h
    obtain ⟨e, rfl⟩ : ∃ q, e = q + 1 := ⟨e - 1, by omega⟩
    simp only [jrun] at h ⊢
    split at h
    · rename_i hc
      rw [if_pos hc]
      exact jxN_mono (ih e n m (by omega) hm) n m hm _ _ _ h
    · cases h
/-- from this frame on, calls d deep, the method ends so -/
def jEv (xs : List Int) (d : Nat) (f : jF) (σ : jS) (y : jV × jS) : Prop := ∃ k, jxN xs (jrun xs d k) k f σ = some y
/-- the method, called so, ends so -/
def jEm (xs : List Int) (d mi : Nat) (args : List jV) (σ : jS) (y : jV × jS) : Prop := ∃ k, jrun xs d k mi args σ = some y
theorem jEm.mono {xs : List Int} {d e mi : Nat} {args : List jV} {σ : jS} {y : jV × jS} (h : jEm xs d mi args σ y) (he : d ≤ e) : jEm xs e mi args σ y := by
  obtain ⟨k, h⟩ := h
  exact ⟨k, jrun_mono d e k k he (Nat.le_refl k) _ _ _ _ h⟩
theorem jEm.of {xs : List Int} {d mi : Nat} {args : List jV} {σ : jS} {y : jV × jS} (hl : (jexp args).length ≤ (jmi mi).2.2.1) (h : jEv xs d (jent mi args) σ y) : jEm xs (d + 1) mi args σ y := by
  obtain ⟨k, h⟩ := h
  refine ⟨k, ?_⟩
  simp only [jrun]
  rw [if_pos hl]
  exact h
theorem jEv.mono {xs : List Int} {d e : Nat} {f : jF} {σ : jS} {y : jV × jS} (h : jEv xs d f σ y) (he : d ≤ e) : jEv xs e f σ y := by
  obtain ⟨k, h⟩ := h
  exact ⟨k, jxN_mono (jrun_mono d e k k he (Nat.le_refl k)) k k (Nat.le_refl k) _ _ _ h⟩
theorem jEv.on {xs : List Int} {d : Nat} {f f' : jF} {σ σ' : jS} {y : jV × jS} (h : jn0 xs f σ = some (.inl (f', σ'))) (k : jEv xs d f' σ' y) : jEv xs d f σ y := by
  obtain ⟨k, h1⟩ := k
  refine ⟨k + 1, ?_⟩
  simp only [jxN, h]
  exact jxN_mono (jrun_mono d d k (k + 1) (Nat.le_refl d) (Nat.le_succ k)) k k (Nat.le_refl k) _ _ _ h1
theorem jEv.fin {xs : List Int} {d : Nat} {f : jF} {σ : jS} {y : jV × jS} (h : jn0 xs f σ = some (.inr (.inl y))) : jEv xs d f σ y := ⟨1, by simp only [jxN, h]⟩
theorem jEv.cal {xs : List Int} {d mi m2 pc : Nat} {f : jF} {σ σ' : jS} {y : jV × jS} {args ls st : List jV} {r : jV} (h : jn0 xs f σ = some (.inr (.inr (mi, args, (m2, pc, ls, st))))) (hc : jEm xs d mi args σ (r, σ')) (k : jEv xs d (m2, pc, ls, jpush r st) σ' y) : jEv xs d f σ y := by
  obtain ⟨k1, h1⟩ := hc
  obtain ⟨k2, h2⟩ := k
  refine ⟨k1 + k2 + 1, ?_⟩
  simp only [jxN, h]
  rw [jrun_mono d d k1 (k1 + k2 + 1) (Nat.le_refl d) (by omega) _ _ _ _ h1]
  exact jxN_mono (jrun_mono d d k2 (k1 + k2 + 1) (Nat.le_refl d) (by omega)) k2 (k1 + k2) (by omega) _ _ _ h2
