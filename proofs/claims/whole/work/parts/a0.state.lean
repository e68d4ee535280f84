/-! SPEC 7: a state; a tick -/
def spArrD : spFl → (Nat → Nat → Int) → Nat → Nat → Int
  | [], D => D
  | e :: r, D => spArrD r (up2 D e.1 e.2.1 e.2.2)
def spArrC : spFl → (Nat → Nat → Int) → Nat → Nat → Int
  | [], C => C
  | e :: r, C => spArrC r (up2 C e.1 e.2.1 0)
abbrev spA : Type := (Nat → Int) × spWt × spKp × Int
def spAck (tick : Int) : List spRec → Int → spA → spA
  | [], _, x => x
  | r :: l, num, x => spAck tick l (num + 1) (pu x.1 r.1.toNat r.2.1, spRelW num x.2.1, spRelK tick num x.2.1 x.2.2.1, x.2.2.2 + ((x.2.1.length : Int) - ((spRelW num x.2.1).length : Int)))
/-- disk and scars; flight and its ticks; records, how many are on their way, the first's number; waiters, kept; table, snap's table, snap's number, tops; segment, byte, serial, greatest serial, halted, tick -/
abbrev spSt : Type := ((Nat → Nat → Int) × (Nat → Nat → Int)) × (spFl × Int) × (List spRec × Nat × Int) × (spWt × spKp) × ((Nat → Int) × (Nat → Int) × Int × (Nat → Int)) × (Nat × Nat × Int × Int × Bool × Int)
/-- segments, a block's bytes, a segment's bytes, the codes of the two formulas -/
abbrev spPl : Type := Nat × Nat × Nat × List Int × List Int
def spPay1 : List spRec → Int
  | [] => 0
  | r :: l => (spSz r : Int) + spPay1 l
/-- what a group's formula is told -/
def spGe (s : spSt) (n : Nat) : spEnv := ((fun k => if k = 0 then s.2.2.2.2.2.2.2.2.2.2 else if k = 1 then (n : Int) else if k = 2 then spPay1 ((s.2.2.1.1.drop s.2.2.1.2.1).take n) else if k = 3 then s.2.2.2.2.2.2.2.2.2.2 - ((s.2.2.1.1.drop s.2.2.1.2.1).headD (0, 0, 0, 0)).2.2.2 else if k = 4 then (s.2.2.2.1.1.length : Int) else 0), (fun _ => 0), (fun _ => 0))
def spFl1 (s : spSt) : spSt × Int := match s with
  | ((D, C), (F, lf), (q, fl, first), (wt, kp), (tab, stab, snap, tops), (sg, at', ser, gr, hl, tk)) =>
    if F = [] then (((D, C), (F, lf), (q, fl, first), (wt, kp), (tab, stab, snap, tops), (sg, at', ser, gr, hl, tk)), 0)
    else if lf - 1 ≤ 0 then (((spArrD F D, spArrC F C), ([], 0), (q.drop fl, 0, first + (fl : Int)), ((spAck tk (q.take fl) first (tab, wt, kp, 0)).2.1, (spAck tk (q.take fl) first (tab, wt, kp, 0)).2.2.1), ((spAck tk (q.take fl) first (tab, wt, kp, 0)).1, stab, snap, tops), (sg, at', ser, gr, hl, tk)), (spAck tk (q.take fl) first (tab, wt, kp, 0)).2.2.2)
    else (((D, C), (F, lf - 1), (q, fl, first), (wt, kp), (tab, stab, snap, tops), (sg, at', ser, gr, hl, tk)), 0)
def spX0 (s : spSt) : spL := ((s.2.2.2.2.2.1, s.2.2.2.2.2.2.1, s.2.2.2.2.2.2.2.1, s.2.2.2.2.2.2.2.2.1, fun i => decide (i = s.2.2.2.2.2.1)), s.2.1.1, s.2.2.2.2.1.2.2.2)
def spClo (p : spPl) (n : Nat) (s : spSt) : spSt := match spAll p.1 p.2.1 p.2.2.1 s.2.2.2.2.1.2.2.2 s.2.2.2.2.1.2.2.1 (s.2.2.1.1.take n) s.2.2.1.2.2 (spX0 s) with
  | none => s
  | some y => (s.1, (y.2.1, max 1 (min 99 (spTold (spGe s n) p.2.2.2.2))), (s.2.2.1.1, n, s.2.2.1.2.2), s.2.2.2.1, (s.2.2.2.2.1.1, s.2.2.2.2.1.2.1, s.2.2.2.2.1.2.2.1, y.2.2), (y.1.1, y.1.2.1, y.1.2.2.1, y.1.2.2.2.1, s.2.2.2.2.2.2.2.2.2.1, s.2.2.2.2.2.2.2.2.2.2))
def spWtg (s : spSt) : Nat := s.2.2.1.1.length - s.2.2.1.2.1
def spFl2 (p : spPl) (rule : Nat) (s : spSt) : spSt :=
  if s.2.1.1 = [] ∧ 0 < spWtg s ∧ s.2.2.2.2.2.2.2.2.2.1 = false ∧ (0 < rule ∨ spTold (spGe s (spWtg s)) p.2.2.2.1 ≠ 0) then spClo p (if 0 < rule then min rule (spWtg s) else spWtg s) s else s
def spFl3 (s : spSt) : spSt := (s.1, s.2.1, s.2.2.1, s.2.2.2.1, s.2.2.2.2.1, (s.2.2.2.2.2.1, s.2.2.2.2.2.2.1, s.2.2.2.2.2.2.2.1, s.2.2.2.2.2.2.2.2.1, s.2.2.2.2.2.2.2.2.2.1, s.2.2.2.2.2.2.2.2.2.2 + 1))
def spTick (p : spPl) (rule : Nat) (s : spSt) : spSt × Int := (spFl3 (spFl2 p rule (spFl1 s).1), (spFl1 s).2)
/-- the class's state of an object -/
def CS (h : jH) (o ns blk len n : Nat) : spSt → Prop
  | ((D, C), (F, lf), (q, fl, first), (wt, kp), (tab, stab, snap, tops), (sg, at', ser, gr, hl, tk)) =>
    CD h (o + 1) ns blk len D C ∧ (CF h (o + 4) len F ∧ h (o + 4) 3 = lf) ∧ CQ h (o + 7) q fl first ∧ (CW h (o + 12) wt ∧ CKn h (o + 12) kp n) ∧ ((∀ i, i < 16 → h (o + 18) i = tab i) ∧ (∀ i, i < 16 → h (o + 19) i = stab i) ∧ h o 7 = snap ∧ ∀ i, i < 4 → h (o + 20) i = tops i) ∧ h o 10 = (sg : Int) ∧ h o 11 = (at' : Int) ∧ h o 12 = ser ∧ h o 13 = gr ∧ h o 14 = (if hl = true then 1 else 0) ∧ h o 9 = tk
/-- the reference's state -/
def MS (h : jH) (o ns blk len : Nat) (kpm : spKp) : spSt → Prop
  | ((D, C), (F, lf), (q, fl, first), (wt, _), (tab, stab, snap, tops), (sg, at', ser, gr, hl, tk)) =>
    MD h o ns blk len D C ∧ (MF (h (o + 33)) F ∧ h (o + 33) 3 = lf) ∧ MQu (h (o + 33)) q fl first ∧ (h (o + 33) 12 = (wt.length : Int) ∧ MWr (h (o + 33)) 0 wt ∧ ∀ x : Nat, x < 8 → h (o + 33) (184 + x) = spAw wt (x : Int)) ∧ MKp (h (o + 33)) kpm ∧ ((∀ i, i < 16 → h (o + 33) (144 + i) = tab i) ∧ (∀ i, i < 16 → h (o + 33) (160 + i) = stab i) ∧ h (o + 33) 9 = snap ∧ ∀ i, i < 4 → h (o + 33) (192 + i) = tops i) ∧ h (o + 33) 5 = (sg : Int) ∧ h (o + 33) 6 = (at' : Int) ∧ h (o + 33) 7 = ser ∧ h (o + 33) 8 = gr ∧ h (o + 33) 10 = (if hl = true then 1 else 0) ∧ h (o + 33) 0 = tk ∧ h (o + 33) 13 = 0
/-- what holds of a state at all times; b bounds the numbers -/
def spInv (ns blk len : Nat) (b : Int) : spSt → Prop
  | ((D, C), (F, lf), (q, fl, first), (wt, kp), (tab, stab, snap, tops), (sg, at', ser, gr, _, tk)) =>
    (spDim ns blk len ∧ spByD ns len D ∧ ∀ s k, s < ns → k < len → 0 ≤ C s k ∧ C s k ≤ 1) ∧
    ((∀ e ∈ F, e.1 < ns ∧ e.2.1 < len ∧ 0 ≤ e.2.2 ∧ e.2.2 < 256 ∧ first ≤ tops e.1) ∧ (F ≠ [] → 1 ≤ lf ∧ lf ≤ 99) ∧ (F = [] → fl = 0)) ∧
    ((∀ r ∈ q, spRok r ∧ 0 ≤ r.2.2.2 ∧ r.2.2.2 ≤ 999) ∧ fl ≤ q.length ∧ fl ≤ 16 ∧ q.length ≤ fl + 16 ∧ 0 ≤ snap ∧ snap ≤ first ∧ first + (q.length : Int) ≤ b ∧ b ≤ 700000) ∧
    (wt.length ≤ 8 ∧ spWhos wt ∧ kp.length ≤ 40) ∧
    ((∀ i, i < 16 → -1 ≤ tab i ∧ tab i < 1000) ∧ ∀ i, i < 16 → -1 ≤ stab i ∧ stab i < 1000) ∧
    (sg < ns ∧ at' ≤ len ∧ jI32 ser ∧ jI32 gr ∧ 0 ≤ tk ∧ tk ≤ 999) ∧
    ∃ u : Nat → Nat, (∀ i, u i ≤ len) ∧ u sg ≤ at' ∧ F.length ≤ u 0 + u 1 + u 2 + u 3 ∧ ∀ i, u i ≠ 0 → ∃ e ∈ F, e.1 = i
