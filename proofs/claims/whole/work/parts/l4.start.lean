/-! THE CLAIM OUT OF ONE WALK OF THE LAW'S BODY. Your part is whole_start (and what it stands on); all else here is the same for every law, but numbers. -/
def R_law : String := "GroupJournalLaw"
def lw_P (b : Addr) (xs : List Int32) (args : Array Value) (s : State) : Prop := args = #[.ref b] ∧ s.IntsAt b xs ∧ xs.length ≤ 3072 ∧ (Jvm.Cond.and given_1 narrow_1).before args s = true
def lw_Q (_ : Array Value) (s : State) (o : Outcome) (t : State) : Prop := o = .returned (some (.int 1)) ∧ Framed s o t [] 600000 7302250
def lw_Z (below : List Frame) (a : Array Value) (s : State) : State → Prop := fun t => ∃ o, t.status = .running ∧ Ended t below o ∧ lw_Q a s o t
/-- the law's own end, with 1 on the stack, nothing written that was there before, its room as the claim has it -/
theorem lw_ret {p : Program} {l : Launch} {e : Env} {s : State} {m : MethodId} {below : List Frame} {meth : Method} {c : Code} {b : Nat} (hx : p.tables.exec = Jvm.exec) (hb : c.code = code) (hr : meth.sig.returnType = ret) (hlocks : meth.locks = false) {pc : Nat} {H : Heap} {ls : Array Slot} (hdg : decode code pc = .ok (.ireturn, 1)) : W p l e room_1 s m #[Value.ref b] below meth c H [] 600000 7302250 (lw_Z below #[Value.ref b] s) (F0 m pc ls [.int 1]) := by
  intro T hT X
  obtain ⟨fs, hret, hrun, hended, hW, hframe⟩ := X.leave (v := some (.int 1)) (hlocks := hlocks) (fun h => by rw [hr] at h; cases h)
  have hmeth' : T.vm.method? m = some meth := X.method'
  refine ⟨T.setFrames fs, ?_, .returned (some (.int 1)), hrun, hended, rfl, ⟨_, rfl⟩, hW, hframe⟩
  jvm_step X.here [X.here.top, hx, hb, hdg, hmeth', hr, ret, narrow_b1]
  (try refine ⟨rfl, ?_⟩); (try refine ⟨rfl, ?_⟩)
  first | (intro acts; rw [hret _ acts rfl rfl rfl]) | rw [hret _ _ rfl rfl rfl]
  exact Steps.refl _
/-- what holds at the law's entry: the machine, the code, the tables' words (any of lw_tbl by 'hts w (by decide +kernel)'), the script of L ints xs at the cell b, what the Statement gives of the start (any of its parts by flat_of_before) -/
def lw_At (p : Program) (s : State) (m : MethodId) (meth : Method) (c : Code) (b L : Nat) (xs : Nat → Int32) : Prop :=
  p.tables.exec = Jvm.exec ∧ c.code = code ∧ meth.sig.returnType = ret ∧ c.maxLocals = 4 ∧ s.vm.findClass R_law = some m.cls ∧ (∀ w ∈ lw_tbl, w.before #[Value.ref b] s = true) ∧ va_X b L xs s s.heap ∧ b < s.heap.size ∧ meth.locks = false ∧ (Jvm.Cond.and given_1 narrow_1).before #[Value.ref b] s = true
/-! the law from its entry to its end -/
theorem jmi_0 : jmi 0 = (x, code, 4, 5, [2], [0, 0, 0, 0, 90], 1) := rfl
set_option maxRecDepth 100000 in
theorem w_room : jL.length - 1 ≤ 600000 ∧ jtot jL - 0 ≤ 7302250 := by decide +kernel
theorem w_jok : jOk ([(99, 0)], fun _ _ => 0) (fun _ _ => 0) := by
  refine ⟨rfl, fun o t ho h => ?_, fun o t k h => ?_, fun o _ k => ⟨rfl, rfl⟩⟩
  · match o, ho, h with
    | n + 1, _, h => cases h
  · match o, h with
    | 0, h =>
      cases h
      exact (show (-2147483648 : Int) ≤ 0 ∧ (0 : Int) < 2147483648 from by decide)
    | n + 1, h => cases h
section LWST
variable {p : Program} {e : Env} {s : State} {m : MethodId} {below : List Frame} {meth : Method} {c : Code} {l : Launch} {b L : Nat} {xs : Nat → Int32} {D : va_G} {cs : Nat → ClassId} {xv : Nat → Value} {ad0 : Nat → Nat} {h2 : jH}
theorem w_end (hx : p.tables.exec = Jvm.exec) (hb : c.code = code) (hr : meth.sig.returnType = ret) (hlocks : meth.locks = false) (pc : Nat) (ls st : List jV) (hj : jn0 (wxl L xs) (0, pc, ls, st) ((jL, jR), h2) = some (.inr (.inl ((0, 1), ((jL, jR), h2))))) : jGo p l e room_1 s m #[Value.ref b] below meth c (lw_Z below #[Value.ref b] s) D cs xv (fun q => s.heap.size ≤ q) 0 1 0 ad0 (0, pc, ls, st) ((jL, jR), h2) := by
  intro ad arr H locs had hL0 ht0 hrel
  obtain ⟨hl1, hlen, hw, htg, hs, hO, hP, hD, hS⟩ := hrel
  dsimp only at hl1 hlen hw htg hs hO hP hD hS hL0 ht0 hj ⊢
  unfold jn0 at hj
  dsimp only at hj
  split at hj
  · cases hj
  · rename_i i n info hf
    obtain ⟨hd, hn, -, hl⟩ := jfet_ok hf
    have hn' : jswi i = false → n = jlen i := fun h => by
      rcases hn with hn | hn
      · rw [h] at hn; cases hn
      · exact hn
    split at hj
    · cases hj
    · cases i with
      | ireturn =>
        cases (hn' rfl)
        dsimp only at hj
        split at hj
        · rename_i v hst
          rw [jmi_0] at hj hd
          have hj : (if jfit 22 v = true then some (Sum.inr (Sum.inl ((0, v), ((jL, jR), h2)))) else none : Option jX) = some (.inr (.inl ((0, 1), ((jL, jR), h2)))) := hj
          dsimp only at hd
          split at hj
          · cases hj
            exact va_forget hS.2.2 (W.widen w_room.1 w_room.2 (lw_ret hx hb hr hlocks hd))
          · cases hj
        · cases hj
      | _ =>
        dsimp only [jgf, jpf, jld, jsv, jnew, jon, jinv, jnat7, jnat10, jcall] at hj
        repeat' split at hj
        all_goals cases hj
end LWST
/-- from the entry, for every script of at most 3072 ints, the law comes to its end with true -/
theorem whole_start {p : Program} {e : Env} {s : State} {m : MethodId} {below : List Frame} {meth : Method} {c : Code} (l : Launch) (hflags : l.flags = flags0) {b L : Nat} {xs : Nat → Int32} (hL : L ≤ 3072) (C0 : lw_At p s m meth c b L xs) : W p l e room_1 s m #[Value.ref b] below meth c s.heap [] 0 0 (lw_Z below #[Value.ref b] s) (entryFrame m ([Value.ref b] : List Value).toArray 4) := by
  obtain ⟨hx, hb, hr, hml, hown, hts, hX, hbl, hlocks, hgv⟩ := C0
  obtain ⟨D, cs, xv, hwd, hx2⟩ := w_world hts hgv hX hbl hL
  have hA : ∀ q, s.heap.size ≤ q → (fun q => s.heap.size ≤ q) q := fun q h => h
  have hF : jFix p s m meth c D cs xv (wxl L xs) (fun q => s.heap.size ≤ q) 0 := ⟨hx, by rw [jmi_0]; exact hb, by rw [jmi_0]; exact hml, by rw [jmi_0]; exact hown, hwd, hA, fun hn => absurd hn (by rw [jmi_0]; decide)⟩
  obtain ⟨h2, k, hk⟩ := law_run (xs := wxl L xs) wxl_in (by rw [wxl_len]; exact hL) u_init
  have hsa : jws 1 [((4 : Nat), (2 : Int))] := jws_cons (v := (4, 2)) (show (0 : Int) ≤ 2 by decide) (by decide) (by decide) (fun v hv => by cases hv)
  have hmap : [((4 : Nat), (2 : Int))].map (jcv (fun _ => 0) xv) = [Value.ref b] := by
    show [xv 2] = [Value.ref b]
    rw [hx2]
  have hl := lv_entry [Value.ref b] (n := 4) (Nat.le_of_ble_eq_true rfl)
  rw [lg_entry_eq]
  generalize (lg_sl [Value.ref b] ++ List.replicate (4 - (lg_sl [Value.ref b]).length) Slot.unset).toArray = arr at hl ⊢
  have hl2 : lv_has arr 4 (jlv (fun _ => 0) xv 0 (jpad 4 (jexp [((4 : Nat), (2 : Int))]))) := ⟨hl.1, hl.2.1, fun q hq => hl.2.2 q (by
    have h3 := jent_sub hwd.1.1 [((4 : Nat), (2 : Int))] 0 4 1 hsa q hq
    rw [hmap] at h3
    exact h3)⟩
  obtain ⟨e1, e2⟩ := jent_rel (mL := 4) hsa
  have go := jbody (L0 := 1) (t0 := 0) (ad0 := fun _ => 0) (R := room_1) (y := ((0, 1), ((jL, jR), h2))) (e := e) (l := l) (args := #[Value.ref b]) (below := below) (d := 90) (base := s.heap.size) (Q := lw_Z below #[Value.ref b] s)
    hF (Nat.le_refl _) ⟨by decide, by decide⟩ (fun mi' a σ r σ' h => jrun_sound hA 90 k mi' a σ r σ' h) w_room (fun pc ls st hj => w_end hx hb hr hlocks pc ls st hj) k (jent 0 [((4 : Nat), (2 : Int))]) (([(99, 0)], fun _ _ => 0), fun _ _ => 0) rfl hk (fun _ => 0) arr s.heap [] (fun _ _ => rfl) (Nat.le_refl _) (Nat.zero_le _)
    ⟨hl2, rfl, e1, e2, (fun v hv => by cases hv), w_jok, (fun k q h => by cases h), ⟨(fun i j p q h => by cases h), (fun k q h => by cases h)⟩, va_S.rf⟩
  exact go
