/-! calls, kind by kind -/
theorem jlnest_of {own : String} {idx mi w : Nat} (h : jlnest own idx mi w = true) : ∃ host, Jvm.Cond.methodLinkNest own idx (jmi mi).1 host ∈ lw_tbl := by
  unfold jlnest at h
  split at h
  · rename_i o i y host hq
    simp only [Bool.and_eq_true, decide_eq_true_eq] at h
    obtain ⟨⟨h1, h2⟩, h3⟩ := h
    have hm := jwAt_mem hq
    rw [h1, h2, h3] at hm
    exact ⟨host, hm⟩
  · cases h
section JINV
variable {p : Program} {l : Launch} {e : Env} {R : Room} {s : State} {m : MethodId} {args : Array Value} {below : List Frame} {meth : Method} {c : Code} {Q : State → Prop}
variable {D : va_G} {cs : Nat → ClassId} {xv : Nat → Value} {xs : List Int} {A : Nat → Prop} {mi L0 t0 d base : Nat} {ad0 : Nat → Nat} {pc : Nat} {ls st : List jV} {T : jT} {h : jH} {f' : jF} {σ' : jS}
theorem jwd_on (hwd : jWd D cs xv xs A s) {w : Jvm.Cond} (hw : w ∈ lw_tbl) (hg : goodWord w = true) : w.before args s = true := hwd.2.2.1 _ (jTg_in hw hg) args
theorem jcallB (hwd : jWd D cs xv xs A s) {own : String} {idx mi' n mc ms : Nat} {w : Jvm.Cond} {d : Nat} (h0 : 0 < mi') (h1 : mi' < 373) (hR : d + 1 ≤ R.frames ∧ (d + 1) * 128 ≤ R.locals) (hn : n = (if (jmi mi').2.2.2.2.2.2 = 1 then (jmi mi').2.2.2.2.1.length else (jmi mi').2.2.2.2.1.length - 1)) (hl : Jvm.Cond.methodLink own idx (jmi mi').1 ∈ lw_tbl) :
    CallB R s args own idx (jmi mi').1 (jmi mi').2.1 (jmi mi').2.2.1 (jret (jmi mi').2.2.2.1) [Jvm.Cond.code (jmi mi').1 (jmi mi').2.1 (jmi mi').2.2.1 (jret (jmi mi').2.2.2.1)] { frames := d, cells := mc, slots := ms, locals := d * 128 } mc ms n := by
  obtain ⟨g1, -, -, -, g5, -, g7, g8, -, g10, -⟩ := jmok_of h0 h1
  have hc := jwd_on (args := args) hwd g1 rfl
  refine ⟨rfl, rfl, hR.1, by show 8 + ((jmi mi').2.2.1 + 11) + d * 128 ≤ R.locals; have := hR.2; omega, fun w hw a' U hW => ?_, List.mem_singleton.mpr rfl, hc, jwd_on hwd g5 rfl, g7, fun sig hs => by rw [g8 sig hs]; exact hn, jwd_on hwd hl rfl⟩
  rw [List.mem_singleton.mp hw]
  exact word_at hW (Or.inl rfl) hc
theorem jcallN (hwd : jWd D cs xv xs A s) {own host : String} {idx mi' n mc ms : Nat} {d : Nat} (h0 : 0 < mi') (h1 : mi' < 373) (hR : d + 1 ≤ R.frames ∧ (d + 1) * 128 ≤ R.locals) (hn : n = (if (jmi mi').2.2.2.2.2.2 = 1 then (jmi mi').2.2.2.2.1.length else (jmi mi').2.2.2.2.1.length - 1)) (hl : Jvm.Cond.methodLinkNest own idx (jmi mi').1 host ∈ lw_tbl) :
    va_CN R s args own idx (jmi mi').1 host (jmi mi').2.1 (jmi mi').2.2.1 (jret (jmi mi').2.2.2.1) [Jvm.Cond.code (jmi mi').1 (jmi mi').2.1 (jmi mi').2.2.1 (jret (jmi mi').2.2.2.1)] { frames := d, cells := mc, slots := ms, locals := d * 128 } mc ms n := by
  obtain ⟨g1, -, -, -, g5, -, g7, g8, -, g10, -⟩ := jmok_of h0 h1
  have hc := jwd_on (args := args) hwd g1 rfl
  refine ⟨⟨rfl, rfl, hR.1, by show 8 + ((jmi mi').2.2.1 + 11) + d * 128 ≤ R.locals; have := hR.2; omega, fun w hw a' U hW => ?_, List.mem_singleton.mpr rfl⟩, hc, jwd_on hwd g5 rfl, g7, fun sig hs => by rw [g8 sig hs]; exact hn, va_Nw.use rfl (hwd.2.2.2.1 _ hl rfl)⟩
  rw [List.mem_singleton.mp hw]
  exact word_at hW (Or.inl rfl) hc
theorem jrecv (hwd : jWd D cs xv xs A s) {ad : Nat → Nat} {H : Heap} {locs : List Loc} (hO : jOk T h) (hP : va_P D vwCl (jcl ad cs T h) H) (hS : va_S A s.heap H locs) {mi' kd : Nat} (h0 : 0 < mi') (h1 : mi' < 373) (h34 : ¬ (kd = 3 ∨ kd = 4)) {a : List jV} (hr : jrcv T kd ((jmi mi').2.2.2.2.2.1.getD 4 99) a = true) : ∃ v rest b, a = v :: rest ∧ jcv ad xv v = .ref b ∧ ((kd = 1 ∨ kd = 2) → ∃ cellB : Cell, H[b]? = some cellB ∧ cellB.vm.isStatics = false ∧ s.vm.findClass (jmi mi').1.cls = some cellB.cls) := by
  unfold jrcv at hr
  rw [if_neg h34] at hr
  obtain ⟨-, -, -, -, -, -, -, -, -, -, g11, g12, -⟩ := jmok_of h0 h1
  split at hr
  · rename_i o rest
    simp only [Bool.and_eq_true, decide_eq_true_eq] at hr
    obtain ⟨n, hto⟩ := jcls_of hr.1
    have ho := hO.pos hto (by omega)
    refine ⟨_, _, ad o.toNat, rfl, jrv_pos ho, fun _ => ?_⟩
    have he := jcl_at (ad := ad) (cs := cs) (h := h) hto ho
    rw [jel_cls hr.2] at he
    obtain ⟨r, hr2, -⟩ := jcl_class hr.2
    rw [← g11 r hr2]
    exact va_recv hwd.2.1 hP hr2 he
  · rename_i z rest
    simp only [Bool.and_eq_true, decide_eq_true_eq] at hr
    obtain ⟨⟨⟨-, hc⟩, hz1⟩, hz2⟩ := hr
    obtain ⟨b, b2, e1, e2, q1, -, -⟩ := hwd.2.2.2.2.2.2.2.1 z.toNat (by omega) (by omega)
    refine ⟨_, _, b, rfl, e1, fun _ => ?_⟩
    obtain ⟨cell, q2, q3, q4, -⟩ := q1.kept hS.2.1
    exact ⟨cell, q2, q3, by rw [g12 hc]; exact q4⟩
  · cases hr
theorem jinv_sound (F : jFix p s m meth c D cs xv xs A mi) (hbase : base ≤ s.heap.size) {op idx : Nat} {i : jI} (hop : (op = 1 ∧ i = .invokevirtual idx) ∨ (op = 3 ∧ i = .invokestatic idx) ∨ (op = 5 ∧ i = .invokespecial idx)) {info : List Nat} (hdg : decode (jmi mi).2.1 pc = .ok (i, 3)) (hok : jlc (jmi mi).1.cls op idx info = true) {mi' : Nat} {a : List jV} {rv : jV} {f : jF} (hj : jinv info mi pc ls st (T, h) = some (.inr (.inr (mi', a, f)))) (hcon : jCon l D cs xv xs A base d mi' a (T, h) rv σ') (hle : jle2 (T, h) σ') (hroom : σ'.1.1.length - L0 ≤ R.cells ∧ jtot σ'.1.1 - t0 ≤ R.slots) (hR : d + 1 ≤ R.frames ∧ (d + 1) * 128 ≤ R.locals) (kk : jGo p l e R s m args below meth c Q D cs xv A mi L0 t0 ad0 (f.1, f.2.1, f.2.2.1, jpush rv f.2.2.2) σ') : jGo p l e R s m args below meth c Q D cs xv A mi L0 t0 ad0 (mi, pc, ls, st) (T, h) := by
  intro ad arr H locs had hL0 ht0 hrel
  unfold jinv at hj
  split at hj
  · rename_i kd mi2 na w
    by_cases k7 : kd = 7
    · rw [if_pos k7] at hj
      unfold jnat7 at hj
      repeat' split at hj
      all_goals cases hj
    · rw [if_neg k7] at hj
      by_cases k10 : kd = 10
      · rw [if_pos k10] at hj
        unfold jnat10 at hj
        repeat' split at hj
        all_goals cases hj
      · rw [if_neg k10] at hj
        unfold jcall at hj
        split at hj
        · cases hj
        · rename_i a' r hpop
          split at hj
          · rename_i hc
            cases hj
            obtain ⟨hst, hal⟩ := jpop_of _ _ _ _ hpop
            have hok : jlc (jmi mi).1.cls op idx [kd, mi', na, w] = true := hok
            unfold jlc at hok
            dsimp only at hok
            rw [if_neg k7, if_neg k10] at hok
            simp only [Bool.and_eq_true, decide_eq_true_eq] at hok
            obtain ⟨⟨⟨m0, m1⟩, hna⟩, hk⟩ := hok
            dsimp only at hrel had hL0 ht0 ⊢
            subst hst
            obtain ⟨hx, hb, hml, hown, hwd, hA, hini⟩ := id F
            obtain ⟨hl, hlen, hw, htg, hs, hO, hP, hD, hS⟩ := id hrel
            have hst2 : (a.reverse ++ r).map (jcv ad xv) = (a.map (jcv ad xv)).reverse ++ r.map (jcv ad xv) := by rw [List.map_append, List.map_reverse]
            rw [hst2]
            have hsr : jws T.1.length r := fun v hv => hs v (List.mem_append_right _ hv)
            have hcat : 2 * (F0 m pc arr ((a.map (jcv ad xv)).reverse ++ r.map (jcv ad xv))).monitorRoom + ((r.map (jcv ad xv)).map fun v => v.category).sum ≤ 8 := lv_room (by rw [jrm_of hwd.1.1 hsr]; exact hc.1)
            have hsz : arr.size = (jmi mi).2.2.1 := hl.1.trans hlen
            have fix : CallFix p m c (jmi mi).2.1 (jmi mi).2.2.1 s args [] (jmi mi).1.cls := ⟨hx, hb, hml, hown, fun w hw => by cases hw⟩
            obtain ⟨-, jm2, jm3, jm4, -⟩ := jmok_of m0 m1
            refine jcall_on (mi' := mi') F hbase hcon hle kk hroom had hL0 ht0 hrel (fun hbl hpre hM hfit => ?_)
            have stat : kd = 3 ∨ kd = 4 → (a.map (jcv ad xv)).length = na := fun h => by rw [List.length_map, hal, if_pos h]
            by_cases c1 : kd = 1
            · rw [if_pos c1] at hk
              simp only [Bool.and_eq_true, decide_eq_true_eq] at hk
              obtain ⟨⟨⟨o1, s0⟩, nm⟩, hw⟩ := hk
              obtain ⟨rfl, rfl⟩ : op = 1 ∧ i = .invokevirtual idx := by rcases hop with h | h | h <;> first | exact h | (exact absurd (o1.symm.trans h.1) (by decide))
              obtain ⟨v, rest, b, ea, eb, hcell⟩ := jrecv hwd hO hP hS m0 m1 (by omega) hc.2
              subst ea
              have hn : (rest.map (jcv ad xv)).length = na := by
                rw [if_neg (by omega)] at hal
                simpa using hal
              have hmap : (v :: rest).map (jcv ad xv) = .ref b :: rest.map (jcv ad xv) := by rw [List.map_cons, eb]
              rw [hmap] at hM hbl hpre hcat ⊢
              exact va_runV fix hM ⟨jcallB (w := .initialized "") hwd m0 m1 hR (n := na) (by rw [if_neg (by omega)]; rw [if_neg (by omega)] at hna; omega) (jhas_mem hw), jwd_on hwd (jm3 s0) rfl, jwd_on hwd (jm4 s0 nm) rfl⟩ ⟨hbl, hcell (Or.inl c1), hpre⟩ rfl hn hsz (by simp) hcat hdg hfit
            · rw [if_neg c1] at hk
              by_cases c3 : kd = 3
              · rw [if_pos c3] at hk
                simp only [Bool.and_eq_true, decide_eq_true_eq] at hk
                obtain ⟨⟨o1, s0⟩, hw⟩ := hk
                obtain ⟨rfl, rfl⟩ : op = 3 ∧ i = .invokestatic idx := by rcases hop with h | h | h <;> first | exact h | (exact absurd (o1.symm.trans h.1) (by decide))
                exact va_runS fix hM ⟨jcallB (w := .initialized "") hwd m0 m1 hR (n := na) (by rw [if_pos s0]; rw [if_pos s0] at hna; omega) (jhas_mem hw), jwd_on hwd (jm2 s0) rfl⟩ ⟨hbl, hpre⟩ rfl (stat (Or.inl c3)) hsz rfl hcat hdg hfit
              · rw [if_neg c3] at hk
                by_cases c5 : kd = 5
                · rw [if_pos c5] at hk
                  simp only [Bool.and_eq_true, decide_eq_true_eq] at hk
                  obtain ⟨⟨⟨⟨o1, s0⟩, nm⟩, rc⟩, hw⟩ := hk
                  obtain ⟨rfl, rfl⟩ : op = 5 ∧ i = .invokespecial idx := by rcases hop with h | h | h <;> first | exact h | (exact absurd (o1.symm.trans h.1) (by decide))
                  obtain ⟨v, rest, b, ea, eb, hcell⟩ := jrecv hwd hO hP hS m0 m1 (by omega) hc.2
                  subst ea
                  have hn : (rest.map (jcv ad xv)).length = na := by
                    rw [if_neg (by omega)] at hal
                    simpa using hal
                  have hmap : (v :: rest).map (jcv ad xv) = .ref b :: rest.map (jcv ad xv) := by rw [List.map_cons, eb]
                  rw [hmap] at hM hbl hpre hcat ⊢
                  have hB := jcallB (R := R) (args := args) (mc := σ'.1.1.length - T.1.length) (ms := jtot σ'.1.1 - jtot T.1) (w := .initialized "") hwd m0 m1 hR (n := na) (by rw [if_neg (by omega)]; rw [if_neg (by omega)] at hna; omega) (jhas_mem hw)
                  rw [rc] at hB hM
                  exact va_runI fix hM ⟨hB, nm, jwd_on hwd (jm3 s0) rfl⟩ ⟨hbl, hpre⟩ rfl hn hsz (by simp) hcat hdg hfit
                · rw [if_neg c5] at hk
                  by_cases c2 : kd = 2
                  · rw [if_pos c2] at hk
                    simp only [Bool.and_eq_true, decide_eq_true_eq] at hk
                    obtain ⟨⟨⟨o1, s0⟩, nm⟩, hw⟩ := hk
                    obtain ⟨host, hw⟩ := jlnest_of hw
                    obtain ⟨rfl, rfl⟩ : op = 1 ∧ i = .invokevirtual idx := by rcases hop with h | h | h <;> first | exact h | (exact absurd (o1.symm.trans h.1) (by decide))
                    obtain ⟨v, rest, b, ea, eb, hcell⟩ := jrecv hwd hO hP hS m0 m1 (by omega) hc.2
                    subst ea
                    have hn : (rest.map (jcv ad xv)).length = na := by
                      rw [if_neg (by omega)] at hal
                      simpa using hal
                    have hmap : (v :: rest).map (jcv ad xv) = .ref b :: rest.map (jcv ad xv) := by rw [List.map_cons, eb]
                    rw [hmap] at hM hbl hpre hcat ⊢
                    exact va_runVN fix hM ⟨jcallN hwd m0 m1 hR (n := na) (by rw [if_neg (by omega)]; rw [if_neg (by omega)] at hna; omega) hw, jwd_on hwd (jm3 s0) rfl, jwd_on hwd (jm4 s0 nm) rfl⟩ ⟨hbl, hcell (Or.inr c2), hpre⟩ rfl hn hsz (by simp) hcat hdg hfit
                  · rw [if_neg c2] at hk
                    by_cases c4 : kd = 4
                    · rw [if_pos c4] at hk
                      simp only [Bool.and_eq_true, decide_eq_true_eq] at hk
                      obtain ⟨⟨o1, s0⟩, hw⟩ := hk
                      obtain ⟨host, hw⟩ := jlnest_of hw
                      obtain ⟨rfl, rfl⟩ : op = 3 ∧ i = .invokestatic idx := by rcases hop with h | h | h <;> first | exact h | (exact absurd (o1.symm.trans h.1) (by decide))
                      exact va_runSN fix hM ⟨jcallN hwd m0 m1 hR (n := na) (by rw [if_pos s0]; rw [if_pos s0] at hna; omega) hw, jwd_on hwd (jm2 s0) rfl, trivial⟩ ⟨hbl, hpre⟩ rfl (stat (Or.inr c4)) hsz rfl hcat hdg hfit
                    · rw [if_neg c4] at hk
                      simp only [Bool.and_eq_true, decide_eq_true_eq] at hk
                      obtain ⟨⟨⟨⟨⟨k6, o1⟩, s0⟩, nm⟩, rc⟩, hw⟩ := hk
                      obtain ⟨host, hw⟩ := jlnest_of hw
                      obtain ⟨rfl, rfl⟩ : op = 5 ∧ i = .invokespecial idx := by rcases hop with h | h | h <;> first | exact h | (exact absurd (o1.symm.trans h.1) (by decide))
                      obtain ⟨v, rest, b, ea, eb, hcell⟩ := jrecv hwd hO hP hS m0 m1 (by omega) hc.2
                      subst ea
                      have hn : (rest.map (jcv ad xv)).length = na := by
                        rw [if_neg (by omega)] at hal
                        simpa using hal
                      have hmap : (v :: rest).map (jcv ad xv) = .ref b :: rest.map (jcv ad xv) := by rw [List.map_cons, eb]
                      rw [hmap] at hM hbl hpre hcat ⊢
                      have hB := jcallN (R := R) (args := args) (mc := σ'.1.1.length - T.1.length) (ms := jtot σ'.1.1 - jtot T.1) hwd m0 m1 hR (n := na) (by rw [if_neg (by omega)]; rw [if_neg (by omega)] at hna; omega) hw
                      rw [rc] at hB hM
                      exact va_runIN fix hM ⟨hB, nm, jwd_on hwd (jm3 s0) rfl⟩ ⟨hbl, hpre⟩ rfl hn hsz (by simp) hcat hdg hfit
          · cases hj
  · cases hj
end JINV
