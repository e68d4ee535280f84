/-! natives; every step; every run -/
theorem jnfw : nativeFrameWords "java/lang/System" "arraycopy" 5 ≤ 60 := by decide +kernel
theorem jOk.cpy {T : jT} {h : jH} (H : jOk T h) {s d ns nd sp dp n : Nat} (hs : T.1[s]? = some (20, ns)) (hd : T.1[d]? = some (20, nd)) : jOk T (jcpy h s d sp dp n) := by
  obtain ⟨h1, h2, h3, h4⟩ := H
  have hdl : d < T.1.length := (List.getElem?_eq_some_iff.mp hd).1
  refine ⟨h1, h2, fun o t k ht => ?_, fun o ho k => ?_⟩
  · by_cases e : o = d
    · subst e
      rw [hd] at ht
      cases ht
      have e1 : jskd (20, nd) k = 0 := by simp [jskd]
      rw [e1]
      show jI32 _
      unfold jcpy
      rw [if_pos rfl]
      split
      · have := h3 s _ (sp + (k - dp)) hs
        rw [show jskd (20, ns) (sp + (k - dp)) = 0 by simp [jskd]] at this
        exact this
      · have := h3 o _ k hd
        rw [e1] at this
        exact this
    · have e1 : jcpy h s d sp dp n o = h o := by unfold jcpy; rw [if_neg e]
      rw [e1]
      exact h3 o t k ht
  · have e : o ≠ d := by omega
    have e1 : jcpy h s d sp dp n o = h o := by unfold jcpy; rw [if_neg e]
    rw [e1]
    exact h4 o ho k
theorem jcpy_of {h : jH} {s d sp dp n : Nat} : (fun j => Int32.ofInt (jcpy h s d sp dp n d j)) = va_cpy (fun j => Int32.ofInt (h s j)) (fun j => Int32.ofInt (h d j)) sp dp n := by
  funext j
  unfold jcpy va_cpy
  rw [if_pos rfl]
  split <;> rfl
theorem jcpy_ne {h : jH} {s d sp dp n i : Nat} (hi : i ≠ d) : jcpy h s d sp dp n i = h i := by unfold jcpy; rw [if_neg hi]
section JMAIN
variable {p : Program} {l : Launch} {e : Env} {R : Room} {s : State} {m : MethodId} {args : Array Value} {below : List Frame} {meth : Method} {c : Code} {Q : State → Prop}
variable {D : va_G} {cs : Nat → ClassId} {xv : Nat → Value} {xs : List Int} {A : Nat → Prop} {mi L0 t0 d base : Nat} {ad0 : Nat → Nat} {pc : Nat} {ls st : List jV} {T : jT} {h : jH} {f' : jF} {σ' : jS}
theorem jnat_sound (F : jFix p s m meth c D cs xv xs A mi) {op idx : Nat} {i : jI} (hop : (op = 1 ∧ i = .invokevirtual idx) ∨ (op = 3 ∧ i = .invokestatic idx) ∨ (op = 5 ∧ i = .invokespecial idx)) {info : List Nat} (hdg : decode (jmi mi).2.1 pc = .ok (i, 3)) (hok : jlc (jmi mi).1.cls op idx info = true) (hj : jinv info mi pc ls st (T, h) = some (.inl (f', σ'))) (hR : 1 ≤ R.frames ∧ 128 ≤ R.locals) (kk : jGo p l e R s m args below meth c Q D cs xv A mi L0 t0 ad0 f' σ') : jGo p l e R s m args below meth c Q D cs xv A mi L0 t0 ad0 (mi, pc, ls, st) (T, h) := by
  intro ad arr H locs had hL0 ht0 hrel
  unfold jinv at hj
  split at hj
  · rename_i kd mi2 na w
    have hok : jlc (jmi mi).1.cls op idx [kd, mi2, na, w] = true := hok
    unfold jlc at hok
    dsimp only at hok
    obtain ⟨hx, hb, hml, hown, hwd, hA, hini⟩ := id F
    obtain ⟨hl, hlen, hw, htg, hs, hO, hP, hD, hS⟩ := id hrel
    dsimp only at hl hlen hw htg hs hO hP hD hS hL0 ht0 ⊢
    have hsz : arr.size = (jmi mi).2.2.1 := hl.1.trans hlen
    by_cases k7 : kd = 7
    · rw [if_pos k7] at hj hok
      simp only [Bool.and_eq_true, decide_eq_true_eq] at hok
      obtain ⟨rfl, rfl⟩ : op = 5 ∧ i = .invokespecial idx := by rcases hop with h | h | h <;> first | exact h | (exact absurd (hok.1.symm.trans h.1) (by decide))
      unfold jnat7 at hj
      split at hj
      · rename_i o r
        split at hj
        · rename_i k n hto
          split at hj
          · rename_i hc
            cases hj
            have ho := hO.pos hto (by omega)
            have hsr : jws T.1.length r := jws_tail hs
            show W p l e R s m args below meth c H locs (T.1.length - L0) (jtot T.1 - t0) Q (F0 m pc arr (jrv ad o.toNat :: r.map (jcv ad xv)))
            rw [jrv_pos ho]
            have hcat : 2 * (F0 m pc arr (.ref (ad o.toNat) :: r.map (jcv ad xv))).monitorRoom + ((r.map (jcv ad xv)).map fun v => v.category).sum ≤ 8 := lv_room (by rw [jrm_of hwd.1.1 hsr]; exact hc.2)
            refine W.objInit hx hb hown (jwd_on hwd (jhas_mem hok.2) rfl) (jwd_on hwd jw_oi rfl) (jwd_on hwd jw_oc rfl) rfl (hsz.trans hml.symm) rfl hdg hR.1 (by omega) ?_
            exact kk ad arr H locs had hL0 ht0 ⟨hl, hlen, hw, htg, hsr, hO, hP, hD, hS⟩
          · cases hj
        · cases hj
      · cases hj
    · rw [if_neg k7] at hj hok
      by_cases k10 : kd = 10
      · rw [if_pos k10] at hj hok
        simp only [Bool.and_eq_true, decide_eq_true_eq] at hok
        obtain ⟨rfl, rfl⟩ : op = 3 ∧ i = .invokestatic idx := by rcases hop with h | h | h <;> first | exact h | (exact absurd (hok.1.symm.trans h.1) (by decide))
        unfold jnat10 at hj
        split at hj
        · rename_i n dp dd sp ss r
          split at hj
          · rename_i ks ns kd' nd hts htd
            split at hj
            · rename_i hc
              obtain ⟨rfl, rfl, c1, c2, c3, c4, c5, c6⟩ := hc
              cases hj
              have hos := hO.pos hts (by decide)
              have hod := hO.pos htd (by decide)
              have hn32 : jI32 n := jws_head hs
              have hdp32 : jI32 dp := jws_head (jws_tail hs)
              have hsp32 : jI32 sp := jws_head (jws_tail (jws_tail (jws_tail hs)))
              have hsr : jws T.1.length r := jws_tail (jws_tail (jws_tail (jws_tail (jws_tail hs))))
              have neg : ∀ {v : Int}, jI32 v → 0 ≤ v → ¬ Int32.ofInt v < 0 := fun {v} h1 h2 => by
                rw [show (0 : Int32) = Int32.ofInt 0 from rfl, jof_lt h1 ⟨by decide, by decide⟩]
                omega
              show W p l e R s m args below meth c H locs (T.1.length - L0) (jtot T.1 - t0) Q (F0 m pc arr (.int (Int32.ofInt n) :: .int (Int32.ofInt dp) :: jrv ad dd.toNat :: .int (Int32.ofInt sp) :: jrv ad ss.toNat :: r.map (jcv ad xv)))
              rw [jrv_pos hos, jrv_pos hod]
              have hcat := jrm_of hwd.1.1 (ad := ad) hsr
              have hq := jcl_arr (ad := ad) (cs := cs) (T := T) (h := h) (T' := T) (h' := jcpy h ss.toNat dd.toNat sp.toNat dp.toNat n.toNat) htd hod rfl (fun _ hi => jcpy_ne hi) (fun _ _ => rfl) (jel_int.trans (by rw [jcpy_of]))
              have fin := fun (H1 : Heap) (locs1 : List Loc) hP1 hD1 hS1 => kk ad arr H1 locs1 had hL0 ht0 ⟨hl, hlen, hw, htg, hsr, hO.cpy (sp := sp.toNat) (dp := dp.toNat) (n := n.toNat) hts htd, hP1, hD1, hS1⟩
              dsimp only at fin
              rw [hq] at fin
              have hfw := jnfw
              refine va_copyi (tys := jtys cs) hx hb (hml.trans hsz.symm) hown (jwd_on hwd (jhas_mem hok.2) rfl) (jwd_on hwd jw_an rfl) (jwd_on hwd jw_as rfl) (jwd_on hwd jw_ai rfl) hwd.2.1 hP hD hS (ss.toNat - 1) (dd.toNat - 1) 0 0 (jcl_at hts hos) (jcl_at htd hod) rfl rfl rfl (neg hsp32 c3) (neg hdp32 c2) (neg hn32 c1) (by rw [jcl_nat hsp32, jcl_nat hn32]; exact c4) (by rw [jcl_nat hdp32, jcl_nat hn32]; exact c5) (fun _ _ => rfl) hR.1 (by rw [hcat]; omega) hdg (fun H1 locs1 hP1 hD1 hS1 => ?_)
              rw [jcl_nat hsp32, jcl_nat hdp32, jcl_nat hn32] at hP1 hD1
              exact fin H1 locs1 hP1 hD1 hS1
            · cases hj
          · cases hj
        · cases hj
      · rw [if_neg k10] at hj
        unfold jcall at hj
        repeat' split at hj
        all_goals cases hj
  · cases hj
theorem jinv_mi {own : String} {op idx : Nat} {info : List Nat} (hok : jlc own op idx info = true) {mi' : Nat} {a : List jV} {f : jF} (hj : jinv info mi pc ls st (T, h) = some (.inr (.inr (mi', a, f)))) : 0 < mi' ∧ mi' < 373 ∧ f.1 = mi := by
  unfold jinv at hj
  split at hj
  · rename_i kd mi2 na w
    have hok : jlc own op idx [kd, mi2, na, w] = true := hok
    unfold jlc at hok
    dsimp only at hok
    by_cases k7 : kd = 7
    · rw [if_pos k7] at hj
      unfold jnat7 at hj
      repeat' split at hj
      all_goals cases hj
    · rw [if_neg k7] at hj hok
      by_cases k10 : kd = 10
      · rw [if_pos k10] at hj
        unfold jnat10 at hj
        repeat' split at hj
        all_goals cases hj
      · rw [if_neg k10] at hj hok
        simp only [Bool.and_eq_true, decide_eq_true_eq] at hok
        unfold jcall at hj
        split at hj
        · cases hj
        · split at hj
          · cases hj
            exact ⟨hok.1.1.1, hok.1.1.2, rfl⟩
          · cases hj
  · cases hj
/-- a step that goes on -/
theorem jn0_sound (F : jFix p s m meth c D cs xv xs A mi) (hj : jn0 xs (mi, pc, ls, st) (T, h) = some (.inl (f', σ'))) (hR : 1 ≤ R.frames ∧ 128 ≤ R.locals) (hroom : σ'.1.1.length - L0 ≤ R.cells ∧ jtot σ'.1.1 - t0 ≤ R.slots) (kk : jGo p l e R s m args below meth c Q D cs xv A mi L0 t0 ad0 f' σ') : jGo p l e R s m args below meth c Q D cs xv A mi L0 t0 ad0 (mi, pc, ls, st) (T, h) := by
  unfold jn0 at hj
  dsimp only at hj
  split at hj
  · cases hj
  · rename_i i n info hf
    obtain ⟨hd, hn, ht, hl⟩ := jfet_ok hf
    have hn' : jswi i = false → n = jlen i := fun h => by
      rcases hn with hn | hn
      · rw [h] at hn; cases hn
      · exact hn
    have hl' : j99 i info = false → jlok (jmi mi).1.cls (decide ((jmi mi).1.name = "<init>")) i info = true := fun h => by
      rcases hl with hl | hl
      · rw [h] at hl; cases hl
      · exact hl
    split at hj
    · rename_i ls' st' hq
      cases hj
      have hsw : jswi i = false := by cases i <;> first | rfl | simp [jst] at hq
      have h99 : j99 i info = false := by cases i <;> first | rfl | simp [jst] at hq
      have hnn := hn' hsw
      rw [hnn] at hd kk
      have hok := hl' h99
      intro ad arr H locs had hL0 ht0 hrel
      obtain ⟨hx, hb, hml, hown, hwd, hA, hini⟩ := F
      obtain ⟨hl1, hlen, hw, htg, hs, hO, hP, hD, hS⟩ := hrel
      dsimp only at hl1 hlen hw htg hs hO hP hD hS hL0 ht0 ⊢
      have hcon : jcon (jmi mi).1.cls i info s args xv := by
        cases i <;> first
          | trivial
          | (unfold jlok at hok
             unfold jcon
             dsimp only at hok ⊢
             split at hok
             · simp only [Bool.and_eq_true, decide_eq_true_eq] at hok
               exact jwd_on hwd (jhas_mem hok.1) rfl
             · simp only [Bool.and_eq_true, decide_eq_true_eq] at hok
               exact jwd_on hwd (jhas_mem hok.1) rfl
             · cases hok)
          | (unfold jlok at hok
             unfold jcon
             dsimp only at hok ⊢
             split at hok
             · simp only [Bool.and_eq_true, decide_eq_true_eq] at hok
               exact jwd_on hwd (jhas_mem hok.1) rfl
             · simp only [Bool.and_eq_true, decide_eq_true_eq] at hok
               exact jwd_on hwd (jhas_mem hok.1) rfl
             · simp only [Bool.and_eq_true, decide_eq_true_eq] at hok
               obtain ⟨⟨z1, z2⟩, z3⟩ := hok
               split at z3
               · rename_i o i2 tx hq2
                 simp only [Bool.and_eq_true, decide_eq_true_eq] at z3
                 obtain ⟨⟨y1, y2⟩, y3⟩ := z3
                 have hm := jwAt_mem hq2
                 rw [y1, y2] at hm
                 obtain ⟨a, g1, g2⟩ := hwd.2.2.2.2.2.1 _ _ tx _ hm y3 z1 z2
                 exact ⟨tx, a, g1, g2⟩
               · cases z3
             · cases hok)
      have hnum : jnum i info := by
        cases i <;> first
          | trivial
          | (unfold jlok at hok
             dsimp only at hok
             simp only [Bool.and_eq_true, decide_eq_true_eq] at hok
             exact hok)
          | (unfold jlok at hok
             unfold jnum
             dsimp only at hok ⊢
             split at hok
             · simp only [Bool.and_eq_true, decide_eq_true_eq] at hok
               exact hok.2
             · simp only [Bool.and_eq_true, decide_eq_true_eq] at hok
               exact hok.2
             · cases hok)
          | (unfold jlok at hok
             unfold jnum
             dsimp only at hok ⊢
             split at hok
             · simp only [Bool.and_eq_true, decide_eq_true_eq] at hok
               exact hok.2
             · simp only [Bool.and_eq_true, decide_eq_true_eq] at hok
               exact hok.2
             · trivial
             · cases hok)
      exact jst_sound hx hb hown hwd.1.1 hd hcon hnum hq hl1 hw htg hs (fun arr' g1 g2 g3 g4 g5 => kk ad arr' H locs had hL0 ht0 ⟨g1, g2.trans hlen, g3, g4, g5, hO, hP, hD, hS⟩)
    · cases i with
      | getfield idx => cases (hn' rfl); exact jgf_sound F hd (hl' rfl) hj kk
      | putfield idx => cases (hn' rfl); exact jpf_sound F hd (hl' rfl) hj kk
      | iaload => cases (hn' rfl); exact jiald_sound F hd hj kk
      | laload => cases (hn' rfl); exact jlald_sound F hd hj kk
      | caload => cases (hn' rfl); exact jcald_sound F hd hj kk
      | baload =>
        cases (hn' rfl)
        dsimp only at hj
        split at hj
        · exact jbald_sound F hd (Or.inl ⟨hj, _, _, _, rfl⟩) kk
        · rename_i hne
          exact jbald_sound F hd (Or.inr ⟨hj, fun a b c hc => hne _ _ _ hc⟩) kk
      | aaload =>
        cases (hn' rfl)
        dsimp only at hj
        repeat' split at hj
        all_goals first | (cases hj; done) | skip
        rename_i hto hc
        obtain ⟨rfl, hc⟩ := hc
        cases hj
        exact jaald_sound F hd hto hc kk
      | iastore => cases (hn' rfl); exact jast_sound F (Or.inl ⟨rfl, rfl, rfl⟩) hd hj kk
      | lastore => cases (hn' rfl); exact jast_sound F (Or.inr (Or.inl ⟨rfl, rfl, rfl⟩)) hd hj kk
      | castore => cases (hn' rfl); exact jast_sound F (Or.inr (Or.inr (Or.inr ⟨rfl, rfl, rfl⟩))) hd hj kk
      | bastore => cases (hn' rfl); exact jast_sound F (Or.inr (Or.inr (Or.inl ⟨rfl, rfl, rfl⟩))) hd hj kk
      | aastore =>
        cases (hn' rfl)
        dsimp only at hj
        repeat' split at hj
        all_goals first | (cases hj; done) | skip
        rename_i hto hc
        obtain ⟨rfl, hc1, hc2⟩ := hc
        obtain ⟨n9, h9⟩ := jcls_of hc2
        cases hj
        exact jaast_sound F hd hto hc1 h9 kk
      | arraylength =>
        cases (hn' rfl)
        dsimp only at hj
        repeat' split at hj
        all_goals first | (cases hj; done) | skip
        · rename_i hto hc
          cases hj
          exact jlen_sound F hd hto hc kk
        · rename_i hz
          cases hj
          exact jlenX_sound F hd hz kk
      | getstatic idx =>
        cases (hn' rfl)
        dsimp only at hj
        split at hj
        · cases hj
          exact jgs_sound F hd (hl' rfl) (Or.inl ⟨_, _, rfl, rfl⟩) kk
        · split at hj
          · rename_i hk
            cases hj
            exact jgs_sound F hd (hl' rfl) (Or.inr ⟨_, _, _, rfl, hk, rfl⟩) kk
          · cases hj
        · cases hj
      | new idx =>
        cases (hn' rfl)
        dsimp only at hj
        split at hj
        · split at hj
          · rename_i hc
            cases hj
            exact jnewc_sound F hd (hl' rfl) hc (by simpa [jtot] using hroom) jw_cls kk
          · cases hj
        · cases hj
      | newarray ty =>
        cases (hn' rfl)
        dsimp only at hj
        split at hj
        · split at hj
          · rename_i hc
            cases hj
            exact jnewa_sound F hd (hl' rfl) hc (by simpa [jtot] using hroom) jw_arr kk
          · cases hj
        · cases hj
      | anewarray idx =>
        cases (hn' rfl)
        dsimp only at hj
        split at hj
        · split at hj
          · rename_i hc
            obtain ⟨hc1, hc2, rfl⟩ := hc
            cases hj
            exact jnewq_sound F hd (hl' rfl) ⟨hc1, hc2⟩ (by simpa [jtot] using hroom) kk
          · cases hj
        · cases hj
      | idiv =>
        cases (hn' rfl)
        dsimp only at hj
        split at hj
        · split at hj
          · cases hj
          · cases hj
            exact jdiv_sound F (Or.inl ⟨rfl, rfl, rfl⟩) hd (by assumption) kk
        · cases hj
      | irem =>
        cases (hn' rfl)
        dsimp only at hj
        split at hj
        · split at hj
          · cases hj
          · cases hj
            exact jdiv_sound F (Or.inr (Or.inl ⟨rfl, rfl, rfl⟩)) hd (by assumption) kk
        · cases hj
      | ldiv =>
        cases (hn' rfl)
        dsimp only at hj
        split at hj
        · split at hj
          · cases hj
          · cases hj
            exact jdiv_sound F (Or.inr (Or.inr (Or.inl ⟨rfl, rfl, rfl⟩))) hd (by assumption) kk
        · cases hj
      | lrem =>
        cases (hn' rfl)
        dsimp only at hj
        split at hj
        · split at hj
          · cases hj
          · cases hj
            exact jdiv_sound F (Or.inr (Or.inr (Or.inr ⟨rfl, rfl, rfl⟩))) hd (by assumption) kk
        · cases hj
      | goto off =>
        cases (hn' rfl)
        cases hj
        exact jgoto_sound F hd (of_decide_eq_true ht) kk
      | ifCond cnd off =>
        cases (hn' rfl)
        dsimp only at hj
        split at hj
        · cases hj
          exact jifc_sound F hd (of_decide_eq_true ht) kk
        · cases hj
      | ifnull off =>
        cases (hn' rfl)
        dsimp only at hj
        split at hj
        · cases hj
          exact jifnN_sound F hd (of_decide_eq_true ht) kk
        · split at hj
          · split at hj
            · cases hj
              exact jifn_sound F hd (by assumption) (by assumption) kk
            · cases hj
          · cases hj
        · cases hj
      | if_icmp cnd off =>
        cases (hn' rfl)
        dsimp only at hj
        split at hj
        · cases hj
          exact jicmp_sound F hd (of_decide_eq_true ht) kk
        · cases hj
      | tableswitch dflt lo hi offs =>
        dsimp only at hj
        split at hj
        · split at hj
          · rename_i hc
            split at hj
            · rename_i hz
              cases hj
              exact jtsw_sound F hd (Or.inl ⟨hc, rfl⟩) hz kk
            · cases hj
          · rename_i hc
            split at hj
            · rename_i off hoff
              split at hj
              · rename_i hz
                cases hj
                exact jtsw_sound F hd (Or.inr ⟨hc, hoff⟩) hz kk
              · cases hj
            · cases hj
        · cases hj
      | lookupswitch dflt ps =>
        dsimp only at hj
        split at hj
        · split at hj
          · rename_i hz
            cases hj
            exact jlsw_sound F hd (hl' rfl) hz kk
          · cases hj
        · cases hj
      | invokevirtual idx => cases (hn' rfl); exact jnat_sound F (Or.inl ⟨rfl, rfl⟩) hd (hl' rfl) hj hR kk
      | invokestatic idx =>
        cases (hn' rfl)
        rcases hl with hl | hl
        · have e : info = [99] := of_decide_eq_true hl
          subst e
          cases hj
        · exact jnat_sound F (Or.inr (Or.inl ⟨rfl, rfl⟩)) hd hl hj hR kk
      | invokespecial idx => cases (hn' rfl); exact jnat_sound F (Or.inr (Or.inr ⟨rfl, rfl⟩)) hd (hl' rfl) hj hR kk
      | ireturn =>
        dsimp only at hj
        repeat' split at hj
        all_goals cases hj
      | areturn =>
        dsimp only at hj
        repeat' split at hj
        all_goals cases hj
      | lreturn =>
        dsimp only at hj
        repeat' split at hj
        all_goals cases hj
      | return_ =>
        dsimp only at hj
        repeat' split at hj
        all_goals cases hj
      | _ => cases hj
end JMAIN
