/-! single words, by their places -/
theorem jw_oi : Jvm.Cond.instanceMethod Lib.objectInit ∈ lw_tbl := jhas_mem (w := 1027) (by decide +kernel)
theorem jw_oc : Jvm.Cond.code Lib.objectInit ⟨#[0xb1]⟩ 1 none ∈ lw_tbl := jhas_mem (w := 1028) (by decide +kernel)
theorem jw_an : Jvm.Cond.native arraycopyName ∈ lw_tbl := jhas_mem (w := 5061) (by decide +kernel)
theorem jw_as : Jvm.Cond.static arraycopyName ∈ lw_tbl := jhas_mem (w := 5060) (by decide +kernel)
theorem jw_ai : Jvm.Cond.initialized "java/lang/System" ∈ lw_tbl := jhas_mem (w := 1020) (by decide +kernel)
theorem jw_ar20 : Jvm.Cond.arrayClass (jty 20) ∈ lw_tbl := jhas_mem (w := 1057) (by decide +kernel)
theorem jw_ar23 : Jvm.Cond.arrayClass (jty 23) ∈ lw_tbl := jhas_mem (w := 8127) (by decide +kernel)
theorem jw_ar22 : Jvm.Cond.arrayClass (jty 22) ∈ lw_tbl := jhas_mem (w := 8128) (by decide +kernel)
theorem jw_ar21 : Jvm.Cond.arrayClass (jty 21) ∈ lw_tbl := jhas_mem (w := 8129) (by decide +kernel)
theorem jw_arr : ∀ k, 20 ≤ k → k < 24 → Jvm.Cond.arrayClass (jty k) ∈ lw_tbl := by
  intro k h1 h2
  rcases (by omega : k = 20 ∨ k = 21 ∨ k = 22 ∨ k = 23) with rfl | rfl | rfl | rfl
  · exact jw_ar20
  · exact jw_ar21
  · exact jw_ar22
  · exact jw_ar23
theorem jw_c0 : Jvm.Cond.instantiable RX0 5 ∈ lw_tbl := jhas_mem (w := 1175) (by decide +kernel)
theorem jw_d0 : Jvm.Cond.initialized RX0 ∈ lw_tbl := jhas_mem (w := 1006) (by decide +kernel)
theorem jw_c1 : Jvm.Cond.instantiable RX1 4 ∈ lw_tbl := jhas_mem (w := 1205) (by decide +kernel)
theorem jw_d1 : Jvm.Cond.initialized RX1 ∈ lw_tbl := jhas_mem (w := 1007) (by decide +kernel)
theorem jw_c2 : Jvm.Cond.instantiable RX2 5 ∈ lw_tbl := jhas_mem (w := 1036) (by decide +kernel)
theorem jw_d2 : Jvm.Cond.initialized RX2 ∈ lw_tbl := jhas_mem (w := 1003) (by decide +kernel)
theorem jw_c3 : Jvm.Cond.instantiable RX3 10 ∈ lw_tbl := jhas_mem (w := 2161) (by decide +kernel)
theorem jw_d3 : Jvm.Cond.initialized RX3 ∈ lw_tbl := jhas_mem (w := 1013) (by decide +kernel)
theorem jw_c4 : Jvm.Cond.instantiable RX4 12 ∈ lw_tbl := jhas_mem (w := 1117) (by decide +kernel)
theorem jw_d4 : Jvm.Cond.initialized RX4 ∈ lw_tbl := jhas_mem (w := 1004) (by decide +kernel)
theorem jw_c5 : Jvm.Cond.instantiable RX5 5 ∈ lw_tbl := jhas_mem (w := 2133) (by decide +kernel)
theorem jw_d5 : Jvm.Cond.initialized RX5 ∈ lw_tbl := jhas_mem (w := 1011) (by decide +kernel)
theorem jw_c6 : Jvm.Cond.instantiable RX6 13 ∈ lw_tbl := jhas_mem (w := 1030) (by decide +kernel)
theorem jw_d6 : Jvm.Cond.initialized RX6 ∈ lw_tbl := jhas_mem (w := 1002) (by decide +kernel)
theorem jw_c7 : Jvm.Cond.instantiable RX7 7 ∈ lw_tbl := jhas_mem (w := 1230) (by decide +kernel)
theorem jw_d7 : Jvm.Cond.initialized RX7 ∈ lw_tbl := jhas_mem (w := 1008) (by decide +kernel)
theorem jw_c8 : Jvm.Cond.instantiable RX8 8 ∈ lw_tbl := jhas_mem (w := 2155) (by decide +kernel)
theorem jw_d8 : Jvm.Cond.initialized RX8 ∈ lw_tbl := jhas_mem (w := 1012) (by decide +kernel)
theorem jw_c9 : Jvm.Cond.instantiable RX9 15 ∈ lw_tbl := jhas_mem (w := 1169) (by decide +kernel)
theorem jw_d9 : Jvm.Cond.initialized RX9 ∈ lw_tbl := jhas_mem (w := 1005) (by decide +kernel)
theorem jw_c10 : Jvm.Cond.instantiable RX10 7 ∈ lw_tbl := jhas_mem (w := 2032) (by decide +kernel)
theorem jw_d10 : Jvm.Cond.initialized RX10 ∈ lw_tbl := jhas_mem (w := 1009) (by decide +kernel)
theorem jw_c11 : Jvm.Cond.instantiable RX11 20 ∈ lw_tbl := jhas_mem (w := 1022) (by decide +kernel)
theorem jw_d11 : Jvm.Cond.initialized RX11 ∈ lw_tbl := jhas_mem (w := 1001) (by decide +kernel)
theorem jw_c12 : Jvm.Cond.instantiable RX12 110 ∈ lw_tbl := jhas_mem (w := 7030) (by decide +kernel)
theorem jw_d12 : Jvm.Cond.initialized RX12 ∈ lw_tbl := jhas_mem (w := 1014) (by decide +kernel)
theorem jw_cls {c : Nat} : ∀ r, vwCl[c]? = some r → Jvm.Cond.instantiable r.1 r.2.2 ∈ lw_tbl ∧ Jvm.Cond.initialized r.1 ∈ lw_tbl := by
  intro r hr
  have hc : c < 13 := (List.getElem?_eq_some_iff.mp hr).1
  match c, hc, hr with
  | 0, _, hr => cases hr; exact ⟨jw_c0, jw_d0⟩
  | 1, _, hr => cases hr; exact ⟨jw_c1, jw_d1⟩
  | 2, _, hr => cases hr; exact ⟨jw_c2, jw_d2⟩
  | 3, _, hr => cases hr; exact ⟨jw_c3, jw_d3⟩
  | 4, _, hr => cases hr; exact ⟨jw_c4, jw_d4⟩
  | 5, _, hr => cases hr; exact ⟨jw_c5, jw_d5⟩
  | 6, _, hr => cases hr; exact ⟨jw_c6, jw_d6⟩
  | 7, _, hr => cases hr; exact ⟨jw_c7, jw_d7⟩
  | 8, _, hr => cases hr; exact ⟨jw_c8, jw_d8⟩
  | 9, _, hr => cases hr; exact ⟨jw_c9, jw_d9⟩
  | 10, _, hr => cases hr; exact ⟨jw_c10, jw_d10⟩
  | 11, _, hr => cases hr; exact ⟨jw_c11, jw_d11⟩
  | 12, _, hr => cases hr; exact ⟨jw_c12, jw_d12⟩
