/-! each call, whatever was before -/
section BTH
variable {T : jT} {h : jH} {o0 o k : Nat}
theorem wz_feed {v1 v2 v3 v4 v5 : Int} (n1 : jI32 v1) (n2 : jI32 v2) (n3 : jI32 v3) (n4 : jI32 v4) (n5 : jI32 v5) (ho : o = o0 + 505) (hk5 : k < 512) (w : WRz T h o0 o k) : ∃ v h1 h2, G_feed h o0 v1 v2 v3 v4 v5 = some (v, h1) ∧ M_feed h1 o v1 v2 v3 v4 v5 = some (v, h2) ∧ WRz T h2 o0 o (k + 1) := by
  rcases w with w | w
  · obtain ⟨v, h1, h2, a, b, c⟩ := wt_feed n1 n2 n3 n4 n5 ho w
    exact ⟨v, h1, h2, a, b, Or.inl c⟩
  · obtain ⟨v, h1, h2, a, b, c⟩ := wu_feed n1 n2 n3 n4 n5 ho w
    exact ⟨v, h1, h2, a, b, Or.inr c⟩
theorem wz_end {v1 : Int} (ho : o = o0 + 505) (hk5 : k < 512) (w : WRz T h o0 o k) : ∃ v h1 h2, G_end h o0 v1 = some (v, h1) ∧ M_end h1 o v1 = some (v, h2) ∧ WRz T h2 o0 o (k + 1) := by
  rcases w with w | w
  · obtain ⟨v, h1, h2, a, b, c⟩ := wt_end ho w
    exact ⟨v, h1, h2, a, b, Or.inl c⟩
  · obtain ⟨v, h1, h2, a, b, c⟩ := wu_end ho w
    exact ⟨v, h1, h2, a, b, Or.inr c⟩
theorem wz_journal (ho : o = o0 + 505) (hk5 : k < 512) (w : WRz T h o0 o k) : ∃ v h1 h2, G_journal T h o0 = some (v, h1) ∧ M_journal h1 o = some (v, h2) ∧ WRz T h2 o0 o (k + 1) := by
  rcases w with w | w
  · obtain ⟨v, h1, h2, a, b, c⟩ := wt_journal ho w
    exact ⟨v, h1, h2, a, b, Or.inl c⟩
  · exact wu_journal ho w
theorem wz_fault {v1 : Int} (w : WRz T h o0 o k) : ∃ v, G_fault h o0 v1 = some v ∧ M_fault h o v1 = some v ∧ WRz T h o0 o (k + 1) := by
  rcases w with w | w
  · obtain ⟨v, a, b, c⟩ := wt_fault w
    exact ⟨v, a, b, Or.inl c⟩
  · obtain ⟨v, a, b, c⟩ := wu_fault w
    exact ⟨v, a, b, Or.inr c⟩
theorem wz_has {v1 : Int} (w : WRz T h o0 o k) : ∃ v, G_has h o0 v1 = some v ∧ M_has h o v1 = some v ∧ WRz T h o0 o (k + 1) := by
  rcases w with w | w
  · obtain ⟨v, a, b, c⟩ := wt_has w
    exact ⟨v, a, b, Or.inl c⟩
  · obtain ⟨v, a, b, c⟩ := wu_has w
    exact ⟨v, a, b, Or.inr c⟩
theorem wz_segment {v1 v2 : Int} (ho : o = o0 + 505) (hk5 : k < 512) (w : WRz T h o0 o k) : ∃ v h1 h2, G_segment h o0 v1 v2 = some (v, h1) ∧ M_segment h1 o v1 v2 = some (v, h2) ∧ WRz T h2 o0 o (k + 1) := by
  rcases w with w | w
  · obtain ⟨v, h1, h2, a, b, c⟩ := wt_segment ho hk5 w
    exact ⟨v, h1, h2, a, b, Or.inl c⟩
  · obtain ⟨v, h1, h2, a, b, c⟩ := wu_segment  w
    exact ⟨v, h1, h2, a, b, Or.inr c⟩
theorem wz_frame {v1 v2 v3 : Int} (ho : o = o0 + 505) (hk5 : k < 512) (w : WRz T h o0 o k) : ∃ v h1 h2, G_frame h o0 v1 v2 v3 = some (v, h1) ∧ M_frame h1 o v1 v2 v3 = some (v, h2) ∧ WRz T h2 o0 o (k + 1) := by
  rcases w with w | w
  · obtain ⟨v, h1, h2, a, b, c⟩ := wt_frame ho hk5 w
    exact ⟨v, h1, h2, a, b, Or.inl c⟩
  · obtain ⟨v, h1, h2, a, b, c⟩ := wu_frame  w
    exact ⟨v, h1, h2, a, b, Or.inr c⟩
theorem wz_octetOf {v1 v2 : Int} (w : WRz T h o0 o k) : ∃ v, G_octetOf h o0 v1 v2 = some v ∧ M_octetOf h o v1 v2 = some v ∧ WRz T h o0 o (k + 1) := by
  rcases w with w | w
  · obtain ⟨v, a, b, c⟩ := wt_octetOf w
    exact ⟨v, a, b, Or.inl c⟩
  · obtain ⟨v, a, b, c⟩ := wu_octetOf w
    exact ⟨v, a, b, Or.inr c⟩
theorem wz_place {v1 : Int} (w : WRz T h o0 o k) : ∃ v, G_place T h o0 v1 = some v ∧ M_place h o v1 = some v ∧ WRz T h o0 o (k + 1) := by
  rcases w with w | w
  · obtain ⟨v, a, b, c⟩ := wt_place w
    exact ⟨v, a, b, Or.inl c⟩
  · obtain ⟨v, a, b, c⟩ := wu_place w
    exact ⟨v, a, b, Or.inr c⟩
theorem wz_value {v1 : Int} (w : WRz T h o0 o k) : ∃ v, G_value h o0 v1 = some v ∧ M_value h o v1 = some v ∧ WRz T h o0 o (k + 1) := by
  rcases w with w | w
  · obtain ⟨v, a, b, c⟩ := wt_value w
    exact ⟨v, a, b, Or.inl c⟩
  · obtain ⟨v, a, b, c⟩ := wu_value w
    exact ⟨v, a, b, Or.inr c⟩
theorem wz_soon {v1 : Int} (w : WRz T h o0 o k) : ∃ v, G_soon h o0 v1 = some v ∧ M_soon h o v1 = some v ∧ WRz T h o0 o (k + 1) := by
  rcases w with w | w
  · obtain ⟨v, a, b, c⟩ := wt_soon w
    exact ⟨v, a, b, Or.inl c⟩
  · obtain ⟨v, a, b, c⟩ := wu_soon w
    exact ⟨v, a, b, Or.inr c⟩
theorem wz_waiting {v1 v2 : Int} (w : WRz T h o0 o k) : ∃ v, G_waiting h o0 v1 v2 = some v ∧ M_waiting h o v1 v2 = some v ∧ WRz T h o0 o (k + 1) := by
  rcases w with w | w
  · obtain ⟨v, a, b, c⟩ := wt_waiting w
    exact ⟨v, a, b, Or.inl c⟩
  · obtain ⟨v, a, b, c⟩ := wu_waiting w
    exact ⟨v, a, b, Or.inr c⟩
theorem wz_waiter {v1 : Int} (w : WRz T h o0 o k) : ∃ v, G_waiter h o0 v1 = some v ∧ M_waiter h o v1 = some v ∧ WRz T h o0 o (k + 1) := by
  rcases w with w | w
  · obtain ⟨v, a, b, c⟩ := wt_waiter w
    exact ⟨v, a, b, Or.inl c⟩
  · obtain ⟨v, a, b, c⟩ := wu_waiter w
    exact ⟨v, a, b, Or.inr c⟩
theorem wz_kept {v1 v2 : Int} (w : WRz T h o0 o k) : ∃ v, G_kept h o0 v1 v2 = some v ∧ M_kept h o v1 v2 = some v ∧ WRz T h o0 o (k + 1) := by
  rcases w with w | w
  · obtain ⟨v, a, b, c⟩ := wt_kept w
    exact ⟨v, a, b, Or.inl c⟩
  · obtain ⟨v, a, b, c⟩ := wu_kept w
    exact ⟨v, a, b, Or.inr c⟩
theorem wz_later {v1 v2 : Int} (n1 : jI32 v1) (ho : o = o0 + 505) (hk5 : k < 512) (w : WRz T h o0 o k) : ∃ v h1 h2, G_later T h o0 v1 v2 = some (v, h1) ∧ M_later h1 o v1 v2 = some (v, h2) ∧ WRz T h2 o0 o (k + 1) := by
  rcases w with w | w
  · obtain ⟨v, h1, h2, a, b, c⟩ := wt_later n1 ho hk5 w
    exact ⟨v, h1, h2, a, b, Or.inl c⟩
  · obtain ⟨v, h1, h2, a, b, c⟩ := wu_later  w
    exact ⟨v, h1, h2, a, b, Or.inr c⟩
theorem wz_when {v1 : Int} (ho : o = o0 + 505) (hk5 : k < 512) (w : WRz T h o0 o k) : ∃ v h1 h2, G_when T h o0 v1 = some (v, h1) ∧ M_when h1 o v1 = some (v, h2) ∧ WRz T h2 o0 o (k + 1) := by
  rcases w with w | w
  · obtain ⟨v, h1, h2, a, b, c⟩ := wt_when ho hk5 w
    exact ⟨v, h1, h2, a, b, Or.inl c⟩
  · obtain ⟨v, h1, h2, a, b, c⟩ := wu_when  w
    exact ⟨v, h1, h2, a, b, Or.inr c⟩
theorem wz_rule {v1 v2 : Int} (ho : o = o0 + 505) (hk5 : k < 512) (w : WRz T h o0 o k) : ∃ v h1 h2, G_rule T h o0 v1 v2 = some (v, h1) ∧ M_rule h1 o v1 v2 = some (v, h2) ∧ WRz T h2 o0 o (k + 1) := by
  rcases w with w | w
  · obtain ⟨v, h1, h2, a, b, c⟩ := wt_rule ho hk5 w
    exact ⟨v, h1, h2, a, b, Or.inl c⟩
  · obtain ⟨v, h1, h2, a, b, c⟩ := wu_rule  w
    exact ⟨v, h1, h2, a, b, Or.inr c⟩
theorem wz_best {v1 : Int} (ho : o = o0 + 505) (hk5 : k < 512) (w : WRz T h o0 o k) : ∃ v h1 h2, G_best T h o0 v1 = some (v, h1) ∧ M_best h1 o v1 = some (v, h2) ∧ WRz T h2 o0 o (k + 1) := by
  rcases w with w | w
  · obtain ⟨v, h1, h2, a, b, c⟩ := wt_best ho hk5 w
    exact ⟨v, h1, h2, a, b, Or.inl c⟩
  · obtain ⟨v, h1, h2, a, b, c⟩ := wu_best  w
    exact ⟨v, h1, h2, a, b, Or.inr c⟩
theorem wz_room {v1 : Int} (ho : o = o0 + 505) (hk5 : k < 512) (w : WRz T h o0 o k) : ∃ v h1 h2, G_room T h o0 v1 = some (v, h1) ∧ M_room h1 o v1 = some (v, h2) ∧ WRz T h2 o0 o (k + 1) := by
  rcases w with w | w
  · obtain ⟨v, h1, h2, a, b, c⟩ := wt_room ho hk5 w
    exact ⟨v, h1, h2, a, b, Or.inl c⟩
  · obtain ⟨v, h1, h2, a, b, c⟩ := wu_room  w
    exact ⟨v, h1, h2, a, b, Or.inr c⟩
theorem wz_recovers {v1 v2 : Int} (ho : o = o0 + 505) (hk5 : k < 512) (w : WRz T h o0 o k) : ∃ v h1 h2, G_recovers T h o0 v1 v2 = some (v, h1) ∧ M_recovers h1 o v1 v2 = some (v, h2) ∧ WRz T h2 o0 o (k + 1) := by
  rcases w with w | w
  · obtain ⟨v, h1, h2, a, b, c⟩ := wt_recovers ho hk5 w
    exact ⟨v, h1, h2, a, b, Or.inl c⟩
  · obtain ⟨v, h1, h2, a, b, c⟩ := wu_recovers  w
    exact ⟨v, h1, h2, a, b, Or.inr c⟩
theorem wz_flips {v1 : Int} (ho : o = o0 + 505) (hk5 : k < 512) (w : WRz T h o0 o k) : ∃ v h1 h2, G_flips T h o0 v1 = some (v, h1) ∧ M_flips h1 o v1 = some (v, h2) ∧ WRz T h2 o0 o (k + 1) := by
  rcases w with w | w
  · obtain ⟨v, h1, h2, a, b, c⟩ := wt_flips ho hk5 w
    exact ⟨v, h1, h2, a, b, Or.inl c⟩
  · obtain ⟨v, h1, h2, a, b, c⟩ := wu_flips  w
    exact ⟨v, h1, h2, a, b, Or.inr c⟩
theorem wz_see (ho : o = o0 + 505) (hk5 : k < 512) (w : WRz T h o0 o k) : ∃ v h1 h2, G_see T h o0 = some (v, h1) ∧ M_see h1 o = some (v, h2) ∧ WRz T h2 o0 o (k + 1) := by
  rcases w with w | w
  · obtain ⟨v, h1, h2, a, b, c⟩ := wt_see ho hk5 w
    exact ⟨v, h1, h2, a, b, Or.inl c⟩
  · obtain ⟨v, h1, h2, a, b, c⟩ := wu_see ho w
    exact ⟨v, h1, h2, a, b, Or.inr c⟩
theorem wz_arrived {v1 : Int} (ho : o = o0 + 505) (hk5 : k < 512) (w : WRz T h o0 o k) : ∃ v h1 h2, G_arrived T h o0 v1 = some (v, h1) ∧ M_arrived h1 o v1 = some (v, h2) ∧ WRz T h2 o0 o (k + 1) := by
  rcases w with w | w
  · obtain ⟨v, h1, h2, a, b, c⟩ := wt_arrived ho hk5 w
    exact ⟨v, h1, h2, a, b, Or.inl c⟩
  · obtain ⟨v, h1, h2, a, b, c⟩ := wu_arrived  w
    exact ⟨v, h1, h2, a, b, Or.inr c⟩
theorem wz_tells {v1 : Int} (ho : o = o0 + 505) (hk5 : k < 512) (w : WRz T h o0 o k) : ∃ v h1 h2, G_tells T h o0 v1 = some (v, h1) ∧ M_tells h1 o v1 = some (v, h2) ∧ WRz T h2 o0 o (k + 1) := by
  rcases w with w | w
  · obtain ⟨v, h1, h2, a, b, c⟩ := wt_tells ho hk5 w
    exact ⟨v, h1, h2, a, b, Or.inl c⟩
  · obtain ⟨v, h1, h2, a, b, c⟩ := wu_tells  w
    exact ⟨v, h1, h2, a, b, Or.inr c⟩
theorem wz_append {v1 v2 v3 : Int} (ho : o = o0 + 505) (hk5 : k < 512) (w : WRz T h o0 o k) : ∃ v h1 h2, G_append T h o0 v1 v2 v3 = some (v, h1) ∧ M_append h1 o v1 v2 v3 = some (v, h2) ∧ WRz T h2 o0 o (k + 1) := by
  rcases w with w | w
  · obtain ⟨v, h1, h2, a, b, c⟩ := wt_append ho hk5 w
    exact ⟨v, h1, h2, a, b, Or.inl c⟩
  · obtain ⟨v, h1, h2, a, b, c⟩ := wu_append ho w
    exact ⟨v, h1, h2, a, b, Or.inr c⟩
theorem wz_waits {v1 v2 : Int} (ho : o = o0 + 505) (hk5 : k < 512) (w : WRz T h o0 o k) : ∃ v h1 h2, G_waits T h o0 v1 v2 = some (v, h1) ∧ M_waits h1 o v1 v2 = some (v, h2) ∧ WRz T h2 o0 o (k + 1) := by
  rcases w with w | w
  · obtain ⟨v, h1, h2, a, b, c⟩ := wt_waits ho hk5 w
    exact ⟨v, h1, h2, a, b, Or.inl c⟩
  · obtain ⟨v, h1, h2, a, b, c⟩ := wu_waits ho w
    exact ⟨v, h1, h2, a, b, Or.inr c⟩
theorem wz_ticks {v1 : Int} (n1 : jI32 v1) (ho : o = o0 + 505) (hk5 : k < 512) (w : WRz T h o0 o k) : ∃ v h1 h2, G_ticks T h o0 v1 = some (v, h1) ∧ M_ticks h1 o v1 = some (v, h2) ∧ WRz T h2 o0 o (k + 1) := by
  rcases w with w | w
  · obtain ⟨v, h1, h2, a, b, c⟩ := wt_ticks n1 ho hk5 w
    exact ⟨v, h1, h2, a, b, Or.inl c⟩
  · obtain ⟨v, h1, h2, a, b, c⟩ := wu_ticks ho w
    exact ⟨v, h1, h2, a, b, Or.inr c⟩
theorem wz_chance {v1 : Int} (n1 : jI32 v1) (ho : o = o0 + 505) (hk5 : k < 512) (w : WRz T h o0 o k) : ∃ v h1 h2, G_chance T h o0 v1 = some (v, h1) ∧ M_chance h1 o v1 = some (v, h2) ∧ WRz T h2 o0 o (k + 1) := by
  rcases w with w | w
  · obtain ⟨v, h1, h2, a, b, c⟩ := wt_chance n1 ho hk5 w
    exact ⟨v, h1, h2, a, b, Or.inl c⟩
  · obtain ⟨v, h1, h2, a, b, c⟩ := wu_chance ho w
    exact ⟨v, h1, h2, a, b, Or.inr c⟩
theorem wz_snap (ho : o = o0 + 505) (hk5 : k < 512) (w : WRz T h o0 o k) : ∃ v h1 h2, G_snap T h o0 = some (v, h1) ∧ M_snap h1 o = some (v, h2) ∧ WRz T h2 o0 o (k + 1) := by
  rcases w with w | w
  · obtain ⟨v, h1, h2, a, b, c⟩ := wt_snap ho hk5 w
    exact ⟨v, h1, h2, a, b, Or.inl c⟩
  · obtain ⟨v, h1, h2, a, b, c⟩ := wu_snap ho w
    exact ⟨v, h1, h2, a, b, Or.inr c⟩
theorem wz_crash {v1 : Int} (ho : o = o0 + 505) (hk5 : k < 512) (w : WRz T h o0 o k) : ∃ v h1 h2, G_crash T h o0 v1 = some (v, h1) ∧ M_crash h1 o v1 = some (v, h2) ∧ WRz T h2 o0 o (k + 1) := by
  rcases w with w | w
  · obtain ⟨v, h1, h2, a, b, c⟩ := wt_crash ho hk5 w
    exact ⟨v, h1, h2, a, b, Or.inl c⟩
  · obtain ⟨v, h1, h2, a, b, c⟩ := wu_crash ho w
    exact ⟨v, h1, h2, a, b, Or.inr c⟩
theorem wz_giveUp (ho : o = o0 + 505) (hk5 : k < 512) (w : WRz T h o0 o k) : ∃ v h1 h2, G_giveUp T h o0 = some (v, h1) ∧ M_giveUp h1 o = some (v, h2) ∧ WRz T h2 o0 o (k + 1) := by
  rcases w with w | w
  · obtain ⟨v, h1, h2, a, b, c⟩ := wt_giveUp ho hk5 w
    exact ⟨v, h1, h2, a, b, Or.inl c⟩
  · obtain ⟨v, h1, h2, a, b, c⟩ := wu_giveUp ho w
    exact ⟨v, h1, h2, a, b, Or.inr c⟩
theorem wz_flip {v1 v2 : Int} (ho : o = o0 + 505) (hk5 : k < 512) (w : WRz T h o0 o k) : ∃ v h1 h2, G_flip T h o0 v1 v2 = some (v, h1) ∧ M_flip h1 o v1 v2 = some (v, h2) ∧ WRz T h2 o0 o (k + 1) := by
  rcases w with w | w
  · obtain ⟨v, h1, h2, a, b, c⟩ := wt_flip ho hk5 w
    exact ⟨v, h1, h2, a, b, Or.inl c⟩
  · obtain ⟨v, h1, h2, a, b, c⟩ := wu_flip ho w
    exact ⟨v, h1, h2, a, b, Or.inr c⟩
theorem wz_undo (ho : o = o0 + 505) (hk5 : k < 512) (w : WRz T h o0 o k) : ∃ v h1 h2, G_undo T h o0 = some (v, h1) ∧ M_undo h1 o = some (v, h2) ∧ WRz T h2 o0 o (k + 1) := by
  rcases w with w | w
  · obtain ⟨v, h1, h2, a, b, c⟩ := wt_undo ho hk5 w
    exact ⟨v, h1, h2, a, b, Or.inl c⟩
  · obtain ⟨v, h1, h2, a, b, c⟩ := wu_undo ho w
    exact ⟨v, h1, h2, a, b, Or.inr c⟩
theorem wz_seed {v1 : Int} (n1 : jI32 v1) (ho : o = o0 + 505) (hk5 : k < 512) (w : WRz T h o0 o k) : ∃ v h1 h2, G_seed h o0 v1 = some (v, h1) ∧ M_seed h1 o v1 = some (v, h2) ∧ WRz T h2 o0 o (k + 1) := by
  rcases w with w | w
  · obtain ⟨v, h1, h2, a, b, c⟩ := wt_seed n1 ho hk5 w
    exact ⟨v, h1, h2, a, b, Or.inl c⟩
  · obtain ⟨v, h1, h2, a, b, c⟩ := wu_seed n1 ho w
    exact ⟨v, h1, h2, a, b, Or.inr c⟩
theorem wz_ask (ho : o = o0 + 505) (hk5 : k < 512) (w : WRz T h o0 o k) : ∃ v h1 h2, G_ask T h o0 = some (v, h1) ∧ M_ask h1 o = some (v, h2) ∧ WRz T h2 o0 o (k + 1) := by
  rcases w with w | w
  · obtain ⟨v, h1, h2, a, b, c⟩ := wt_ask ho w
    exact ⟨v, h1, h2, a, b, Or.inl c⟩
  · obtain ⟨v, h1, h2, a, b, c⟩ := wu_ask ho w
    exact ⟨v, h1, h2, a, b, Or.inr c⟩
theorem wz_image (ho : o = o0 + 505) (hk5 : k < 512) (w : WRz T h o0 o k) : ∃ v h1 h2, G_image T h o0 = some (v, h1) ∧ M_image h1 o = some (v, h2) ∧ WRz T h2 o0 o (k + 1) := by
  rcases w with w | w
  · obtain ⟨v, h1, h2, a, b, c⟩ := wt_image ho hk5 w
    exact ⟨v, h1, h2, a, b, Or.inl c⟩
  · obtain ⟨v, h1, h2, a, b, c⟩ := wu_image  w
    exact ⟨v, h1, h2, a, b, Or.inr c⟩
theorem wz_octet {v1 : Int} (w : WRz T h o0 o k) : ∃ v, G_octet h o0 v1 = some v ∧ M_octet h o v1 = some v ∧ WRz T h o0 o (k + 1) := by
  rcases w with w | w
  · obtain ⟨v, a, b, c⟩ := wt_octet w
    exact ⟨v, a, b, Or.inl c⟩
  · obtain ⟨v, a, b, c⟩ := wu_octet w
    exact ⟨v, a, b, Or.inr c⟩
theorem wz_on (ho : o = o0 + 505) (hk5 : k < 512) (w : WRz T h o0 o k) : ∃ v h1 h2, G_on T h o0 = some (v, h1) ∧ M_on h1 o = some (v, h2) ∧ WRz T h2 o0 o (k + 1) := by
  rcases w with w | w
  · obtain ⟨v, h1, h2, a, b, c⟩ := wt_on ho hk5 w
    exact ⟨v, h1, h2, a, b, Or.inl c⟩
  · obtain ⟨v, h1, h2, a, b, c⟩ := wu_on ho w
    exact ⟨v, h1, h2, a, b, Or.inr c⟩
theorem wz_status {v1 : Int} (w : WRz T h o0 o k) : ∃ v, G_status h o0 v1 = some v ∧ M_status h o v1 = some v ∧ WRz T h o0 o (k + 1) := by
  rcases w with w | w
  · obtain ⟨v, a, b, c⟩ := wt_status w
    exact ⟨v, a, b, Or.inl c⟩
  · obtain ⟨v, a, b, c⟩ := wu_status w
    exact ⟨v, a, b, Or.inr c⟩
end BTH
