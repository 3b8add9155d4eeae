/-! Pure: closing, and the console's loops, in range. -/
theorem cl_2 (mo : MK) (pr x : Int32) : (sp_M_closes mo pr x).2 = u2 mo 5 (((16 : Int32) * pr) + x).toNatClampNeg (0 : Int32) := by
  unfold sp_M_closes
  split
  · split <;> rfl
  · rfl
theorem md_left {mo : MK} {pr x : Int32} {j : Nat} (h : ∃ t, t ≤ j ∧ mo 1 0 = nI t) (hj : j ≤ 16) (hl : ¬ (16 : Int32) ≤ nI j) : vp_in ((sp_M_closes mo pr x).2 1 0) 16 := by
  obtain ⟨t, ht, e⟩ := h
  have h1 := lp_adv (b := (16 : Int32)) (B := 16) rfl (by decide) hj hl
  rw [cl_2, u2_n (by omega), e]
  exact vp_in_nI (by omega) (by decide)
theorem md_ca0 {mo : MK} (h : MN mo) : MN (u2 (u2 mo 0 0 (0 : Int32)) 1 0 (0 : Int32)) ∧ ∃ t, t ≤ 0 ∧ (u2 (u2 mo 0 0 (0 : Int32)) 1 0 (0 : Int32)) 1 0 = nI t :=
  ⟨MN_c (u2_off (by decide)) (MN_0 h), 0, Nat.le_refl 0, u2_s⟩
theorem md_ca1 {mo : MK} {j : Nat} (h : MN mo ∧ ∃ t, t ≤ j ∧ mo 1 0 = nI t) : MN mo ∧ ∃ t, t ≤ j + 1 ∧ mo 1 0 = nI t := by
  obtain ⟨h1, t, h2, h3⟩ := h
  exact ⟨h1, t, by omega, h3⟩
theorem md_ca2 {mo : MK} {j : Nat} {pr x : Int32} (h : MN mo ∧ ∃ t, t ≤ j ∧ mo 1 0 = nI t) : MN (sp_M_closes mo pr x).2 ∧ ∃ t, t ≤ j + 1 ∧ (sp_M_closes mo pr x).2 1 0 = nI t := by
  obtain ⟨h1, t, h2, h3⟩ := h
  rw [cl_2]
  exact ⟨MN_up (v := 0) h1 (by omega), t, by omega, by rw [u2_n (by omega)]; exact h3⟩
theorem md_ca3 {mo : MK} {j i : Nat} {pr x v : Int32} (h : MN mo ∧ ∃ t, t ≤ j ∧ mo 1 0 = nI t) : MN (u2 (u2 (sp_M_closes mo pr x).2 12 i v) 1 0 (((u2 (sp_M_closes mo pr x).2 12 i v) 1 0) + (1 : Int32))) ∧ ∃ t, t ≤ j + 1 ∧ (u2 (u2 (sp_M_closes mo pr x).2 12 i v) 1 0 (((u2 (sp_M_closes mo pr x).2 12 i v) 1 0) + (1 : Int32))) 1 0 = nI t := by
  obtain ⟨h1, t, h2, h3⟩ := h
  rw [cl_2]
  refine ⟨MN_c (u2_off (by decide)) (MN_c (u2_off (by decide)) (MN_up (v := 0) h1 (by omega))), t + 1, by omega, ?_⟩
  rw [u2_s, u2_n (by omega), u2_n (by omega), h3, nI_1]
theorem md_q1 {mo : MK} {v : Int32} (hs : ∃ n, n + 3 < 2 ^ 30 ∧ mo 4 0 = nI n) : ∃ n, n + 1 < 2 ^ 30 ∧ (u2 mo 2 0 v) 4 0 = nI n := by
  obtain ⟨n, h, e⟩ := hs
  exact ⟨n, by omega, by rw [u2_n (by omega)]; exact e⟩
theorem pt_4 (mo : MK) (b : Int32) : (sp_M_puts mo b) 4 0 = mo 4 0 + 1 := by
  unfold sp_M_puts
  rw [u2_s, u2_n (by omega)]
theorem pt_2 (mo : MK) (b : Int32) : (sp_M_puts mo b) 2 = mo 2 := by
  unfold sp_M_puts
  rw [u2_off (by decide), u2_off (by decide)]
theorem pt_3 (mo : MK) (b : Int32) : (sp_M_puts mo b) 3 = mo 3 := by
  unfold sp_M_puts
  rw [u2_off (by decide), u2_off (by decide)]
theorem md_q2 {mo : MK} {v b : Int32} (hs : ∃ n, n + 3 < 2 ^ 30 ∧ mo 4 0 = nI n) : ∃ n, n + 1 < 2 ^ 30 ∧ (sp_M_puts (u2 mo 2 0 v) b) 4 0 = nI n := by
  obtain ⟨n, h, e⟩ := hs
  exact ⟨n + 1, by omega, by rw [pt_4, u2_n (by omega), e, nI_1]⟩
theorem md_q3 {mo : MK} {v b b2 : Int32} (hs : ∃ n, n + 3 < 2 ^ 30 ∧ mo 4 0 = nI n) : ∃ n, n + 1 < 2 ^ 30 ∧ (sp_M_puts (sp_M_puts (u2 mo 2 0 v) b) b2) 4 0 = nI n := by
  obtain ⟨n, h, e⟩ := hs
  exact ⟨n + 2, by omega, by rw [pt_4, pt_4, u2_n (by omega), e, nI_1, nI_1]⟩
