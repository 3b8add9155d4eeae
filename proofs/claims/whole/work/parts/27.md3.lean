/-! Pure: taking back, reading: in range. -/
theorem bk_4 (mo : MK) {n : Nat} (e : mo 4 0 = nI n) : (sp_M_back mo) 4 0 = nI (n + 3) := by
  unfold sp_M_back
  rw [pt_4, pt_4, pt_4, u2_n (by omega), e, nI_1, nI_1, nI_1]
theorem bk_2 (mo : MK) : (sp_M_back mo) 2 0 = mo 2 0 - 1 := by
  unfold sp_M_back
  rw [pt_2, pt_2, pt_2, u2_s]
theorem bk_3 (mo : MK) : (sp_M_back mo) 3 = mo 3 := by
  unfold sp_M_back
  rw [pt_3, pt_3, pt_3, u2_off (by decide)]
theorem md_b1 {mo : MK} (hs : ∃ n, n + 500 < 2 ^ 30 ∧ mo 4 0 = nI n) : ∃ n, n + 3 < 2 ^ 30 ∧ (u2 mo 0 0 (0 : Int32)) 4 0 = nI n := by
  obtain ⟨n, h, e⟩ := hs
  exact ⟨n, by omega, by rw [u2_n (by omega)]; exact e⟩
theorem md_b3 {mo : MK} {i : Nat} {v w : Int32} (hs : ∃ n, n + 500 < 2 ^ 30 ∧ mo 4 0 = nI n) : ∃ n, n + 1 < 2 ^ 30 ∧ (u2 (u2 (u2 mo 0 0 (0 : Int32)) 13 i v) 2 0 w) 4 0 = nI n := by
  obtain ⟨n, h, e⟩ := hs
  exact ⟨n, by omega, by rw [u2_n (by omega), u2_n (by omega), u2_n (by omega)]; exact e⟩
theorem md_ln {mo : MK} (hw : ∃ dn t, dn ≤ t ∧ t ≤ 128 ∧ mo 3 0 = nI dn ∧ mo 2 0 = nI t) (h : ¬ (u2 mo 0 0 (0 : Int32)) 2 0 = 128) : vp_in ((u2 mo 0 0 (0 : Int32)) 2 0) 128 := by
  obtain ⟨dn, t, h1, h2, h3, h4⟩ := hw
  rw [u2_n (by omega), h4] at h ⊢
  have : t ≠ 128 := fun e => h (by rw [e]; rfl)
  exact vp_in_nI (by omega) (by decide)
def MWI (mo : MK) (j : Nat) : Prop := ∃ dn t sn, dn ≤ t ∧ t - dn + j ≤ 128 ∧ t ≤ 128 ∧ sn + 3 * (128 - j) + 3 < 2 ^ 30 ∧ mo 3 0 = nI dn ∧ mo 2 0 = nI t ∧ mo 4 0 = nI sn
theorem md_w0 {mo : MK} (hs : ∃ n, n + 500 < 2 ^ 30 ∧ mo 4 0 = nI n) (hw : ∃ dn t, dn ≤ t ∧ t ≤ 128 ∧ mo 3 0 = nI dn ∧ mo 2 0 = nI t) : MWI (u2 mo 0 0 (0 : Int32)) 0 := by
  obtain ⟨n, g1, g2⟩ := hs
  obtain ⟨dn, t, h1, h2, h3, h4⟩ := hw
  exact ⟨dn, t, n, h1, by omega, h2, by omega, by rw [u2_n (by omega)]; exact h3, by rw [u2_n (by omega)]; exact h4, by rw [u2_n (by omega)]; exact g2⟩
theorem mw_gt {mo : MK} {j : Nat} (h : MWI mo j) (hc : ¬ (mo 2 0) ≤ (mo 3 0)) : ∃ dn t sn, dn < t ∧ t - dn + j ≤ 128 ∧ t ≤ 128 ∧ sn + 3 * (128 - j) + 3 < 2 ^ 30 ∧ mo 3 0 = nI dn ∧ mo 2 0 = nI t ∧ mo 4 0 = nI sn := by
  obtain ⟨dn, t, sn, h1, h2, h3, h4, h5, h6, h7⟩ := h
  refine ⟨dn, t, sn, ?_, h2, h3, h4, h5, h6, h7⟩
  rw [h5, h6] at hc
  apply Nat.lt_of_not_le
  intro hle
  exact hc (nI_le hle (by omega))
theorem md_wadv {mo : MK} {j : Nat} (h : MWI mo j) (hc : ¬ (mo 2 0) ≤ (mo 3 0)) : j + 1 ≤ 128 := by
  obtain ⟨dn, t, sn, h1, h2, h3, h4, h5, h6, h7⟩ := mw_gt h hc
  omega
theorem md_b2 {mo : MK} {j : Nat} (h : MWI mo j) (hc : ¬ (mo 2 0) ≤ (mo 3 0)) : ∃ n, n + 3 < 2 ^ 30 ∧ mo 4 0 = nI n := by
  obtain ⟨dn, t, sn, h1, h2, h3, h4, h5, h6, h7⟩ := mw_gt h hc
  exact ⟨sn, by omega, h7⟩
theorem md_w1 {mo : MK} {j : Nat} (h : MWI mo j) (hc : ¬ (mo 2 0) ≤ (mo 3 0)) : MWI (sp_M_back mo) (j + 1) := by
  obtain ⟨dn, t, sn, h1, h2, h3, h4, h5, h6, h7⟩ := mw_gt h hc
  refine ⟨dn, t - 1, sn + 3, by omega, by omega, by omega, by omega, by rw [bk_3]; exact h5, ?_, bk_4 mo h7⟩
  rw [bk_2, h6]
  obtain ⟨u, rfl⟩ : ∃ u, t = u + 1 := ⟨t - 1, by omega⟩
  rw [nI_pred]
  rfl
theorem md_rin {mo : MK} (hw : ∃ dn t, dn ≤ t ∧ t ≤ 128 ∧ mo 3 0 = nI dn ∧ mo 2 0 = nI t) (h : ¬ (u2 mo 0 0 (0 : Int32)) 3 0 = 0) {v : Int32} : ∃ t, t ≤ 127 ∧ (u2 (u2 (u2 mo 0 0 (0 : Int32)) 3 0 v) 2 0 (((u2 (u2 mo 0 0 (0 : Int32)) 3 0 v) 2 0) - (1 : Int32))) 2 0 = nI t := by
  obtain ⟨dn, t, h1, h2, h3, h4⟩ := hw
  rw [u2_n (by omega), h3] at h
  have : dn ≠ 0 := fun e => h (by rw [e]; rfl)
  obtain ⟨u, rfl⟩ : ∃ u, t = u + 1 := ⟨t - 1, by omega⟩
  exact ⟨u, by omega, by rw [u2_s, u2_n (by omega), u2_n (by omega), h4, nI_pred]⟩
theorem md_rlt {mo : MK} {j : Nat} (h : ∃ t, t ≤ 127 ∧ mo 2 0 = nI t) (hc : ¬ (mo 2 0) ≤ nI j) (hj : j ≤ 127) : j + 1 ≤ 127 := by
  obtain ⟨t, h1, h2⟩ := h
  rw [h2] at hc
  have : ¬ t ≤ j := fun e => hc (nI_le e (by omega))
  omega
theorem md_r1 {mo : MK} {j : Nat} (h : ∃ t, t ≤ 127 ∧ mo 2 0 = nI t) (hc : ¬ (mo 2 0) ≤ nI j) (hj : j ≤ 127) : vp_in (nI (j + 1)) 128 := vp_in_nI (by have := md_rlt h hc hj; omega) (by decide)
theorem md_r2 {mo : MK} {j : Nat} (h : ∃ t, t ≤ 127 ∧ mo 2 0 = nI t) (hc : ¬ (mo 2 0) ≤ nI j) (hj : j ≤ 127) : vp_in (nI j) 128 := vp_in_nI (by have := md_rlt h hc hj; omega) (by decide)
theorem md_rinv {mo : MK} {i : Nat} {v : Int32} (h : ∃ t, t ≤ 127 ∧ mo 2 0 = nI t) : ∃ t, t ≤ 127 ∧ (u2 mo 13 i v) 2 0 = nI t := by
  obtain ⟨t, h1, h2⟩ := h
  exact ⟨t, h1, by rw [u2_n (by omega)]; exact h2⟩
