theorem isPl {pr : Int32} (h : ¬ sp_M_isPlace pr = 0) : ∃ n, n < 15 ∧ pr = nI n := by
  unfold sp_M_isPlace at h
  by_cases h1 : pr < 0
  · rw [if_pos h1] at h; exact absurd rfl h
  rw [if_neg h1] at h
  by_cases h2 : (15 : Int32) ≤ pr
  · rw [if_pos h2] at h; exact absurd rfl h
  rcases pk_ix pr (n := 15) (by decide) with q | q | ⟨j, hj, e⟩
  · exact absurd q h1
  · exact absurd q h2
  · exact ⟨j, hj, e⟩
theorem ix16 (n q : Nat) : ((16 : Int32) * nI n) + nI q = nI (16 * n + q) := by
  rw [show (16 : Int32) = nI 16 from rfl, pk_mul, nI_add]
theorem md_inj {pr : Int32} {j : Nat} (hp : ¬ sp_M_isPlace pr = 0) (hj : j + 1 ≤ 16) : vp_in (((16 : Int32) * pr) + nI j) 240 := by
  obtain ⟨n, hn, rfl⟩ := isPl hp
  rw [ix16]
  exact vp_in_nI (by omega) (by decide)
theorem md_in {pr x : Int32} (hp : ¬ sp_M_isPlace pr = 0) (h0 : ¬ x < 0) (h1 : ¬ (16 : Int32) ≤ x) : vp_in (((16 : Int32) * pr) + x) 240 := by
  rcases pk_ix x (n := 16) (by decide) with q | q | ⟨j, hj, rfl⟩
  · exact absurd q h0
  · exact absurd q h1
  · exact md_inj hp hj
