/-! Processes and descriptors by number. -/
theorem isPr {pr : Int32} (h : ¬ sp_isProcess pr = 0) : ∃ n, n < 15 ∧ pr = nI n := by
  unfold sp_isProcess at h
  by_cases h1 : pr < 0
  · rw [if_pos h1] at h; exact absurd rfl h
  rw [if_neg h1] at h
  by_cases h2 : (15 : Int32) ≤ pr
  · rw [if_pos h2] at h; exact absurd rfl h
  rcases pk_ix pr (n := 15) (by decide) with q | q | ⟨j, hj, e⟩
  · exact absurd q h1
  · exact absurd q h2
  · exact ⟨j, hj, e⟩
theorem isDe {x : Int32} (h : ¬ sp_isDescriptor x = 0) : ∃ n, n < 16 ∧ x = nI n := by
  unfold sp_isDescriptor at h
  by_cases h1 : x < 0
  · rw [if_pos h1] at h; exact absurd rfl h
  rw [if_neg h1] at h
  by_cases h2 : (16 : Int32) ≤ x
  · rw [if_pos h2] at h; exact absurd rfl h
  rcases pk_ix x (n := 16) (by decide) with q | q | ⟨j, hj, e⟩
  · exact absurd q h1
  · exact absurd q h2
  · exact ⟨j, hj, e⟩
theorem ix15 (n q : Nat) : (nI n * (16 : Int32)) + nI q = nI (n * 16 + q) := by
  rw [show (16 : Int32) = nI 16 from rfl, pk_mul, nI_add]
theorem dk_in {pr x : Int32} (hp : ¬ sp_isProcess pr = 0) (hd : ¬ sp_isDescriptor x = 0) : vp_in ((pr * (16 : Int32)) + x) 240 := by
  obtain ⟨n, hn, rfl⟩ := isPr hp
  obtain ⟨q, hq, rfl⟩ := isDe hd
  rw [ix15]
  exact vp_in_nI (by omega) (by decide)
