/-! The descriptor that is found is one of the sixteen. -/
theorem fd_lp (d : DK) (pr : Int32) : ∀ n j, j ≤ 16 → j + n = 17 → lp_freeDescriptor d pr n j = -1 ∨ ∃ r, r < 16 ∧ lp_freeDescriptor d pr n j = nI r
  | 0, j, h1, h2 => by omega
  | n + 1, j, h1, h2 => by
    rw [lp_freeDescriptor]
    by_cases hc : (16 : Int32) ≤ nI j
    · rw [if_pos hc]
      exact Or.inl rfl
    · rw [if_neg hc]
      have hj := lp_adv (b := (16 : Int32)) (B := 16) rfl (by decide) h1 hc
      cases hq : sp_fileOf d pr (nI j) with
      | none =>
        rw [oc_n]
        exact Or.inr ⟨j, hj, rfl⟩
      | some i =>
        rw [oc_s]
        exact fd_lp d pr n (j + 1) (by omega) (by omega)
theorem fd_of {d : DK} {pr : Int32} {st : Nat} (hst : st ≤ 16) (h : ¬ sp_freeDescriptor d pr st = -1) : ∃ r, r < 16 ∧ sp_freeDescriptor d pr st = nI r := by
  rcases fd_lp d pr (17 - st) st hst (by omega) with q | q
  · exact absurd q h
  · exact q
theorem fd_next {d : DK} {pr : Int32} (h : ¬ sp_freeDescriptor d pr 0 = -1) : sp_freeDescriptor d pr 0 + 1 = nI ((sp_freeDescriptor d pr 0).toNatClampNeg + 1) := by
  obtain ⟨r, hr, e⟩ := fd_of (by decide) h
  rw [e, nI_clamp (by omega), nI_1]
theorem fd_le {d : DK} {pr : Int32} (h : ¬ sp_freeDescriptor d pr 0 = -1) : (sp_freeDescriptor d pr 0).toNatClampNeg + 1 ≤ 16 := by
  obtain ⟨r, hr, e⟩ := fd_of (by decide) h
  rw [e, nI_clamp (by omega)]
  omega
