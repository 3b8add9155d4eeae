/-! Pure: what both sides find. -/
theorem RR_0 {d : DK} {mo : MK} {T : Nat} (h : RR d mo T) : RR d (u2 mo 0 0 (0 : Int32)) T :=
  ⟨RF_c rfl (fun _ _ _ => rfl) (fun _ _ => rfl) (fun c h1 h2 => u2_off (by omega)) h.1, RL_c rfl rfl (u2_off (by decide)) (u2_off (by decide)) h.2.1, RC_c (fun _ _ _ => rfl) (u2_off (by decide)) (u2_off (by decide)) (u2_off (by decide)) h.2.2.1, RS_c (Nat.le_refl _) rfl rfl (u2_off (by decide)) (u2_off (by decide)) h.2.2.2⟩
theorem isP_eq (pr : Int32) : sp_isProcess pr = sp_M_isPlace pr := rfl
theorem pr_1 {p : Nat} (hp : p < 15) : sp_M_isPlace (nI p) = 1 := by
  unfold sp_M_isPlace
  rw [if_neg (nI_pos (by omega)), if_neg (ge_lit (b := (15 : Int32)) (B := 15) rfl (by decide) hp)]
theorem pr_01 (pr : Int32) : sp_M_isPlace pr = 0 ∨ ∃ p, p < 15 ∧ pr = nI p := by
  by_cases h : sp_M_isPlace pr = 0
  · exact Or.inl h
  · exact Or.inr (isPl h)
theorem de_1 {q : Nat} (hq : q < 16) : sp_isDescriptor (nI q) = 1 := by
  unfold sp_isDescriptor
  rw [if_neg (nI_pos (by omega)), if_neg (ge_lit (b := (16 : Int32)) (B := 16) rfl (by decide) hq)]
theorem de_01 (x : Int32) : (x < 0 ∨ (16 : Int32) ≤ x) ∧ sp_isDescriptor x = 0 ∨ ∃ q, q < 16 ∧ x = nI q := by
  rcases pk_ix x (n := 16) (by decide) with h | h | ⟨j, hj, e⟩
  · exact Or.inl ⟨Or.inl h, by unfold sp_isDescriptor; rw [if_pos h]⟩
  · refine Or.inl ⟨Or.inr h, ?_⟩
    unfold sp_isDescriptor
    split
    · rfl
    · rw [if_pos (show (16 : Int32) ≤ x from h)]
  · exact Or.inr ⟨j, hj, e⟩
theorem ix15c {p x : Nat} (hp : p < 15) (hx : x < 16) : ((nI p * (16 : Int32)) + nI x).toNatClampNeg = 16 * p + x := by
  rw [ix15, nI_clamp (by omega)]
  omega
theorem n01 : ¬ (1 : Int32) = 0 := by decide
theorem fo_eq {d : DK} {p q : Nat} (hp : p < 15) (hq : q < 16) : sp_fileOf d (nI p) (nI q) = d.2.1 (16 * p + q) := by
  unfold sp_fileOf
  rw [isP_eq, pr_1 hp, if_neg n01, de_1 hq, if_neg n01, ix15c hp hq]
  cases d.2.1 (16 * p + q) <;> rfl
theorem fo_n1 {d : DK} {pr x : Int32} (h : sp_M_isPlace pr = 0) : sp_fileOf d pr x = none := by
  unfold sp_fileOf
  rw [isP_eq, if_pos h]
theorem fo_n2 {d : DK} {pr x : Int32} (h : sp_isDescriptor x = 0) : sp_fileOf d pr x = none := by
  unfold sp_fileOf
  split
  · rfl
  · rfl
theorem mfi_eq {mo : MK} {p q : Nat} (hp : p < 15) (hq : q < 16) : sp_M_file mo (nI p) (nI q) = mo 5 (16 * p + q) - 1 := by
  unfold sp_M_file
  rw [pr_1 hp, if_neg n01, if_neg (nI_pos (by omega)), if_neg (ge_lit (b := (16 : Int32)) (B := 16) rfl (by decide) hq), ix16c hp hq]
/-- both sides find the same file at a descriptor, or none -/
theorem fo_cases {d : DK} {mo : MK} (h : RF d mo) (pr x : Int32) : (sp_fileOf d pr x = none ∧ sp_M_file mo pr x = -1) ∨ ∃ p q i, p < 15 ∧ q < 16 ∧ pr = nI p ∧ x = nI q ∧ d.2.1 (16 * p + q) = some i ∧ sp_fileOf d pr x = some i ∧ sp_M_file mo pr x = nI i.val := by
  rcases pr_01 pr with h1 | ⟨p, hp, rfl⟩
  · refine Or.inl ⟨fo_n1 h1, ?_⟩
    unfold sp_M_file
    rw [if_pos h1]
  rcases de_01 x with ⟨h2, h3⟩ | ⟨q, hq, rfl⟩
  · refine Or.inl ⟨fo_n2 h3, ?_⟩
    unfold sp_M_file
    rw [pr_1 hp, if_neg n01]
    rcases h2 with h2 | h2
    · rw [if_pos h2]
    · split <;> rfl
  · have e := h.1 (16 * p + q) (by omega)
    rw [fo_eq hp hq, mfi_eq hp hq, e]
    cases hc : d.2.1 (16 * p + q) with
    | none => exact Or.inl ⟨rfl, by decide⟩
    | some i => exact Or.inr ⟨p, q, i, hp, hq, rfl, rfl, hc, rfl, nI_pred i.val⟩
def pd (d : DK) (p x : Nat) : Bool := (d.2.1 (16 * p + x)).isSome
theorem fd_eq {d : DK} {p st : Nat} (hp : p < 15) (hst : st ≤ 16) : sp_freeDescriptor d (nI p) st = if sr (pd d p) (16 - st) st < 16 then nI (sr (pd d p) (16 - st) st) else -1 := by
  refine ls_eq (L := lp_freeDescriptor d (nI p)) (B := 16) (P := pd d p) (X := fun k => nI k) (Y := (-1 : Int32)) (fun n k hk => ?_) (17 - st) st (by omega) hst
  rw [lp_freeDescriptor]
  by_cases hB : k < 16
  · rw [if_neg (ge_lit (b := (16 : Int32)) (B := 16) rfl (by decide) hB), if_pos hB, fo_eq hp hB]
    cases hc : d.2.1 (16 * p + k) with
    | none => rw [oc_n, if_neg (by simp [pd, hc])]
    | some i => rw [oc_s, if_pos (by simp [pd, hc])]
  · rw [if_pos (le_litT (b := (16 : Int32)) (B := 16) (k := k) rfl (by omega) (by omega)), if_neg hB]
theorem ud_eq {d : DK} {p : Nat} (hp : p < 15) : sp_usedDescriptors d (nI p) = nI (ct (pd d p) 16) := by
  have h := lc_eq (L := lp_usedDescriptors d (nI p)) (B := 16) (P := pd d p) (fun n k acc hk => by
    rw [lp_usedDescriptors]
    by_cases hB : k < 16
    · rw [if_neg (ge_lit (b := (16 : Int32)) (B := 16) rfl (by decide) hB), if_pos hB, fo_eq hp hB]
      cases hc : d.2.1 (16 * p + k) with
      | none => rw [oc_n, if_neg (by simp [pd, hc]), nI_a0]
      | some i => rw [oc_s, if_pos (by simp [pd, hc])]
    · rw [if_pos (le_litT (b := (16 : Int32)) (B := 16) (k := k) rfl (by omega) (by omega)), if_neg hB]) 17 0 0 (by decide) (by decide)
  have e : sp_usedDescriptors d (nI p) = lp_usedDescriptors d (nI p) 17 0 (nI 0) := rfl
  rw [e, h, Nat.zero_add]
  rfl
def pg (d : DK) (i : Nat) : Bool := !decide (d.1 7 i = 0)
theorem fin_v {n k : Nat} [NeZero n] (h : k < n) : (Fin.ofNat n k).val = k := Nat.mod_eq_of_lt h
theorem ff_eq {d : DK} {st : Nat} (hst : st ≤ 32) : sp_freeFile d st = if sr (pg d) (32 - st) st < 32 then some (Fin.ofNat 32 (sr (pg d) (32 - st) st)) else none := by
  unfold sp_freeFile
  rw [if_pos (nI_pos' (by omega))]
  refine ls_eq (L := lp_freeFile d) (B := 32) (P := pg d) (X := fun k => some (Fin.ofNat 32 k)) (Y := none) (fun n k hk => ?_) (33 - st) st (by omega) hst
  rw [lp_freeFile]
  by_cases hB : k < 32
  · rw [if_neg (ge_lit (b := (32 : Int32)) (B := 32) rfl (by decide) hB), if_pos hB, nI_clamp (by omega), fin_v hB]
    by_cases hp : d.1 7 k = 0
    · rw [if_pos hp, if_neg (by simp [pg, hp])]
    · rw [if_neg hp, if_pos (by simp [pg, hp])]
  · rw [if_pos (le_litT (b := (32 : Int32)) (B := 32) (k := k) rfl (by omega) (by omega)), if_neg hB]
def pq (d : DK) (k : Nat) : Bool := decide (sp_Pipe_isGone d (Fin.ofNat 8 k) = 0)
theorem fp_eq (d : DK) : sp_freePipe d = if sr (pq d) 8 0 < 8 then some (Fin.ofNat 8 (sr (pq d) 8 0)) else none := by
  refine ls_eq (L := lp_freePipe d) (B := 8) (P := pq d) (X := fun k => some (Fin.ofNat 8 k)) (Y := none) (fun n k hk => ?_) 9 0 (by decide) (by decide)
  rw [lp_freePipe]
  by_cases hB : k < 8
  · rw [if_neg (ge_lit (b := (8 : Int32)) (B := 8) rfl (by decide) hB), if_pos hB, nI_clamp (by omega)]
    by_cases hp : sp_Pipe_isGone d (Fin.ofNat 8 k) = 0
    · rw [if_pos hp, if_pos (by simp [pq, hp])]
    · rw [if_neg hp, if_neg (by simp [pq, hp])]
  · rw [if_pos (le_litT (b := (8 : Int32)) (B := 8) (k := k) rfl (by omega) (by omega)), if_neg hB]
theorem nm_cn {d : DK} {mo : MK} (h : RF d mo) {i : Nat} (hi : i < 32) : sp_M_named mo (nI i) = nI (cn d.2.1 i) := by
  rw [mn_eq]
  refine congrArg nI (ct_congr 240 (fun k hk => ?_))
  rw [h.1 k hk, hv_nv, nI_1]
  have h1 := nv_le (d.2.1 k)
  by_cases e : nv (d.2.1 k) = i + 1
  · simp [e]
  · have : ¬ nI (nv (d.2.1 k)) = nI (i + 1) := by rw [nI_eq (by omega) (by omega)]; exact e
    simp [e, this]
theorem pf_cn {d : DK} {mo : MK} (h : RF d mo) {i : Nat} (hi : i < 32) : pf mo i = decide (0 < cn d.2.1 i) := by
  unfold pf
  have h1 := cn_le d.2.1 i
  rw [nm_cn h hi]
  by_cases e : cn d.2.1 i = 0
  · rw [e]; decide
  · have : ¬ nI (cn d.2.1 i) ≤ 0 := by rw [nI_le0 (by omega)]; exact e
    simp [this]
    omega
theorem pg_cn {d : DK} {mo : MK} (h : RF d mo) {i : Nat} (hi : i < 32) : pg d i = decide (0 < cn d.2.1 i) := by
  unfold pg
  have h1 := cn_le d.2.1 i
  rw [h.2.1 i hi]
  by_cases e : cn d.2.1 i = 0
  · rw [e]; decide
  · have : ¬ nI (cn d.2.1 i) = 0 := nI_ne0 (by omega) (by omega)
    simp [this]
    omega
theorem pu_pd {d : DK} {mo : MK} (h : RF d mo) {p x : Nat} (hp : p < 15) (hx : x < 16) : pu mo p x = pd d p x := by
  unfold pu pd
  rw [h.1 (16 * p + x) (by omega)]
  cases hc : d.2.1 (16 * p + x) with
  | none => decide
  | some i =>
    have := i.isLt
    have h2 : ¬ nI (i.val + 1) ≤ 0 := by rw [nI_le0 (by omega)]; omega
    show (!decide (nI (i.val + 1) ≤ 0)) = true
    simp [h2]
theorem me_lp (mo : MK) (kx sd : Int32) : ∀ n j fo, j ≤ 32 → j + n = 33 → (0 ≤ lp_M_end mo kx sd n j fo ↔ (0 ≤ fo ∨ ∃ f, j ≤ f ∧ f < 32 ∧ mo 6 f = 1 ∧ mo 7 f = kx ∧ mo 8 f = sd ∧ pf mo f = true))
  | 0, j, fo, h1, h2 => by omega
  | n + 1, j, fo, h1, h2 => by
    rw [lp_M_end]
    by_cases hB : j < 32
    · rw [if_neg (ge_lit (b := (32 : Int32)) (B := 32) rfl (by decide) hB), nI_clamp (by omega)]
      have ih := me_lp mo kx sd n (j + 1)
      have ext : (¬ (mo 6 j = 1 ∧ mo 7 j = kx ∧ mo 8 j = sd ∧ pf mo j = true)) → ((0 ≤ fo ∨ ∃ f, j + 1 ≤ f ∧ f < 32 ∧ mo 6 f = 1 ∧ mo 7 f = kx ∧ mo 8 f = sd ∧ pf mo f = true) ↔ (0 ≤ fo ∨ ∃ f, j ≤ f ∧ f < 32 ∧ mo 6 f = 1 ∧ mo 7 f = kx ∧ mo 8 f = sd ∧ pf mo f = true)) := by
        intro hn
        constructor
        · rintro (h | ⟨f, g1, g2⟩)
          · exact Or.inl h
          · exact Or.inr ⟨f, by omega, g2⟩
        · rintro (h | ⟨f, g1, g2⟩)
          · exact Or.inl h
          · by_cases e : f = j
            · subst e
              exact absurd g2.2 hn
            · exact Or.inr ⟨f, by omega, g2⟩
      by_cases c1 : mo 6 j = 1
      · rw [if_pos c1]
        by_cases c2 : mo 7 j = kx
        · rw [if_pos c2]
          by_cases c3 : mo 8 j = sd
          · rw [if_pos c3]
            by_cases c4 : sp_M_named mo (nI j) ≤ 0
            · rw [if_pos c4, ih fo (by omega) (by omega)]
              exact ext (fun q => by have := q.2.2.2; simp [pf, c4] at this)
            · rw [if_neg c4, ih (nI j) (by omega) (by omega)]
              constructor
              · intro _
                exact Or.inr ⟨j, Nat.le_refl _, hB, c1, c2, c3, by simp [pf, c4]⟩
              · intro _
                exact Or.inl (nI_pos' (by omega))
          · rw [if_neg c3, ih fo (by omega) (by omega)]
            exact ext (fun q => c3 q.2.2.1)
        · rw [if_neg c2, ih fo (by omega) (by omega)]
          exact ext (fun q => c2 q.2.1)
      · rw [if_neg c1, ih fo (by omega) (by omega)]
        exact ext (fun q => c1 q.1)
    · rw [if_pos (le_litT (b := (32 : Int32)) (B := 32) (k := j) rfl (by omega) (by omega))]
      constructor
      · intro h
        exact Or.inl h
      · rintro (h | ⟨f, g1, g2, -⟩)
        · exact h
        · omega
theorem me_iff {d : DK} {mo : MK} (h : RF d mo) (k : Nat) (sd : Int32) : 0 ≤ sp_M_end mo (nI k) sd ↔ ∃ i, isE d.2.1 mo k sd i := by
  have h1 := me_lp mo (nI k) sd 33 0 (-1) (by decide) (by decide)
  have e : sp_M_end mo (nI k) sd = lp_M_end mo (nI k) sd 33 0 (-1) := rfl
  rw [e, h1]
  constructor
  · rintro (g | ⟨f, g1, g2, g3, g4, g5, g6⟩)
    · exact absurd g (by decide)
    · rw [pf_cn h g2] at g6
      exact ⟨f, g2, by simpa using g6, g3, g4, g5⟩
  · rintro ⟨f, g2, g6, g3, g4, g5⟩
    exact Or.inr ⟨f, Nat.zero_le _, g2, g3, g4, g5, by rw [pf_cn h g2]; simpa using g6⟩
theorem en_cases {d : DK} {mo : MK} (h : RF d mo) {k c : Nat} {sd : Int32} (he : ES d mo k c sd) : (0 ≤ sp_M_end mo (nI k) sd ∧ d.1 c k = 1) ∨ (sp_M_end mo (nI k) sd < 0 ∧ d.1 c k = 0) := by
  rcases he with ⟨q1, i, q2, q3⟩ | ⟨q1, q2⟩
  · exact Or.inl ⟨(me_iff h k sd).mpr ⟨i, q2⟩, q1⟩
  · refine Or.inr ⟨?_, q1⟩
    apply Int32.not_le.mp
    intro g
    obtain ⟨i, hi⟩ := (me_iff h k sd).mp g
    exact q2 i hi
