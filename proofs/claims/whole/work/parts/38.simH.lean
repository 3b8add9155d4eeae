/-! Pure: a new pipe. -/
theorem RF_pipe {d D : DK} {mo M : MK} {k0 k1 : Nat} {i0 i1 : Fin 32} {K : Fin 8} (h : RF d mo) (hk0 : k0 < 240) (hk1 : k1 < 240) (hk : k0 ≠ k1) (hi : i0.val ≠ i1.val) (hn0 : d.2.1 k0 = none) (hn1 : d.2.1 k1 = none) (hc0 : cn d.2.1 i0.val = 0) (hc1 : cn d.2.1 i1.val = 0) (hg0 : d.1 10 K.val = 0) (hg1 : d.1 11 K.val = 0)
    (e21 : D.2.1 = va_up (va_up d.2.1 k0 (some i0)) k1 (some i1)) (r0 : D.2.2 i0.val = some K) (r1 : D.2.2 i1.val = some K) (rj : ∀ j, j ≠ i0.val → j ≠ i1.val → D.2.2 j = d.2.2 j)
    (dn : ∀ c j, ¬ (2 ≤ c ∧ c ≤ 7 ∧ (j = i0.val ∨ j = i1.val)) → ¬ (8 ≤ c ∧ c ≤ 11 ∧ j = K.val) → D.1 c j = d.1 c j)
    (x2 : D.1 2 i0.val = 1) (x4 : D.1 4 i0.val = 1) (x5 : D.1 5 i0.val = 0) (x6 : D.1 6 i0.val = 0) (x7 : D.1 7 i0.val = nI 1) (y2 : D.1 2 i1.val = 1) (y4 : D.1 4 i1.val = 0) (y5 : D.1 5 i1.val = 1) (y6 : D.1 6 i1.val = 0) (y7 : D.1 7 i1.val = nI 1)
    (z8 : D.1 8 K.val = 0) (z9 : D.1 9 K.val = 0) (z10 : D.1 10 K.val = 1) (z11 : D.1 11 K.val = 1)
    (m50 : M 5 k0 = nI (i0.val + 1)) (m51 : M 5 k1 = nI (i1.val + 1)) (mn : ∀ c j, ¬ (c = 5 ∧ (j = k0 ∨ j = k1)) → ¬ (6 ≤ c ∧ c ≤ 9 ∧ (j = i0.val ∨ j = i1.val)) → ¬ (c = 10 ∧ j = K.val) → M c j = mo c j)
    (u6 : M 6 i0.val = 1) (u7 : M 7 i0.val = nI K.val) (u8 : M 8 i0.val = 1) (u9 : M 9 i0.val = 0) (w6 : M 6 i1.val = 1) (w7 : M 7 i1.val = nI K.val) (w8 : M 8 i1.val = 2) (w9 : M 9 i1.val = 0) (m10 : M 10 K.val = 0) : RF D M := by
  obtain ⟨a1, a2, a3, a4, a5, a6⟩ := h
  have hK := K.isLt
  have hI0 := i0.isLt
  have hI1 := i1.isLt
  have hn1' : va_up d.2.1 k0 (some i0) k1 = none := by rw [va_up_ne _ _ (Ne.symm hk)]; exact hn1
  have hcn : ∀ j, cn D.2.1 j = cn d.2.1 j + (if i0.val = j then 1 else 0) + (if i1.val = j then 1 else 0) := fun j => by rw [e21, cn_add hk1 hn1', cn_add hk0 hn0]
  have c0 : cn D.2.1 i0.val = 1 := by rw [hcn, hc0, if_pos rfl, if_neg (Ne.symm hi)]
  have c1 : cn D.2.1 i1.val = 1 := by rw [hcn, hc1, if_pos rfl, if_neg hi]
  have cj : ∀ j, j ≠ i0.val → j ≠ i1.val → cn D.2.1 j = cn d.2.1 j := fun j g0 g1 => by rw [hcn, if_neg (Ne.symm g0), if_neg (Ne.symm g1), Nat.add_zero]
  have hEj : ∀ q sd j, j ≠ i0.val → j ≠ i1.val → (isE D.2.1 M q sd j ↔ isE d.2.1 mo q sd j) := by
    intro q sd j g0 g1
    unfold isE
    rw [cj j g0 g1, mn 6 j (by omega) (by omega) (by omega), mn 7 j (by omega) (by omega) (by omega), mn 8 j (by omega) (by omega) (by omega)]
  have hno : ∀ sd, sd = 1 ∨ sd = 2 → ∀ j, ¬ isE d.2.1 mo K.val sd j := by
    intro sd hs
    rcases hs with rfl | rfl
    · rcases a4 K.val hK with ⟨q1, -⟩ | ⟨-, q2⟩
      · rw [hg0] at q1; exact absurd q1 (by decide)
      · exact q2
    · rcases a5 K.val hK with ⟨q1, -⟩ | ⟨-, q2⟩
      · rw [hg1] at q1; exact absurd q1 (by decide)
      · exact q2
  have hE : ∀ q sd, q < 8 → q ≠ K.val → ∀ j, isE D.2.1 M q sd j ↔ isE d.2.1 mo q sd j := by
    intro q sd hq hne j
    by_cases g0 : j = i0.val
    · subst g0
      constructor
      · rintro ⟨-, -, -, z, -⟩
        rw [u7] at z
        exact absurd ((nI_eq (by omega) (by omega)).mp z).symm hne
      · rintro ⟨-, z, -⟩
        omega
    · by_cases g1 : j = i1.val
      · subst g1
        constructor
        · rintro ⟨-, -, -, z, -⟩
          rw [w7] at z
          exact absurd ((nI_eq (by omega) (by omega)).mp z).symm hne
        · rintro ⟨-, z, -⟩
          omega
      · exact hEj q sd j g0 g1
  refine ⟨fun q hq => ?_, fun j hj => ?_, fun j hj o => ?_, fun q hq => ?_, fun q hq => ?_, fun q hq o => ?_⟩
  · rw [e21]
    by_cases g1 : q = k1
    · subst g1
      rw [m51, va_up_self]
      rfl
    · rw [va_up_ne _ _ g1]
      by_cases g0 : q = k0
      · subst g0
        rw [m50, va_up_self]
        rfl
      · rw [va_up_ne _ _ g0, mn 5 q (by omega) (by omega) (by omega)]
        exact a1 q hq
  · by_cases g0 : j = i0.val
    · subst g0
      rw [x7, c0]
    · by_cases g1 : j = i1.val
      · subst g1
        rw [y7, c1]
      · rw [dn 7 j (by omega) (by omega), cj j g0 g1]
        exact a2 j hj
  · by_cases g0 : j = i0.val
    · subst g0
      exact ⟨by rw [x2, u6], by rw [x6, u9], by rw [x4, x5, u8]; exact Or.inl ⟨rfl, rfl, rfl⟩, Or.inl ⟨u6, by rw [u8]; decide, K, r0, u7⟩⟩
    · by_cases g1 : j = i1.val
      · subst g1
        exact ⟨by rw [y2, w6], by rw [y6, w9], by rw [y4, y5, w8]; exact Or.inr (Or.inl ⟨rfl, rfl, rfl⟩), Or.inl ⟨w6, by rw [w8]; decide, K, r1, w7⟩⟩
      · rw [cj j g0 g1] at o
        exact FI_c (rj j g0 g1) (fun c z1 z2 => dn c j (by omega) (by omega)) (fun c z1 z2 => mn c j (by omega) (by omega) (by omega)) (a3 j hj o)
  · by_cases e : q = K.val
    · subst e
      refine Or.inl ⟨z10, i0.val, ⟨hI0, by omega, u6, u7, u8⟩, fun j x => ?_⟩
      by_cases g0 : j = i0.val
      · exact g0
      · by_cases g1 : j = i1.val
        · subst g1
          have z := x.2.2.2.2
          rw [w8] at z
          exact absurd z (by decide)
        · exact absurd ((hEj K.val 1 j g0 g1).mp x) (hno 1 (Or.inl rfl) j)
    · exact ES_o (dn 10 q (by omega) (by omega)) (hE q 1 hq e) (a4 q hq)
  · by_cases e : q = K.val
    · subst e
      refine Or.inl ⟨z11, i1.val, ⟨hI1, by omega, w6, w7, w8⟩, fun j x => ?_⟩
      by_cases g0 : j = i0.val
      · subst g0
        have z := x.2.2.2.2
        rw [u8] at z
        exact absurd z (by decide)
      · by_cases g1 : j = i1.val
        · exact g1
        · exact absurd ((hEj K.val 2 j g0 g1).mp x) (hno 2 (Or.inr rfl) j)
    · exact ES_o (dn 11 q (by omega) (by omega)) (hE q 2 hq e) (a5 q hq)
  · by_cases e : q = K.val
    · subst e
      exact ⟨0, 0, by omega, by omega, z9, m10, z8, fun j hj => by omega⟩
    · rw [dn 10 q (by omega) (by omega), dn 11 q (by omega) (by omega)] at o
      refine PC_p (dn 8 q (by omega) (by omega)) (dn 9 q (by omega) (by omega)) ?_ (mn 10 q (by omega) (by omega) (by omega)) (fun j hj => mn 11 _ (by omega) (by omega) (by omega)) (a6 q hq o)
      funext j
      exact dn (18 + q) j (by omega) (by omega)
/-- the model's tail, once the pipe's number is known -/
def tl (mo : MK) (pr : Int32) (k : Nat) : Int32 × MK :=
  (if (sp_M_isPlace pr) = (0 : Int32) then ((-1 : Int32), mo) else (if (14 : Int32) < (sp_M_used mo pr) then ((-1 : Int32), mo) else (if (30 : Int32) < (sp_M_files mo) then ((-1 : Int32), mo) else (if nI k = (8 : Int32) then ((-1 : Int32), mo) else (((sp_M_makes (u2 mo 10 (nI k).toNatClampNeg (0 : Int32)) pr (sp_M_vacant (u2 mo 10 (nI k).toNatClampNeg (0 : Int32)) pr) (1 : Int32) (nI k) (1 : Int32)).1) + ((16 : Int32) * ((sp_M_makes ((sp_M_makes (u2 mo 10 (nI k).toNatClampNeg (0 : Int32)) pr (sp_M_vacant (u2 mo 10 (nI k).toNatClampNeg (0 : Int32)) pr) (1 : Int32) (nI k) (1 : Int32)).2) pr (sp_M_vacant ((sp_M_makes (u2 mo 10 (nI k).toNatClampNeg (0 : Int32)) pr (sp_M_vacant (u2 mo 10 (nI k).toNatClampNeg (0 : Int32)) pr) (1 : Int32) (nI k) (1 : Int32)).2) pr) (1 : Int32) (nI k) (2 : Int32)).1)), (sp_M_makes ((sp_M_makes (u2 mo 10 (nI k).toNatClampNeg (0 : Int32)) pr (sp_M_vacant (u2 mo 10 (nI k).toNatClampNeg (0 : Int32)) pr) (1 : Int32) (nI k) (1 : Int32)).2) pr (sp_M_vacant ((sp_M_makes (u2 mo 10 (nI k).toNatClampNeg (0 : Int32)) pr (sp_M_vacant (u2 mo 10 (nI k).toNatClampNeg (0 : Int32)) pr) (1 : Int32) (nI k) (1 : Int32)).2) pr) (1 : Int32) (nI k) (2 : Int32)).2)))))
theorem pp_lp {d : DK} {mo : MK} (h : RF d mo) (pr : Int32) : lp_M_pipe pr 9 0 mo = tl mo pr (sr (pq d) 8 0) := by
  have e := ls_eq (L := fun n k => lp_M_pipe pr n k mo) (B := 8) (P := pq d) (X := fun k => tl mo pr k) (Y := tl mo pr 8) (fun n k hk => by
    show lp_M_pipe pr (n + 1) k mo = _
    rw [lp_M_pipe]
    by_cases hB : k < 8
    · rw [if_neg (ge_lit (b := (8 : Int32)) (B := 8) rfl (by decide) hB), if_pos hB]
      rcases gn_cases h hB with ⟨g1, g2, -⟩ | ⟨g1, g2, -, -⟩
      · rw [if_neg g2, if_pos (show pq d k = true by simp [pq, g1])]
      · rw [if_pos g2, if_neg (show ¬ pq d k = true by simp [pq, g1])]
        rfl
    · rw [if_pos (le_litT (b := (8 : Int32)) (B := 8) (k := k) rfl (by omega) (by omega)), if_neg hB, show k = 8 by omega]
      rfl) 9 0 (by decide) (by decide)
  have e2 : lp_M_pipe pr 9 0 mo = (if sr (pq d) (8 - 0) 0 < 8 then tl mo pr (sr (pq d) (8 - 0) 0) else tl mo pr 8) := e
  rw [e2, Nat.sub_zero]
  have hl := sr_le (pq d) 8 0
  by_cases c : sr (pq d) 8 0 < 8
  · rw [if_pos c]
  · rw [if_neg c, show sr (pq d) 8 0 = 8 by omega]
theorem mk_5u (mo : MK) (k i : Nat) (so wt wy : Int32) : mk mo k i so wt wy 5 = upd (mo 5) k (nI i + 1) := by
  unfold mk
  rw [u2_off (by decide), u2_off (by decide), u2_off (by decide), u2_off (by decide), u2_row, nI_1]
theorem sim_pipe {d : DK} {mo : MK} {T : Nat} (h : RR d mo T) (pr : Int32) : (sp_pipe d pr).1 = (sp_M_pipe mo pr).1 ∧ RR (sp_pipe d pr).2 (sp_M_pipe mo pr).2 T := by
  have h0 := RR_0 h
  have em : sp_M_pipe mo pr = lp_M_pipe pr 9 0 (u2 mo 0 0 (0 : Int32)) := rfl
  rw [em]
  unfold sp_pipe
  generalize u2 mo 0 0 (0 : Int32) = m1 at h0 ⊢
  rw [pp_lp h0.1, isP_eq]
  unfold tl
  rcases pr_01 pr with h1 | ⟨p, hp, rfl⟩
  · rw [if_pos h1, if_pos h1]; exact ⟨rfl, h0⟩
  rw [pr_1 hp, if_neg n01, if_neg n01, mu_eq m1 hp, ud_eq2 h0.1 hp, mf_eq, ct_congr (P := pf m1) (Q := pg d) 32 (fun j hj => by rw [pf_cn h0.1 hj, pg_cn h0.1 hj])]
  have cl := ct_le (pd d p) 16
  have cl2 := ct_le (pg d) 32
  have sl := sr_le (pd d p) 16 0
  have sl2 := sr_le (pg d) 32 0
  have slK := sr_le (pq d) 8 0
  rw [fd_eq hp (Nat.zero_le _), Nat.sub_zero]
  by_cases cr : sr (pd d p) 16 0 < 16
  · rw [if_pos cr, if_neg (nm1 (by omega)), nI_clamp (by omega), fd_eq hp (by omega)]
    have tw := sr_two cr
    by_cases cr1 : sr (pd d p) (16 - (sr (pd d p) 16 0 + 1)) (sr (pd d p) 16 0 + 1) < 16
    · have hct := tw.mp cr1
      rw [if_pos cr1, if_neg (nm1 (by omega)), if_neg (show ¬ (14 : Int32) < nI (ct (pd d p) 16) from nI_nlt (b := ct (pd d p) 16) (a := 14) (by omega) (by decide))]
      rw [ff_eq (Nat.zero_le _), Nat.sub_zero]
      by_cases cf : sr (pg d) 32 0 < 32
      · rw [if_pos cf, oc_s, fin_v cf, ff_eq (by omega)]
        have tw2 := sr_two cf
        by_cases cf1 : sr (pg d) (32 - (sr (pg d) 32 0 + 1)) (sr (pg d) 32 0 + 1) < 32
        · have hct2 := tw2.mp cf1
          rw [if_pos cf1, oc_s, if_neg (show ¬ (30 : Int32) < nI (ct (pg d) 32) from nI_nlt (b := ct (pg d) 32) (a := 30) (by omega) (by decide)), fp_eq]
          by_cases cK : sr (pq d) 8 0 < 8
          · rw [if_pos cK, oc_s, if_neg (show ¬ nI (sr (pq d) 8 0) = (8 : Int32) from fun e => by have := (eq_lit (B := 8) rfl (by decide) (by omega)).mp e; omega), nI_clamp (by omega)]
            -- the numbers
            have pr0 := sr_at (pd d p) 16 0 (by omega)
            have pr1 := sr_at (pd d p) (16 - (sr (pd d p) 16 0 + 1)) (sr (pd d p) 16 0 + 1) (by omega)
            have br0 := sr_bef (pd d p) 16 0
            have br1 := sr_bef (pd d p) (16 - (sr (pd d p) 16 0 + 1)) (sr (pd d p) 16 0 + 1)
            have lr1 := sr_le (pd d p) (16 - (sr (pd d p) 16 0 + 1)) (sr (pd d p) 16 0 + 1)
            have pf0 := sr_at (pg d) 32 0 (by omega)
            have pf1 := sr_at (pg d) (32 - (sr (pg d) 32 0 + 1)) (sr (pg d) 32 0 + 1) (by omega)
            have bf0 := sr_bef (pg d) 32 0
            have bf1 := sr_bef (pg d) (32 - (sr (pg d) 32 0 + 1)) (sr (pg d) 32 0 + 1)
            have lf1 := sr_le (pg d) (32 - (sr (pg d) 32 0 + 1)) (sr (pg d) 32 0 + 1)
            have gK := sr_at (pq d) 8 0 (by omega)
            have evac := vd_eq h0.1 hp
            have eff : sr (pf m1) 32 0 = sr (pg d) 32 0 := sr_congr 32 0 (fun j _ hj => by rw [pf_cn h0.1 (by omega), pg_cn h0.1 (by omega)])
            generalize sr (pd d p) (16 - (sr (pd d p) 16 0 + 1)) (sr (pd d p) 16 0 + 1) = r1 at *
            generalize sr (pd d p) 16 0 = r0 at *
            generalize sr (pg d) (32 - (sr (pg d) 32 0 + 1)) (sr (pg d) 32 0 + 1) = f1 at *
            generalize sr (pg d) 32 0 = f0 at *
            generalize sr (pq d) 8 0 = K at *
            have n0 := pd_none pr0
            have n1 := pd_none pr1
            have cf0 : cn d.2.1 f0 = 0 := by rw [pg_cn h0.1 cf] at pf0; simpa using pf0
            have cf1' : cn d.2.1 f1 = 0 := by rw [pg_cn h0.1 cf1] at pf1; simpa using pf1
            have gone : d.1 10 K = 0 ∧ d.1 11 K = 0 := by
              rcases gn_cases h0.1 cK with ⟨g1, -, -⟩ | ⟨-, -, g3, g4⟩
              · simp [pq, g1] at gK
              · exact ⟨g3, g4⟩
            -- the model's two files
            have v0 : sp_M_vacant (u2 m1 10 K (0 : Int32)) (nI p) = nI r0 := by rw [mv_eq _ hp, pu_c (u2_off (by decide)) p, evac]
            have w0 : sp_M_freeFile (u2 m1 10 K (0 : Int32)) = nI f0 := by rw [mr_eq, pf_c (u2_off (by decide)), eff]
            rw [v0, mks_eq hp cr cf w0]
            dsimp only
            have e5 : (mk (u2 m1 10 K (0 : Int32)) (16 * p + r0) f0 (1 : Int32) (nI K) (1 : Int32)) 5 = upd (m1 5) (16 * p + r0) (nI f0 + 1) := by rw [mk_5u, u2_off (by decide)]
            have v1 : sp_M_vacant (mk (u2 m1 10 K (0 : Int32)) (16 * p + r0) f0 (1 : Int32) (nI K) (1 : Int32)) (nI p) = nI r1 := by
              rw [mv_eq _ hp]
              refine congrArg nI (sr_eq (by omega) (by omega) (fun j _ hj => ?_) (fun _ => ?_))
              · unfold pu
                rw [e5]
                by_cases e : j = r0
                · subst e
                  rw [pk_us, nI_1]
                  have : ¬ nI (f0 + 1) ≤ 0 := by rw [nI_le0 (by omega)]; omega
                  simp [this]
                · rw [pk_un (by omega)]
                  have hpj : pd d p j = true := by
                    by_cases hl : j < r0
                    · exact br0 j (by omega) hl
                    · exact br1 j (by omega) hj
                  have := pu_pd h0.1 hp (show j < 16 by omega)
                  rw [hpj] at this
                  exact this
              · unfold pu
                rw [e5, pk_un (by omega)]
                have := pu_pd h0.1 hp cr1
                rw [pr1] at this
                exact this
            have w1 : sp_M_freeFile (mk (u2 m1 10 K (0 : Int32)) (16 * p + r0) f0 (1 : Int32) (nI K) (1 : Int32)) = nI f1 := by
              rw [mr_eq]
              have hz : m1 5 (16 * p + r0) ≤ 0 := by rw [h0.1.1 _ (by omega), n0]; decide
              refine congrArg nI (sr_eq (by omega) (by omega) (fun j _ hj => ?_) (fun _ => ?_))
              · by_cases e : j = f0
                · subst e
                  unfold pf
                  rw [mn_eq]
                  have hpos : 0 < ct (fun k => decide (mk (u2 m1 10 K (0 : Int32)) (16 * p + r0) j (1 : Int32) (nI K) (1 : Int32) 5 k = nI j + 1)) 240 := ct_pos 240 (show 16 * p + r0 < 240 by omega) (by rw [e5, pk_us]; simp)
                  have hle := ct_le (fun k => decide (mk (u2 m1 10 K (0 : Int32)) (16 * p + r0) j (1 : Int32) (nI K) (1 : Int32) 5 k = nI j + 1)) 240
                  have : ¬ nI (ct (fun k => decide (mk (u2 m1 10 K (0 : Int32)) (16 * p + r0) j (1 : Int32) (nI K) (1 : Int32) 5 k = nI j + 1)) 240) ≤ 0 := by rw [nI_le0 (by omega)]; omega
                  simp [this]
                · rw [pf_set e5 hz cf (by omega) e, pf_cn h0.1 (by omega), ← pg_cn h0.1 (by omega)]
                  by_cases hl : j < f0
                  · exact bf0 j (by omega) hl
                  · exact bf1 j (by omega) hj
              · rw [pf_set e5 hz cf cf1 (by omega), pf_cn h0.1 cf1, ← pg_cn h0.1 cf1]
                exact pf1
            rw [v1, mks_eq hp cr1 cf1 w1]
            dsimp only
            refine ⟨rfl, ?_⟩
            have hF0 : (Fin.ofNat 32 f0).val = f0 := fin_v cf
            have hF1 : (Fin.ofNat 32 f1).val = f1 := fin_v cf1
            have hFK : (Fin.ofNat 8 K).val = K := fin_v cK
            have hw1 : HW (1 : Int32) 1 0 := Or.inl ⟨rfl, rfl, rfl⟩
            have hw2 : HW (2 : Int32) 0 1 := Or.inr (Or.inl ⟨rfl, rfl, rfl⟩)
            obtain ⟨P0, hP0⟩ : ∃ P0, P0 = sp_Pipe_begin d (Fin.ofNat 8 K) := ⟨_, rfl⟩
            obtain ⟨F1, hF1'⟩ : ∃ F1, F1 = sR (fb P0 f0 1 1 0) f0 (some (Fin.ofNat 8 K)) := ⟨_, rfl⟩
            obtain ⟨J, hJ⟩ : ∃ J, J = sR (fb F1 f1 1 0 1) f1 (some (Fin.ofNat 8 K)) := ⟨_, rfl⟩
            have eJ : sp_joinEnds d (Fin.ofNat 8 K) (Fin.ofNat 32 f0) (Fin.ofNat 32 f1) = J := by
              unfold sp_joinEnds
              rw [fb_eq hw1, fb_eq hw2, hF0, hF1, ← hP0, ← hF1', ← hJ]
            have p0n : ∀ c j, ¬ (8 ≤ c ∧ c ≤ 11 ∧ j = K) → P0.1 c j = d.1 c j := fun c j hc => by
              rw [hP0]
              unfold sp_Pipe_begin
              rw [hFK, sI_n (by omega), sI_n (by omega), sI_n (by omega), sI_n (by omega)]
            have p0v : P0.1 8 K = 0 ∧ P0.1 9 K = 0 ∧ P0.1 10 K = 1 ∧ P0.1 11 K = 1 := by
              rw [hP0]
              unfold sp_Pipe_begin
              rw [hFK]
              exact ⟨by rw [sI_n (by omega), sI_n (by omega), sI_n (by omega), sI_s], by rw [sI_n (by omega), sI_n (by omega), sI_s], by rw [sI_n (by omega), sI_s], sI_s⟩
            have f1n : ∀ c j, ¬ (2 ≤ c ∧ c ≤ 7 ∧ j = f0) → F1.1 c j = P0.1 c j := fun c j hc => by
              rw [hF1']
              exact fb_n hc
            have jn : ∀ c j, ¬ (2 ≤ c ∧ c ≤ 7 ∧ j = f1) → J.1 c j = F1.1 c j := fun c j hc => by
              rw [hJ]
              exact fb_n hc
            obtain ⟨s2, s3, s4, s5, s6, s7⟩ := fb_v (d := P0) (i := f0) (ki := 1) (r := 1) (w := 0)
            obtain ⟨t2, t3, t4, t5, t6, t7⟩ := fb_v (d := F1) (i := f1) (ki := 1) (r := 0) (w := 1)
            have j21 : J.2.1 = d.2.1 := by rw [hJ]; show F1.2.1 = _; rw [hF1']; show P0.2.1 = _; rw [hP0]; rfl
            have j22 : ∀ j, J.2.2 j = va_up (va_up (va_up (va_up d.2.2 f0 none) f0 (some (Fin.ofNat 8 K))) f1 none) f1 (some (Fin.ofNat 8 K)) j := fun j => by rw [hJ]; show va_up (va_up F1.2.2 f1 none) f1 _ j = _; rw [hF1']; show va_up (va_up (va_up (va_up P0.2.2 f0 none) f0 _) f1 none) f1 _ j = _; rw [hP0]; rfl
            have ne01 : f0 ≠ f1 := by omega
            have q0 : ∀ c, F1.1 c f0 = (fb P0 f0 1 1 0).1 c f0 := fun c => by rw [hF1']; rfl
            have q1 : ∀ c, J.1 c f1 = (fb F1 f1 1 0 1).1 c f1 := fun c => by rw [hJ]; rfl
            have x7 : J.1 7 f0 = 0 := by rw [jn 7 f0 (by omega), q0]; exact s7
            have y7 : J.1 7 f1 = 0 := by rw [q1]; exact t7
            rw [eJ, sn_eq hp cr, sn_eq hp cr1, hF0, hF1, x7]
            obtain ⟨D1, hD1⟩ : ∃ D1, D1 = sI (sN J (16 * p + r0) (some (Fin.ofNat 32 f0))) 7 f0 (0 + 1) := ⟨_, rfl⟩
            rw [← hD1]
            have d1n : ∀ c j, ¬ (c = 7 ∧ j = f0) → D1.1 c j = J.1 c j := fun c j hc => by rw [hD1, sI_n hc]; rfl
            have d1v : D1.1 7 f0 = nI 1 := by rw [hD1, sI_s]; rfl
            rw [d1n 7 f1 (by omega), y7]
            obtain ⟨D2, hD2⟩ : ∃ D2, D2 = sI (sN D1 (16 * p + r1) (some (Fin.ofNat 32 f1))) 7 f1 (0 + 1) := ⟨_, rfl⟩
            rw [← hD2]
            have d2n : ∀ c j, ¬ (c = 7 ∧ j = f1) → D2.1 c j = D1.1 c j := fun c j hc => by rw [hD2, sI_n hc]; rfl
            have d2v : D2.1 7 f1 = nI 1 := by rw [hD2, sI_s]; rfl
            obtain ⟨M0, hM0⟩ : ∃ M0, M0 = mk (u2 m1 10 K (0 : Int32)) (16 * p + r0) f0 (1 : Int32) (nI K) (1 : Int32) := ⟨_, rfl⟩
            rw [← hM0]
            obtain ⟨a5, a6, a7, a8, a9⟩ := mk_v (mo := u2 m1 10 K (0 : Int32)) (k := 16 * p + r0) (i := f0) (so := 1) (wt := nI K) (wy := 1)
            obtain ⟨b5, b6, b7, b8, b9⟩ := mk_v (mo := M0) (k := 16 * p + r1) (i := f1) (so := 1) (wt := nI K) (wy := 2)
            rw [← hM0] at a5 a6 a7 a8 a9
            have m0n : ∀ c j, ¬ (c = 5 ∧ j = 16 * p + r0) → ¬ (6 ≤ c ∧ c ≤ 9 ∧ j = f0) → ¬ (c = 10 ∧ j = K) → M0 c j = m1 c j := fun c j z1 z2 z3 => by rw [hM0, mk_n z1 z2, u2_n z3]
            refine RR_F h0 ?_ (fun c hc => ?_) (fun c hc => ?_)
            · refine RF_pipe (d := d) (mo := m1) (k0 := 16 * p + r0) (k1 := 16 * p + r1) (i0 := Fin.ofNat 32 f0) (i1 := Fin.ofNat 32 f1) (K := Fin.ofNat 8 K) h0.1 (by omega) (by omega) (by omega) (by omega) n0 n1 (by rw [hF0]; exact cf0) (by rw [hF1]; exact cf1') (by rw [hFK]; exact gone.1) (by rw [hFK]; exact gone.2)
                (by rw [hD2]; show va_up D1.2.1 _ _ = _; rw [hD1]; show va_up (va_up J.2.1 _ _) _ _ = _; rw [j21])
                (by rw [hF0]; rw [hD2]; show D1.2.2 f0 = _; rw [hD1]; show J.2.2 f0 = _; rw [j22, va_up_ne _ _ ne01, va_up_ne _ _ ne01, va_up_self])
                (by rw [hF1]; rw [hD2]; show D1.2.2 f1 = _; rw [hD1]; show J.2.2 f1 = _; rw [j22, va_up_self])
                (fun j g0 g1 => by rw [hF0] at g0; rw [hF1] at g1; rw [hD2]; show D1.2.2 j = _; rw [hD1]; show J.2.2 j = _; rw [j22, va_up_ne _ _ g1, va_up_ne _ _ g1, va_up_ne _ _ g0, va_up_ne _ _ g0])
                (fun c j g0 g1 => by rw [hF0, hF1] at g0; rw [hFK] at g1; rw [d2n c j (by omega), d1n c j (by omega), jn c j (by omega), f1n c j (by omega), p0n c j (by omega)])
                (by rw [hF0, d2n 2 f0 (by omega), d1n 2 f0 (by omega), jn 2 f0 (by omega), q0]; exact s2)
                (by rw [hF0, d2n 4 f0 (by omega), d1n 4 f0 (by omega), jn 4 f0 (by omega), q0]; exact s4)
                (by rw [hF0, d2n 5 f0 (by omega), d1n 5 f0 (by omega), jn 5 f0 (by omega), q0]; exact s5)
                (by rw [hF0, d2n 6 f0 (by omega), d1n 6 f0 (by omega), jn 6 f0 (by omega), q0]; exact s6)
                (by rw [hF0, d2n 7 f0 (by omega)]; exact d1v)
                (by rw [hF1, d2n 2 f1 (by omega), d1n 2 f1 (by omega), q1]; exact t2)
                (by rw [hF1, d2n 4 f1 (by omega), d1n 4 f1 (by omega), q1]; exact t4)
                (by rw [hF1, d2n 5 f1 (by omega), d1n 5 f1 (by omega), q1]; exact t5)
                (by rw [hF1, d2n 6 f1 (by omega), d1n 6 f1 (by omega), q1]; exact t6)
                (by rw [hF1]; exact d2v)
                (by rw [hFK, d2n 8 K (by omega), d1n 8 K (by omega), jn 8 K (by omega), f1n 8 K (by omega)]; exact p0v.1)
                (by rw [hFK, d2n 9 K (by omega), d1n 9 K (by omega), jn 9 K (by omega), f1n 9 K (by omega)]; exact p0v.2.1)
                (by rw [hFK, d2n 10 K (by omega), d1n 10 K (by omega), jn 10 K (by omega), f1n 10 K (by omega)]; exact p0v.2.2.1)
                (by rw [hFK, d2n 11 K (by omega), d1n 11 K (by omega), jn 11 K (by omega), f1n 11 K (by omega)]; exact p0v.2.2.2)
                (by rw [hF0, mk_n (by omega) (by omega)]; exact a5) (by rw [hF1]; exact b5)
                (fun c j z1 z2 z3 => by rw [hF0, hF1] at z2; rw [hFK] at z3; rw [mk_n (by omega) (by omega), m0n c j (by omega) (by omega) (by omega)])
                (by rw [hF0, mk_n (by omega) (by omega)]; exact a6) (by rw [hF0, hFK, mk_n (by omega) (by omega)]; exact a7) (by rw [hF0, mk_n (by omega) (by omega)]; exact a8) (by rw [hF0, mk_n (by omega) (by omega)]; exact a9)
                (by rw [hF1]; exact b6) (by rw [hF1, hFK]; exact b7) (by rw [hF1]; exact b8) (by rw [hF1]; exact b9)
                (by rw [hFK, mk_n (by omega) (by omega), hM0, mk_n (by omega) (by omega), u2_s])
            · funext j
              rw [d2n c j (by omega), d1n c j (by omega), jn c j (by omega), f1n c j (by omega), p0n c j (by omega)]
            · funext j
              rw [mk_n (by omega) (by omega), m0n c j (by omega) (by omega) (by omega)]
          · rw [if_neg cK, oc_n, if_pos (show nI (sr (pq d) 8 0) = (8 : Int32) by rw [show sr (pq d) 8 0 = 8 by omega]; rfl)]
            exact ⟨rfl, h0⟩
        · have hct2 : ¬ ct (pg d) 32 + 2 ≤ 32 := fun e => cf1 (tw2.mpr e)
          rw [if_neg cf1, oc_n, if_pos (show (30 : Int32) < nI (ct (pg d) 32) from nI_lt (a := 30) (by omega) (by omega))]
          cases sp_freePipe d with
          | none => rw [oc_n]; exact ⟨rfl, h0⟩
          | some k => rw [oc_s]; exact ⟨rfl, h0⟩
      · have e32 := sr_full.mp (show sr (pg d) 32 0 = 32 by omega)
        rw [if_neg cf, oc_n, e32, if_pos (show (30 : Int32) < nI 32 by decide)]
        exact ⟨rfl, h0⟩
    · have hct : ¬ ct (pd d p) 16 + 2 ≤ 16 := fun e => cr1 (tw.mpr e)
      rw [if_neg cr1, if_pos rfl, if_pos (show (14 : Int32) < nI (ct (pd d p) 16) from nI_lt (a := 14) (by omega) (by omega))]
      exact ⟨rfl, h0⟩
  · have e16 := sr_full.mp (show sr (pd d p) 16 0 = 16 by omega)
    rw [if_neg cr, if_pos rfl, e16, if_pos (show (14 : Int32) < nI 16 by decide)]
    exact ⟨rfl, h0⟩
