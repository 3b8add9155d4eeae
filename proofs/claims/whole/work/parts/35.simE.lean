/-! Pure: names come and go. -/
theorem isE_o {nm nm' : Nat → Option (Fin 32)} {mo mo' : MK} {k i : Nat} {sd : Int32} (ho : i < 32 → (0 < cn nm' i ↔ 0 < cn nm i)) (h6 : mo' 6 = mo 6) (h7 : mo' 7 = mo 7) (h8 : mo' 8 = mo 8) : isE nm' mo' k sd i ↔ isE nm mo k sd i := by
  unfold isE
  rw [h6, h7, h8]
  constructor
  · rintro ⟨a, b, c⟩
    exact ⟨a, (ho a).mp b, c⟩
  · rintro ⟨a, b, c⟩
    exact ⟨a, (ho a).mpr b, c⟩
theorem ES_o {d d' : DK} {mo mo' : MK} {k c : Nat} {sd : Int32} (h1 : d'.1 c k = d.1 c k) (he : ∀ i, isE d'.2.1 mo' k sd i ↔ isE d.2.1 mo k sd i) (h : ES d mo k c sd) : ES d' mo' k c sd := by
  unfold ES at h ⊢
  rw [h1]
  rcases h with ⟨q1, i, q2, q3⟩ | ⟨q1, q2⟩
  · exact Or.inl ⟨q1, i, (he i).mpr q2, fun i' q => q3 i' ((he i').mp q)⟩
  · exact Or.inr ⟨q1, fun i q => q2 i ((he i).mp q)⟩
/-- the same files are in use -/
theorem RF_nm {d d' : DK} {mo mo' : MK} (hnm : ∀ k, k < 240 → mo' 5 k = nI (nv (d'.2.1 k))) (hcn : ∀ i, i < 32 → d'.1 7 i = nI (cn d'.2.1 i)) (ho : ∀ j, j < 32 → (0 < cn d'.2.1 j ↔ 0 < cn d.2.1 j)) (h22 : d'.2.2 = d.2.2) (h1 : ∀ c, (2 ≤ c ∧ c ≤ 6) ∨ (8 ≤ c ∧ c ≤ 11) ∨ 18 ≤ c → d'.1 c = d.1 c) (hm : ∀ c, 6 ≤ c → c ≤ 11 → mo' c = mo c) (h : RF d mo) : RF d' mo' := by
  obtain ⟨a1, a2, a3, a4, a5, a6⟩ := h
  have he : ∀ k sd i, isE d'.2.1 mo' k sd i ↔ isE d.2.1 mo k sd i := fun k sd i => isE_o (ho i) (hm 6 (by omega) (by omega)) (hm 7 (by omega) (by omega)) (hm 8 (by omega) (by omega))
  refine ⟨hnm, hcn, fun j hj o => FI_c (by rw [h22]) (fun c g1 g2 => by rw [h1 c (by omega)]) (fun c g1 g2 => by rw [hm c (by omega) (by omega)]) (a3 j hj ((ho j hj).mp o)), fun k hk => ES_o (by rw [h1 10 (by omega)]) (he k 1) (a4 k hk), fun k hk => ES_o (by rw [h1 11 (by omega)]) (he k 2) (a5 k hk), fun k hk o => ?_⟩
  rw [h1 10 (by omega), h1 11 (by omega)] at o
  exact PC_c (by rw [h1 8 (by omega)]) (by rw [h1 9 (by omega)]) (h1 (18 + k) (by omega)) (by rw [hm 10 (by omega) (by omega)]) (hm 11 (by omega) (by omega)) (a6 k hk o)
theorem RF_add {d : DK} {mo : MK} {k : Nat} {i : Fin 32} (h : RF d mo) (hk : k < 240) (hn : d.2.1 k = none) (hi : 0 < cn d.2.1 i.val) : RF (sI (sN d k (some i)) 7 i.val (nI (cn d.2.1 i.val + 1))) (u2 mo 5 k (nI (i.val + 1))) := by
  refine RF_nm (d := d) (mo := mo) (fun q hq => ?_) (fun j hj => ?_) (fun j hj => ?_) rfl (fun c hc => sI_off (by omega)) (fun c g1 g2 => u2_off (by omega)) h
  · show u2 mo 5 k (nI (i.val + 1)) 5 q = nI (nv (va_up d.2.1 k (some i) q))
    by_cases e : q = k
    · subst e
      rw [u2_s, va_up_self]
      rfl
    · rw [u2_n (by omega), va_up_ne _ _ e]
      exact h.1 q hq
  · show (sI (sN d k (some i)) 7 i.val (nI (cn d.2.1 i.val + 1))).1 7 j = nI (cn (va_up d.2.1 k (some i)) j)
    rw [cn_add hk hn]
    by_cases e : j = i.val
    · subst e
      rw [sI_s, if_pos rfl]
    · rw [sI_n (by omega), if_neg (fun q => e q.symm), Nat.add_zero]
      exact h.2.1 j hj
  · show 0 < cn (va_up d.2.1 k (some i)) j ↔ 0 < cn d.2.1 j
    rw [cn_add hk hn]
    by_cases e : i.val = j
    · subst e
      rw [if_pos rfl]
      omega
    · rw [if_neg e, Nat.add_zero]
theorem sn_eq {d : DK} {p q : Nat} (hp : p < 15) (hq : q < 16) (i : Fin 32) : sp_setName d (nI p) (nI q) i = sI (sN d (16 * p + q) (some i)) 7 i.val (d.1 7 i.val + 1) := by
  unfold sp_setName
  rw [isP_eq, pr_1 hp, if_neg n01, de_1 hq, if_neg n01, ix15c hp hq]
  rfl
theorem vd_eq {d : DK} {mo : MK} (h : RF d mo) {p : Nat} (hp : p < 15) : sr (pu mo p) 16 0 = sr (pd d p) 16 0 := sr_congr 16 0 (fun j _ hj => pu_pd h hp (by omega))
theorem ud_eq2 {d : DK} {mo : MK} (h : RF d mo) {p : Nat} (hp : p < 15) : ct (pu mo p) 16 = ct (pd d p) 16 := ct_congr 16 (fun j hj => pu_pd h hp hj)
theorem pd_none {d : DK} {p r : Nat} (h : pd d p r = false) : d.2.1 (16 * p + r) = none := by
  unfold pd at h
  cases hc : d.2.1 (16 * p + r) with
  | none => rfl
  | some i => rw [hc] at h; cases h
theorem n16 {r : Nat} (h : r < 16) : ¬ nI r = (16 : Int32) := fun e => by
  have := (eq_lit (B := 16) rfl (by decide) (by omega)).mp e
  omega
theorem nm1 {r : Nat} (h : r < 2 ^ 31) : ¬ nI r = (-1 : Int32) := fun e => by
  have := nI_pos h
  rw [e] at this
  exact this (by decide)
/-- the least descriptor that is free, on both sides -/
theorem vac_cases {d : DK} {mo : MK} (h : RF d mo) {p : Nat} (hp : p < 15) : (sp_freeDescriptor d (nI p) 0 = -1 ∧ sp_M_vacant mo (nI p) = 16) ∨ ∃ r, r < 16 ∧ r = sr (pd d p) 16 0 ∧ sp_freeDescriptor d (nI p) 0 = nI r ∧ sp_M_vacant mo (nI p) = nI r ∧ d.2.1 (16 * p + r) = none := by
  rw [fd_eq hp (Nat.zero_le _), mv_eq mo hp, vd_eq h hp, Nat.sub_zero]
  have h1 := sr_le (pd d p) 16 0
  by_cases c : sr (pd d p) 16 0 < 16
  · rw [if_pos c]
    exact Or.inr ⟨_, c, rfl, rfl, rfl, pd_none (sr_at (pd d p) 16 0 (by omega))⟩
  · rw [if_neg c, show sr (pd d p) 16 0 = 16 by omega]
    exact Or.inl ⟨rfl, rfl⟩
theorem RR_nm {d d' : DK} {mo mo' : MK} {T : Nat} (h : RR d mo T) (hF : RF d' mo') (h1 : ∀ c, c < 2 ∨ (12 ≤ c ∧ c ≤ 17) → d'.1 c = d.1 c) (h2 : ∀ c, (1 ≤ c ∧ c ≤ 4) ∨ (12 ≤ c ∧ c ≤ 14) → mo' c = mo c) : RR d' mo' T := RR_F h hF h1 h2
theorem RR_add1 {d : DK} {mo : MK} {T p r : Nat} {i : Fin 32} (h : RR d mo T) (hp : p < 15) (hr : r < 16) (hn : d.2.1 (16 * p + r) = none) (hi : 0 < cn d.2.1 i.val) : RR (sp_setName d (nI p) (nI r) i) (u2 mo 5 (16 * p + r) (nI (i.val + 1))) T := by
  rw [sn_eq hp hr, h.1.2.1 i.val i.isLt, nI_1]
  exact RR_F h (RF_add h.1 (by omega) hn hi) (fun c hc => sI_off (by omega)) (fun c hc => u2_off (by omega))
theorem sim_again {d : DK} {mo : MK} {T : Nat} (h : RR d mo T) (pr x : Int32) : (sp_again d pr x).1 = (sp_M_again mo pr x).1 ∧ RR (sp_again d pr x).2 (sp_M_again mo pr x).2 T := by
  have h0 := RR_0 h
  unfold sp_again sp_M_again
  generalize u2 mo 0 0 (0 : Int32) = m1 at h0 ⊢
  rcases fo_cases h0.1 pr x with ⟨e1, e2⟩ | ⟨p, q, i, hp, hq, rfl, rfl, hn, e1, e2⟩
  · rw [e1, e2, oc_n, if_pos m1_l]
    exact ⟨rfl, h0⟩
  have hi := i.isLt
  rw [e1, e2, oc_s, if_neg (nI_pos (by omega))]
  rcases vac_cases h0.1 hp with ⟨v1, v2⟩ | ⟨r, hr, -, v1, v2, v3⟩
  · rw [v1, v2, if_pos rfl, if_pos rfl]
    exact ⟨rfl, h0⟩
  · rw [v1, v2, if_neg (nm1 (by omega)), if_neg (n16 hr), ix16c hp hr, nI_1]
    exact ⟨rfl, RR_add1 h0 hp hr v3 (cn_pos (by omega) hn)⟩
theorem u2_same (mo : MK) (c i : Nat) : u2 mo c i (mo c i) = mo := by
  funext c' i'
  unfold u2
  split
  · rename_i e
    rw [e.1, e.2]
  · rfl
theorem cp_lp {p f T : Nat} (hp : p < 15) (hf : f < 15) (hne : p ≠ f) : ∀ n j (d : DK) (mo : MK), RR d mo T → j ≤ 16 → j + n = 17 → (∀ x, j ≤ x → x < 16 → d.2.1 (16 * p + x) = none) → (∀ x, x < j → d.2.1 (16 * p + x) = d.2.1 (16 * f + x)) →
    (lp_copy (nI p) (nI f) n j d).1 = (lp_M_copy (nI p) (nI f) n j mo).1 ∧ RR (lp_copy (nI p) (nI f) n j d).2 (lp_M_copy (nI p) (nI f) n j mo).2 T
  | 0, j, d, mo, _, h1, h2, _, _ => by omega
  | n + 1, j, d, mo, h, h1, h2, h3, h4 => by
    rw [lp_copy, lp_M_copy]
    by_cases hc : j < 16
    · rw [if_neg (ge_lit (b := (16 : Int32)) (B := 16) rfl (by decide) hc), if_neg (ge_lit (b := (16 : Int32)) (B := 16) rfl (by decide) hc), fo_eq hf hc, ix16c hp hc, ix16c hf hc]
      have e1 := h.1.1 (16 * f + j) (by omega)
      have e2 := h.1.1 (16 * p + j) (by omega)
      have e3 := h3 j (Nat.le_refl _) hc
      cases hq : d.2.1 (16 * f + j) with
      | none =>
        rw [oc_n]
        have e4 : u2 mo 5 (16 * p + j) (mo 5 (16 * f + j)) = mo := by
          rw [e1, hq, ← e3, ← e2]
          exact u2_same mo 5 _
        rw [e4]
        exact cp_lp hp hf hne n (j + 1) d mo h (by omega) (by omega) (fun x q1 q2 => h3 x (by omega) q2) (fun x q1 => by
          by_cases e : x = j
          · subst e
            rw [e3, hq]
          · exact h4 x (by omega))
      | some i =>
        rw [oc_s, e1, hq]
        have hR := RR_add1 h hp hc e3 (cn_pos (by omega) hq)
        have hs : ∀ q, (sp_setName d (nI p) (nI j) i).2.1 q = va_up d.2.1 (16 * p + j) (some i) q := fun q => by rw [sn_eq hp hc]; rfl
        refine cp_lp hp hf hne n (j + 1) _ _ hR (by omega) (by omega) (fun x q1 q2 => ?_) (fun x q1 => ?_)
        · rw [hs, va_up_ne _ _ (by omega)]
          exact h3 x (by omega) q2
        · rw [hs, hs]
          by_cases e : x = j
          · subst e
            rw [va_up_self, va_up_ne _ _ (by omega), hq]
          · rw [va_up_ne _ _ (by omega), va_up_ne _ _ (by omega)]
            exact h4 x (by omega)
    · rw [if_pos (le_litT (b := (16 : Int32)) (B := 16) (k := j) rfl (by omega) (by omega)), if_pos (le_litT (b := (16 : Int32)) (B := 16) (k := j) rfl (by omega) (by omega)), ud_eq hp, mu_eq mo hf, ud_eq2 h.1 hf]
      refine ⟨congrArg nI (ct_congr 16 (fun x hx => ?_)), h⟩
      unfold pd
      rw [h4 x (by omega)]
theorem sim_copy {d : DK} {mo : MK} {T : Nat} (h : RR d mo T) (pr fr : Int32) : (sp_copy d pr fr).1 = (sp_M_copy mo pr fr).1 ∧ RR (sp_copy d pr fr).2 (sp_M_copy mo pr fr).2 T := by
  have h0 := RR_0 h
  unfold sp_copy sp_M_copy
  generalize u2 mo 0 0 (0 : Int32) = m1 at h0 ⊢
  rw [isP_eq, isP_eq]
  rcases pr_01 pr with h1 | ⟨p, hp, rfl⟩
  · rw [if_pos h1, if_pos h1]; exact ⟨rfl, h0⟩
  rw [pr_1 hp, if_neg n01, if_neg n01]
  rcases pr_01 fr with h1 | ⟨f, hf, rfl⟩
  · rw [if_pos h1, if_pos h1]; exact ⟨rfl, h0⟩
  rw [pr_1 hf, if_neg n01, if_neg n01]
  by_cases c1 : nI p = nI f
  · rw [if_pos c1, if_pos c1]; exact ⟨rfl, h0⟩
  have hne : p ≠ f := fun e => c1 (by rw [e])
  rw [if_neg c1, if_neg c1, ud_eq hp, mu_eq m1 hp, ud_eq2 h0.1 hp]
  have hle := ct_le (pd d p) 16
  by_cases c2 : ct (pd d p) 16 = 0
  · rw [c2, if_pos (show nI 0 ≤ (0 : Int32) by decide), if_pos (show nI 0 ≤ (0 : Int32) by decide)]
    refine cp_lp hp hf hne 17 0 d m1 h0 (by omega) (by omega) (fun x _ hx => ?_) (fun x hx => by omega)
    apply pd_none
    cases hq : pd d p x with
    | false => rfl
    | true =>
      have := ct_pos 16 hx hq
      omega
  · rw [if_neg (fun e => c2 ((nI_le0 (by omega)).mp e)), if_neg (fun e => c2 ((nI_le0 (by omega)).mp e))]
    exact ⟨rfl, h0⟩
