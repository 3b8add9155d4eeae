/-! Pure: what the model's loops count and find; its places are in range. -/
def MN (mo : MK) : Prop := ∀ k, k < 240 → ∃ v, v ≤ 32 ∧ mo 5 k = nI v
theorem MN_c {mo mo' : MK} (e : mo' 5 = mo 5) (h : MN mo) : MN mo' := fun k hk => by rw [e]; exact h k hk
theorem MN_0 {mo : MK} (h : MN mo) : MN (u2 mo 0 0 (0 : Int32)) := MN_c (u2_off (by decide)) h
theorem le_lit {b : Int32} {B k : Nat} (hb : b = nI B) (hB : B < 2 ^ 31) (hk : k < 2 ^ 31) : b ≤ nI k ↔ B ≤ k := by
  rw [hb]
  exact nI_leI hB hk
theorem eq_lit {b : Int32} {B k : Nat} (hb : b = nI B) (hB : B < 2 ^ 31) (hk : k < 2 ^ 31) : nI k = b ↔ k = B := by
  rw [hb]
  exact nI_eq hk hB
theorem lt_lit {b : Int32} {B k : Nat} (hb : b = nI B) (hB : B < 2 ^ 31) (hk : k < 2 ^ 31) : b < nI k ↔ B < k := by
  rw [hb]
  exact nI_ltI hB hk
theorem ge_lit {b : Int32} {B k : Nat} (hb : b = nI B) (hB : B < 2 ^ 31) (h : k < B) : ¬ b ≤ nI k := by
  rw [hb]
  exact nI_ge h hB
theorem le_litT {b : Int32} {B k : Nat} (hb : b = nI B) (hk : k < 2 ^ 31) (h : B ≤ k) : b ≤ nI k := by
  rw [hb]
  exact nI_le h hk
theorem nI_le0 {k : Nat} (hk : k < 2 ^ 31) : nI k ≤ 0 ↔ k = 0 := by
  rw [show (0 : Int32) = nI 0 from rfl, nI_leI hk (by decide)]
  omega
theorem nI_a0 (x : Int32) : x + 0 = x := by simp
theorem mn_step (mo : MK) (f : Int32) (n k : Nat) (acc : Int32) (hk : k ≤ 240) : lp_M_named mo f (n + 1) k acc = if k < 240 then lp_M_named mo f n (k + 1) (acc + (if decide (mo 5 k = f + 1) = true then 1 else 0)) else acc := by
  rw [lp_M_named]
  by_cases hB : k < 240
  · rw [if_neg (ge_lit (b := (240 : Int32)) (B := 240) rfl (by decide) hB), if_pos hB, nI_clamp (by omega)]
    by_cases hp : mo 5 k = f + 1
    · rw [if_pos hp, if_pos (by simpa using hp)]
    · rw [if_neg hp, if_neg (by simpa using hp)]
  · rw [if_pos (le_litT (b := (240 : Int32)) (B := 240) (k := k) rfl (by omega) (by omega)), if_neg hB]
theorem mn_eq (mo : MK) (f : Int32) : sp_M_named mo f = nI (ct (fun k => decide (mo 5 k = f + 1)) 240) := by
  have h := lc_eq (L := lp_M_named mo f) (B := 240) (P := fun k => decide (mo 5 k = f + 1)) (mn_step mo f) 241 0 0 (by decide) (by decide)
  have e : sp_M_named mo f = lp_M_named mo f 241 0 (nI 0) := rfl
  rw [e, h, Nat.zero_add]
  rfl
/-- file f is named -/
def pf (mo : MK) (f : Nat) : Bool := !decide (sp_M_named mo (nI f) ≤ 0)
theorem mf_step (mo : MK) (n k : Nat) (acc : Int32) (hk : k ≤ 32) : lp_M_files mo (n + 1) k acc = if k < 32 then lp_M_files mo n (k + 1) (acc + (if pf mo k = true then 1 else 0)) else acc := by
  rw [lp_M_files]
  by_cases hB : k < 32
  · rw [if_neg (ge_lit (b := (32 : Int32)) (B := 32) rfl (by decide) hB), if_pos hB]
    by_cases hp : sp_M_named mo (nI k) ≤ 0
    · rw [if_pos hp, if_neg (by simp [pf, hp])]
    · rw [if_neg hp, if_pos (by simp [pf, hp])]
  · rw [if_pos (le_litT (b := (32 : Int32)) (B := 32) (k := k) rfl (by omega) (by omega)), if_neg hB]
theorem mf_eq (mo : MK) : sp_M_files mo = nI (ct (pf mo) 32) := by
  have h := lc_eq (L := lp_M_files mo) (B := 32) (P := pf mo) (mf_step mo) 33 0 0 (by decide) (by decide)
  have e : sp_M_files mo = lp_M_files mo 33 0 (nI 0) := rfl
  rw [e, h, Nat.zero_add]
  rfl
theorem sr_pick {P : Nat → Bool} {B : Nat} : (if sr P (B - 0) 0 < B then nI (sr P (B - 0) 0) else nI B) = nI (sr P B 0) := by
  have h := sr_le P B 0
  rw [Nat.sub_zero]
  by_cases hl : sr P B 0 < B
  · rw [if_pos hl]
  · rw [if_neg hl, show sr P B 0 = B by omega]
theorem mr_eq (mo : MK) : sp_M_freeFile mo = nI (sr (pf mo) 32 0) := by
  have h := ls_eq (L := lp_M_freeFile mo) (B := 32) (P := pf mo) (X := fun k => nI k) (Y := nI 32) (fun n k hk => by
    rw [lp_M_freeFile]
    by_cases hB : k < 32
    · rw [if_neg (ge_lit (b := (32 : Int32)) (B := 32) rfl (by decide) hB), if_pos hB]
      by_cases hp : sp_M_named mo (nI k) ≤ 0
      · rw [if_pos hp, if_neg (by simp [pf, hp])]
      · rw [if_neg hp, if_pos (by simp [pf, hp])]
    · rw [if_pos (le_litT (b := (32 : Int32)) (B := 32) (k := k) rfl (by omega) (by omega)), if_neg hB, show k = 32 by omega]) 33 0 (by decide) (by decide)
  exact h.trans sr_pick
/-- descriptor x of process p is used -/
def pu (mo : MK) (p x : Nat) : Bool := !decide (mo 5 (16 * p + x) ≤ 0)
theorem ix16c {p x : Nat} (hp : p < 15) (hx : x < 16) : (((16 : Int32) * nI p) + nI x).toNatClampNeg = 16 * p + x := by
  rw [ix16, nI_clamp (by omega)]
theorem mv_eq (mo : MK) {p : Nat} (hp : p < 15) : sp_M_vacant mo (nI p) = nI (sr (pu mo p) 16 0) := by
  have h := ls_eq (L := lp_M_vacant mo (nI p)) (B := 16) (P := pu mo p) (X := fun k => nI k) (Y := nI 16) (fun n k hk => by
    rw [lp_M_vacant]
    by_cases hB : k < 16
    · rw [if_neg (ge_lit (b := (16 : Int32)) (B := 16) rfl (by decide) hB), if_pos hB, ix16c hp hB]
      by_cases hq : mo 5 (16 * p + k) ≤ 0
      · rw [if_pos hq, if_neg (by simp [pu, hq])]
      · rw [if_neg hq, if_pos (by simp [pu, hq])]
    · rw [if_pos (le_litT (b := (16 : Int32)) (B := 16) (k := k) rfl (by omega) (by omega)), if_neg hB, show k = 16 by omega]) 17 0 (by decide) (by decide)
  exact h.trans sr_pick
theorem mu_step (mo : MK) {p : Nat} (hp : p < 15) (n k : Nat) (acc : Int32) (hk : k ≤ 16) : lp_M_used mo (nI p) (n + 1) k acc = if k < 16 then lp_M_used mo (nI p) n (k + 1) (acc + (if pu mo p k = true then 1 else 0)) else acc := by
  rw [lp_M_used]
  by_cases hB : k < 16
  · rw [if_neg (ge_lit (b := (16 : Int32)) (B := 16) rfl (by decide) hB), if_pos hB, ix16c hp hB]
    by_cases hq : mo 5 (16 * p + k) ≤ 0
    · rw [if_pos hq, if_neg (by simp [pu, hq])]
    · rw [if_neg hq, if_pos (by simp [pu, hq])]
  · rw [if_pos (le_litT (b := (16 : Int32)) (B := 16) (k := k) rfl (by omega) (by omega)), if_neg hB]
theorem mu_eq (mo : MK) {p : Nat} (hp : p < 15) : sp_M_used mo (nI p) = nI (ct (pu mo p) 16) := by
  have h := lc_eq (L := lp_M_used mo (nI p)) (B := 16) (P := pu mo p) (mu_step mo hp) 17 0 0 (by decide) (by decide)
  have e : sp_M_used mo (nI p) = lp_M_used mo (nI p) 17 0 (nI 0) := rfl
  rw [e, h, Nat.zero_add]
  rfl
theorem mv_lt {mo : MK} {p : Nat} (hp : p < 15) (h : ¬ sp_M_vacant mo (nI p) = 16) : sr (pu mo p) 16 0 < 16 := by
  rw [mv_eq mo hp] at h
  have h1 := sr_le (pu mo p) 16 0
  apply Nat.lt_of_le_of_ne (by omega)
  intro e
  apply h
  rw [e]
  rfl
theorem md_vac {mo : MK} {pr : Int32} (hp : ¬ sp_M_isPlace pr = 0) (h : ¬ sp_M_vacant mo pr = 16) : vp_in (((16 : Int32) * pr) + sp_M_vacant mo pr) 240 := by
  obtain ⟨p, hq, rfl⟩ := isPl hp
  have hp := hq
  have h1 := mv_lt hp h
  rw [mv_eq mo hp, ix16]
  exact vp_in_nI (by omega) (by decide)
theorem md_ff {mo : MK} (h : ¬ sp_M_files mo = 32) : vp_in (sp_M_freeFile mo) 32 := by
  rw [mr_eq]
  have h1 := sr_le (pf mo) 32 0
  apply vp_in_nI _ (by decide)
  apply Nat.lt_of_le_of_ne (by omega)
  intro e
  apply h
  rw [mf_eq, sr_full.mp e]
  rfl
theorem md_k8 {j : Nat} (hj : j ≤ 8) (h : ¬ nI j = 8) : vp_in (nI j) 8 := by
  apply vp_in_nI _ (by decide)
  apply Nat.lt_of_le_of_ne hj
  intro e
  apply h
  rw [e]
  rfl
theorem md_nn {x : Int32} (h : 0 ≤ x) : ¬ x < 0 := Int32.not_lt.mpr h
theorem fl_of {mo : MK} {pr x : Int32} (h : ¬ sp_M_file mo pr x < 0) : ∃ p q, p < 15 ∧ q < 16 ∧ pr = nI p ∧ x = nI q ∧ sp_M_file mo pr x = mo 5 (16 * p + q) - 1 := by
  unfold sp_M_file at h ⊢
  by_cases h1 : sp_M_isPlace pr = 0
  · rw [if_pos h1] at h; exact absurd (by decide) h
  rw [if_neg h1] at h ⊢
  by_cases h2 : x < 0
  · rw [if_pos h2] at h; exact absurd (by decide) h
  rw [if_neg h2] at h ⊢
  by_cases h3 : (16 : Int32) ≤ x
  · rw [if_pos h3] at h; exact absurd (by decide) h
  rw [if_neg h3] at h ⊢
  obtain ⟨p, hp, rfl⟩ := isPl h1
  rcases pk_ix x (n := 16) (by decide) with q | q | ⟨j, hj, rfl⟩
  · exact absurd q h2
  · exact absurd q h3
  · exact ⟨p, j, hp, hj, rfl, rfl, by rw [ix16c hp hj]⟩
theorem md_fp {mo : MK} {pr x : Int32} (h : ¬ sp_M_file mo pr x < 0) : ¬ sp_M_isPlace pr = 0 := by
  intro h1
  apply h
  unfold sp_M_file
  rw [if_pos h1]
  decide
theorem md_fi {mo : MK} {pr x : Int32} (h : ¬ sp_M_file mo pr x < 0) : vp_in (((16 : Int32) * pr) + x) 240 := by
  obtain ⟨p, q, hp, hq, rfl, rfl, -⟩ := fl_of h
  rw [ix16]
  exact vp_in_nI (by omega) (by decide)
theorem md_fk {mo : MK} {pr x : Int32} (hM : MN mo) (h : ¬ sp_M_file mo pr x < 0) : vp_in (sp_M_file mo pr x) 32 := by
  obtain ⟨p, q, hp, hq, rfl, rfl, e⟩ := fl_of h
  obtain ⟨v, hv, ev⟩ := hM (16 * p + q) (by omega)
  rw [e, ev] at h ⊢
  cases v with
  | zero => exact absurd (by decide) h
  | succ v =>
    rw [nI_pred]
    exact vp_in_nI (by omega) (by decide)
theorem MN_up {mo : MK} {k : Nat} {v : Nat} (h : MN mo) (hv : v ≤ 32) : MN (u2 mo 5 k (nI v)) := fun q hq => by
  by_cases e : q = k
  · subst e
    exact ⟨v, hv, u2_s⟩
  · rw [u2_n (by omega)]
    exact h q hq
theorem md_lf {mo : MK} {kx : Int32} (h : ∃ t, t ≤ 16 ∧ mo 1 0 = nI t) (h0 : ¬ kx < 0) (h1 : ¬ ((u2 mo 0 0 (0 : Int32)) 1 0) ≤ kx) : vp_in kx 16 := by
  obtain ⟨t, ht, e⟩ := h
  rw [u2_n (by omega), e] at h1
  obtain ⟨j, hj, rfl⟩ := nI_of h0
  apply vp_in_nI _ (by decide)
  apply Nat.lt_of_not_le
  intro hle
  exact h1 (nI_le (by omega) hj)
def MPW (mo : MK) (pr x : Int32) : Prop := ¬ sp_M_file (u2 mo 0 0 (0 : Int32)) pr x < 0 → (u2 mo 0 0 (0 : Int32)) 6 (sp_M_file (u2 mo 0 0 (0 : Int32)) pr x).toNatClampNeg = 1 → ∃ k n, k < 8 ∧ n ≤ 512 ∧ (u2 mo 0 0 (0 : Int32)) 7 (sp_M_file (u2 mo 0 0 (0 : Int32)) pr x).toNatClampNeg = nI k ∧ (u2 mo 0 0 (0 : Int32)) 10 k = nI n
theorem md_pk {mo : MK} {pr x : Int32} (hW : MPW mo pr x) (h1 : ¬ sp_M_file (u2 mo 0 0 (0 : Int32)) pr x < 0) (h2 : (u2 mo 0 0 (0 : Int32)) 6 (sp_M_file (u2 mo 0 0 (0 : Int32)) pr x).toNatClampNeg = 1) : vp_in ((u2 mo 0 0 (0 : Int32)) 7 (sp_M_file (u2 mo 0 0 (0 : Int32)) pr x).toNatClampNeg) 8 := by
  obtain ⟨k, n, hk, hn, e1, e2⟩ := hW h1 h2
  rw [e1]
  exact vp_in_nI hk (by decide)
theorem ix512 (k j : Nat) : ((512 : Int32) * nI k) + nI j = nI (512 * k + j) := by
  rw [show (512 : Int32) = nI 512 from rfl, pk_mul, nI_add]
theorem md_pq {mo : MK} {pr x : Int32} (hW : MPW mo pr x) (h1 : ¬ sp_M_file (u2 mo 0 0 (0 : Int32)) pr x < 0) (h2 : (u2 mo 0 0 (0 : Int32)) 6 (sp_M_file (u2 mo 0 0 (0 : Int32)) pr x).toNatClampNeg = 1) (h3 : ¬ (u2 mo 0 0 (0 : Int32)) 10 ((u2 mo 0 0 (0 : Int32)) 7 (sp_M_file (u2 mo 0 0 (0 : Int32)) pr x).toNatClampNeg).toNatClampNeg = 512) : vp_in (((512 : Int32) * ((u2 mo 0 0 (0 : Int32)) 7 (sp_M_file (u2 mo 0 0 (0 : Int32)) pr x).toNatClampNeg)) + ((u2 mo 0 0 (0 : Int32)) 10 ((u2 mo 0 0 (0 : Int32)) 7 (sp_M_file (u2 mo 0 0 (0 : Int32)) pr x).toNatClampNeg).toNatClampNeg)) 4096 := by
  obtain ⟨k, n, hk, hn, e1, e2⟩ := hW h1 h2
  rw [e1, nI_clamp (by omega), e2] at h3 ⊢
  rw [ix512]
  have : n ≠ 512 := fun e => h3 (by rw [e]; rfl)
  exact vp_in_nI (by omega) (by decide)
theorem md_tq0 {mo : MK} {pr x : Int32} (hW : MPW mo pr x) (h1 : ¬ sp_M_file (u2 mo 0 0 (0 : Int32)) pr x < 0) (h2 : (u2 mo 0 0 (0 : Int32)) 6 (sp_M_file (u2 mo 0 0 (0 : Int32)) pr x).toNatClampNeg = 1) : vp_in ((512 : Int32) * ((u2 mo 0 0 (0 : Int32)) 7 (sp_M_file (u2 mo 0 0 (0 : Int32)) pr x).toNatClampNeg)) 4096 := by
  obtain ⟨k, n, hk, hn, e1, e2⟩ := hW h1 h2
  rw [e1, show (512 : Int32) = nI 512 from rfl, pk_mul]
  exact vp_in_nI (by omega) (by decide)
theorem md_tin0 {mo : MK} {pr x : Int32} (hW : MPW mo pr x) (h1 : ¬ sp_M_file (u2 mo 0 0 (0 : Int32)) pr x < 0) (h2 : (u2 mo 0 0 (0 : Int32)) 6 (sp_M_file (u2 mo 0 0 (0 : Int32)) pr x).toNatClampNeg = 1) (h3 : ¬ (u2 mo 0 0 (0 : Int32)) 10 ((u2 mo 0 0 (0 : Int32)) 7 (sp_M_file (u2 mo 0 0 (0 : Int32)) pr x).toNatClampNeg).toNatClampNeg = 0) :
    ∃ kb t, kb < 8 ∧ t ≤ 511 ∧ (u2 mo 0 0 (0 : Int32)) 7 (sp_M_file (u2 mo 0 0 (0 : Int32)) pr x).toNatClampNeg = nI kb ∧ (u2 (u2 mo 0 0 (0 : Int32)) 10 ((u2 mo 0 0 (0 : Int32)) 7 (sp_M_file (u2 mo 0 0 (0 : Int32)) pr x).toNatClampNeg).toNatClampNeg (((u2 mo 0 0 (0 : Int32)) 10 ((u2 mo 0 0 (0 : Int32)) 7 (sp_M_file (u2 mo 0 0 (0 : Int32)) pr x).toNatClampNeg).toNatClampNeg) - (1 : Int32))) 10 kb = nI t := by
  obtain ⟨k, n, hk, hn, e1, e2⟩ := hW h1 h2
  rw [e1, nI_clamp (by omega)] at h3 ⊢
  rw [e2] at h3
  cases n with
  | zero => exact absurd rfl h3
  | succ n => exact ⟨k, n, hk, by omega, rfl, by rw [u2_s, e2, nI_pred]⟩
theorem md_tk {mo : MK} {kx : Int32} (h : ∃ kb t, kb < 8 ∧ t ≤ 511 ∧ kx = nI kb ∧ mo 10 kb = nI t) : vp_in kx 8 := by
  obtain ⟨kb, t, h1, h2, h3, h4⟩ := h
  rw [h3]
  exact vp_in_nI h1 (by decide)
theorem md_tlt {mo : MK} {kx : Int32} {j : Nat} (h : ∃ kb t, kb < 8 ∧ t ≤ 511 ∧ kx = nI kb ∧ mo 10 kb = nI t) (hc : ¬ (mo 10 kx.toNatClampNeg) ≤ nI j) (hj : j ≤ 511) : ∃ kb, kb < 8 ∧ kx = nI kb ∧ j + 1 ≤ 511 := by
  obtain ⟨kb, t, h1, h2, h3, h4⟩ := h
  rw [h3, nI_clamp (by omega), h4] at hc
  refine ⟨kb, h1, h3, ?_⟩
  have : ¬ t ≤ j := fun e => hc (nI_le e (by omega))
  omega
theorem md_tadv {mo : MK} {kx : Int32} {j : Nat} (h : ∃ kb t, kb < 8 ∧ t ≤ 511 ∧ kx = nI kb ∧ mo 10 kb = nI t) (hc : ¬ (mo 10 kx.toNatClampNeg) ≤ nI j) (hj : j ≤ 511) : j + 1 ≤ 511 := (md_tlt h hc hj).choose_spec.2.2
theorem md_tq1 {mo : MK} {kx : Int32} {j : Nat} (h : ∃ kb t, kb < 8 ∧ t ≤ 511 ∧ kx = nI kb ∧ mo 10 kb = nI t) (hc : ¬ (mo 10 kx.toNatClampNeg) ≤ nI j) (hj : j ≤ 511) : vp_in ((((512 : Int32) * kx) + nI j) + (1 : Int32)) 4096 := by
  obtain ⟨kb, h1, rfl, h2⟩ := md_tlt h hc hj
  rw [ix512, nI_1]
  exact vp_in_nI (by omega) (by decide)
theorem md_tq2 {mo : MK} {kx : Int32} {j : Nat} (h : ∃ kb t, kb < 8 ∧ t ≤ 511 ∧ kx = nI kb ∧ mo 10 kb = nI t) (hc : ¬ (mo 10 kx.toNatClampNeg) ≤ nI j) (hj : j ≤ 511) : vp_in (((512 : Int32) * kx) + nI j) 4096 := by
  obtain ⟨kb, h1, rfl, h2⟩ := md_tlt h hc hj
  rw [ix512]
  exact vp_in_nI (by omega) (by decide)
theorem md_tinv {mo : MK} {kx : Int32} {i : Nat} {v : Int32} (h : ∃ kb t, kb < 8 ∧ t ≤ 511 ∧ kx = nI kb ∧ mo 10 kb = nI t) : ∃ kb t, kb < 8 ∧ t ≤ 511 ∧ kx = nI kb ∧ (u2 mo 11 i v) 10 kb = nI t := by
  obtain ⟨kb, t, h1, h2, h3, h4⟩ := h
  exact ⟨kb, t, h1, h2, h3, by rw [u2_n (by omega)]; exact h4⟩
theorem md_e8 {kx : Int32} (h0 : ¬ kx < 0) (h1 : ¬ (7 : Int32) < kx) : vp_in kx 8 := by
  obtain ⟨j, hj, rfl⟩ := nI_of h0
  apply vp_in_nI _ (by decide)
  apply Nat.lt_of_not_le
  intro hle
  exact h1 ((lt_lit (B := 7) rfl (by decide) hj).mpr (by omega))
theorem rem_eq (n : Nat) (hn : n < 2 ^ 31) : nI n - nI n / (4096 : Int32) * (4096 : Int32) = nI (n % 4096) := pk_rem (d := 4096) hn (by decide) (by decide)
theorem md_sc {mo : MK} (hs : ∃ n, n + 1 < 2 ^ 30 ∧ mo 4 0 = nI n) : vp_in ((mo 4 0) - (mo 4 0) / (4096 : Int32) * (4096 : Int32)) 4096 := by
  obtain ⟨n, hn, e⟩ := hs
  rw [e, rem_eq n (by omega)]
  exact vp_in_nI (Nat.mod_lt _ (by decide)) (by decide)
theorem md_sh {kx : Int32} (h : ¬ kx < 0) : vp_in (kx - kx / (4096 : Int32) * (4096 : Int32)) 4096 := by
  obtain ⟨j, hj, rfl⟩ := nI_of h
  rw [rem_eq j hj]
  exact vp_in_nI (Nat.mod_lt _ (by decide)) (by decide)
theorem pu_c {mo mo' : MK} (e : mo' 5 = mo 5) (p : Nat) : pu mo' p = pu mo p := by
  funext x
  unfold pu
  rw [e]
theorem pf_c {mo mo' : MK} (e : mo' 5 = mo 5) : pf mo' = pf mo := by
  funext x
  unfold pf
  rw [mn_eq, mn_eq, e]
theorem mk_5 (mo : MK) (pr x so wt wy : Int32) : (sp_M_makes mo pr x so wt wy).2 5 = upd (mo 5) (((16 : Int32) * pr) + x).toNatClampNeg (sp_M_freeFile mo + 1) := by
  unfold sp_M_makes
  dsimp only
  rw [u2_off (by decide), u2_off (by decide), u2_off (by decide), u2_off (by decide), u2_row]
theorem up_ct {P Q : Nat → Bool} {n k : Nat} (h : ∀ j, j < n → j ≠ k → Q j = P j) : ct Q n ≤ ct P n + 1 := by
  by_cases hk : k < n
  · have := ct_upd (P := P) (Q := Q) n hk h
    split at this <;> split at this <;> omega
  · rw [ct_congr (P := Q) (Q := P) n (fun j hj => h j hj (by omega))]
    omega
theorem us_14 {mo : MK} {p : Nat} (hp : p < 15) (hu : ¬ (14 : Int32) < sp_M_used mo (nI p)) : ct (pu mo p) 16 ≤ 14 := by
  rw [mu_eq mo hp] at hu
  have h1 := ct_le (pu mo p) 16
  apply Nat.le_of_not_lt
  intro h
  exact hu ((lt_lit (B := 14) rfl (by decide) (by omega)).mpr h)
theorem fs_30 {mo : MK} (hf : ¬ (30 : Int32) < sp_M_files mo) : ct (pf mo) 32 ≤ 30 := by
  rw [mf_eq] at hf
  have h1 := ct_le (pf mo) 32
  apply Nat.le_of_not_lt
  intro h
  exact hf ((lt_lit (B := 30) rfl (by decide) (by omega)).mpr h)
theorem sr_lt {P : Nat → Bool} {n : Nat} (h : ct P n < n) : sr P n 0 < n := by
  have h1 := sr_le P n 0
  apply Nat.lt_of_le_of_ne (by omega)
  intro e
  have := sr_full.mp e
  omega
theorem md_p1v {mo : MK} {k : Nat} {pr : Int32} (hp : ¬ sp_M_isPlace pr = 0) (hu : ¬ (14 : Int32) < sp_M_used mo pr) : vp_in (((16 : Int32) * pr) + sp_M_vacant (u2 mo 10 k (0 : Int32)) pr) 240 := by
  obtain ⟨p, hq, rfl⟩ := isPl hp
  have h1 := us_14 hq hu
  have h2 := sr_lt (P := pu mo p) (n := 16) (by omega)
  rw [mv_eq _ hq, pu_c (u2_off (by decide)) p, ix16]
  exact vp_in_nI (by omega) (by decide)
theorem md_p1f {mo : MK} {k : Nat} (hf : ¬ (30 : Int32) < sp_M_files mo) : vp_in (sp_M_freeFile (u2 mo 10 k (0 : Int32))) 32 := by
  have h1 := fs_30 hf
  have h2 := sr_lt (P := pf mo) (n := 32) (by omega)
  rw [mr_eq, pf_c (u2_off (by decide))]
  exact vp_in_nI (by omega) (by decide)
theorem md_p2v {mo : MK} {k : Nat} {pr so wt wy : Int32} (hp : ¬ sp_M_isPlace pr = 0) (hu : ¬ (14 : Int32) < sp_M_used mo pr) : vp_in (((16 : Int32) * pr) + sp_M_vacant ((sp_M_makes (u2 mo 10 k (0 : Int32)) pr (sp_M_vacant (u2 mo 10 k (0 : Int32)) pr) so wt wy).2) pr) 240 := by
  obtain ⟨p, hq, rfl⟩ := isPl hp
  have h1 := us_14 hq hu
  have h2 := sr_lt (P := pu mo p) (n := 16) (by omega)
  have h3 : ct (pu (sp_M_makes (u2 mo 10 k (0 : Int32)) (nI p) (sp_M_vacant (u2 mo 10 k (0 : Int32)) (nI p)) so wt wy).2 p) 16 ≤ ct (pu mo p) 16 + 1 := by
    apply up_ct (k := sr (pu mo p) 16 0)
    intro j hj hne
    unfold pu
    rw [mk_5, mv_eq _ hq, pu_c (u2_off (by decide)) p, ix16c hq h2, pk_un (by omega), u2_n (by omega)]
  have h4 := sr_lt (P := pu (sp_M_makes (u2 mo 10 k (0 : Int32)) (nI p) (sp_M_vacant (u2 mo 10 k (0 : Int32)) (nI p)) so wt wy).2 p) (n := 16) (by omega)
  rw [mv_eq _ hq, ix16]
  exact vp_in_nI (by omega) (by decide)
theorem pf_set {mo : MK} {k w : Nat} {o : MK} (ho : o 5 = upd (mo 5) k (nI w + 1)) (hk : mo 5 k ≤ 0) (hw : w < 32) {f : Nat} (hf : f < 32) (hne : f ≠ w) : pf o f = pf mo f := by
  unfold pf
  rw [mn_eq, mn_eq, ct_congr (P := fun q => decide (o 5 q = nI f + 1)) (Q := fun q => decide (mo 5 q = nI f + 1)) 240 (fun q _ => ?_)]
  rw [ho]
  by_cases e : q = k
  · subst e
    have h1 : ¬ nI w + 1 = nI f + 1 := by
      rw [nI_1, nI_1, nI_eq (by omega) (by omega)]
      omega
    have h2 : ¬ mo 5 q = nI f + 1 := by
      intro h
      rw [h, nI_1, nI_le0 (by omega)] at hk
      omega
    rw [pk_us]
    simp [h1, h2]
  · rw [pk_un e]
theorem vc_0 {mo : MK} {p : Nat} (h : sr (pu mo p) 16 0 < 16) : mo 5 (16 * p + sr (pu mo p) 16 0) ≤ 0 := by
  have := sr_at (pu mo p) 16 0 (by omega)
  generalize sr (pu mo p) 16 0 = r at this ⊢
  simpa [pu] using this
theorem md_p2f {mo : MK} {k : Nat} {pr so wt wy : Int32} (hp : ¬ sp_M_isPlace pr = 0) (hu : ¬ (14 : Int32) < sp_M_used mo pr) (hf : ¬ (30 : Int32) < sp_M_files mo) : vp_in (sp_M_freeFile ((sp_M_makes (u2 mo 10 k (0 : Int32)) pr (sp_M_vacant (u2 mo 10 k (0 : Int32)) pr) so wt wy).2)) 32 := by
  obtain ⟨p, hq, rfl⟩ := isPl hp
  have h1 := us_14 hq hu
  have h2 := sr_lt (P := pu mo p) (n := 16) (by omega)
  have g1 := fs_30 hf
  have g2 := sr_lt (P := pf mo) (n := 32) (by omega)
  have e5 : (sp_M_makes (u2 mo 10 k (0 : Int32)) (nI p) (sp_M_vacant (u2 mo 10 k (0 : Int32)) (nI p)) so wt wy).2 5 = upd (mo 5) (16 * p + sr (pu mo p) 16 0) (nI (sr (pf mo) 32 0) + 1) := by
    rw [mk_5, mv_eq _ hq, pu_c (u2_off (by decide)) p, ix16c hq h2, mr_eq, pf_c (u2_off (by decide)), u2_off (by decide)]
  have h3 : ct (pf (sp_M_makes (u2 mo 10 k (0 : Int32)) (nI p) (sp_M_vacant (u2 mo 10 k (0 : Int32)) (nI p)) so wt wy).2) 32 ≤ ct (pf mo) 32 + 1 := by
    apply up_ct (k := sr (pf mo) 32 0)
    intro j hj hne
    exact pf_set e5 (vc_0 h2) g2 hj hne
  have h4 := sr_lt (P := pf (sp_M_makes (u2 mo 10 k (0 : Int32)) (nI p) (sp_M_vacant (u2 mo 10 k (0 : Int32)) (nI p)) so wt wy).2) (n := 32) (by omega)
  rw [mr_eq]
  exact vp_in_nI h4 (by decide)
