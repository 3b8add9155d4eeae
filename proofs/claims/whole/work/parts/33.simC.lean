/-! Pure: bytes into pipes and out of them. -/
theorem PC_p {d d' : DK} {mo mo' : MK} {k : Nat} (h1 : d'.1 8 k = d.1 8 k) (h2 : d'.1 9 k = d.1 9 k) (h3 : d'.1 (18 + k) = d.1 (18 + k)) (h4 : mo' 10 k = mo 10 k) (h5 : ∀ j, j < 512 → mo' 11 (512 * k + j) = mo 11 (512 * k + j)) (h : PC d mo k) : PC d' mo' k := by
  obtain ⟨n, st, q1, q2, q3, q4, q5, q6⟩ := h
  refine ⟨n, st, q1, q2, by rw [h2]; exact q3, by rw [h4]; exact q4, by rw [h1]; exact q5, fun j hj => ?_⟩
  rw [h3, h5 j (by omega)]
  exact q6 j hj
theorem FI_c {d d' : DK} {mo mo' : MK} {i : Nat} (h2 : d'.2.2 i = d.2.2 i) (h1 : ∀ c, 2 ≤ c → c ≤ 6 → d'.1 c i = d.1 c i) (hm : ∀ c, 6 ≤ c → c ≤ 9 → mo' c i = mo c i) (h : FI d mo i) : FI d' mo' i := by
  unfold FI at h ⊢
  rw [h2, h1 2 (by omega) (by omega), h1 3 (by omega) (by omega), h1 4 (by omega) (by omega), h1 5 (by omega) (by omega), h1 6 (by omega) (by omega), hm 6 (by omega) (by omega), hm 7 (by omega) (by omega), hm 8 (by omega) (by omega), hm 9 (by omega) (by omega)]
  exact h
/-- a change of pipe k's row alone -/
theorem RF_row {d d' : DK} {mo mo' : MK} {k : Nat} (hk : k < 8) (h2 : d'.2 = d.2) (h1 : ∀ c j, 2 ≤ c → c ≤ 11 → ¬ ((c = 8 ∨ c = 9) ∧ j = k) → d'.1 c j = d.1 c j) (h3 : ∀ j, j ≠ k → d'.1 (18 + j) = d.1 (18 + j)) (hm : ∀ c, 5 ≤ c → c ≤ 9 → mo' c = mo c) (hm10 : ∀ j, j ≠ k → mo' 10 j = mo 10 j) (hm11 : ∀ j i, j < 8 → j ≠ k → i < 512 → mo' 11 (512 * j + i) = mo 11 (512 * j + i)) (hp : PC d' mo' k) (h : RF d mo) : RF d' mo' := by
  obtain ⟨a1, a2, a3, a4, a5, a6⟩ := h
  have e21 : d'.2.1 = d.2.1 := by rw [h2]
  refine ⟨fun q hq => ?_, fun j hj => ?_, fun j hj ho => ?_, fun q hq => ES_c (h1 10 q (by omega) (by omega) (by omega)) e21 (hm 6 (by omega) (by omega)) (hm 7 (by omega) (by omega)) (hm 8 (by omega) (by omega)) (a4 q hq), fun q hq => ES_c (h1 11 q (by omega) (by omega) (by omega)) e21 (hm 6 (by omega) (by omega)) (hm 7 (by omega) (by omega)) (hm 8 (by omega) (by omega)) (a5 q hq), fun q hq ho => ?_⟩
  · rw [hm 5 (by omega) (by omega), e21]; exact a1 q hq
  · rw [h1 7 j (by omega) (by omega) (by omega), e21]; exact a2 j hj
  · rw [e21] at ho
    exact FI_c (by rw [h2]) (fun c g1 g2 => h1 c j (by omega) (by omega) (by omega)) (fun c g1 g2 => by rw [hm c (by omega) (by omega)]) (a3 j hj ho)
  · by_cases e : q = k
    · subst e
      exact hp
    · rw [h1 10 q (by omega) (by omega) (by omega), h1 11 q (by omega) (by omega) (by omega)] at ho
      exact PC_p (h1 8 q (by omega) (by omega) (by omega)) (h1 9 q (by omega) (by omega) (by omega)) (h3 q e) (hm10 q e) (fun j hj => hm11 q j hq e hj) (a6 q hq ho)
theorem and9 {n : Nat} (h : n < 2 ^ 31) : nI n &&& (511 : Int32) = nI (n % 512) := pk_andN (by omega) 9 (by decide)
theorem RF_put {d : DK} {mo : MK} {k : Fin 8} {n st : Nat} {bt : Int32} (h : RF d mo) (hn : n < 512) (hst : st < 512) (g1 : d.1 9 k.val = nI n) (g2 : mo 10 k.val = nI n) (g3 : d.1 8 k.val = nI st) (g4 : ∀ j, j < n → d.1 (18 + k.val) ((st + j) % 512) = mo 11 (512 * k.val + j) ∧ vp_nar .byte (mo 11 (512 * k.val + j)) = mo 11 (512 * k.val + j)) :
    RF (sp_Pipe_addLast d k bt) (u2 (u2 mo 11 (512 * k.val + n) (vp_nar .byte bt.toInt8.toInt32)) 10 k.val (nI (n + 1))) := by
  have hk := k.isLt
  have hm := Nat.mod_lt (st + n) (show 0 < 512 by decide)
  have e : sp_Pipe_addLast d k bt = sI (sI d (18 + k.val) ((st + n) % 512) (vp_nar .byte bt.toInt8.toInt32)) 9 k.val (nI (n + 1)) := by
    unfold sp_Pipe_addLast
    rw [sI_n (by omega), g1, g3, nI_add, and9 (by omega), nI_clamp (by omega), nI_1]
  rw [e]
  refine RF_row (d := d) (mo := mo) hk rfl (fun c j h1 h2 h3 => by rw [sI_n (by omega), sI_n (by omega)]) (fun j hj => by rw [sI_off (by omega), sI_off (by omega)]) (fun c h1 h2 => by rw [u2_off (by omega), u2_off (by omega)]) (fun j hj => by rw [u2_n (by omega), u2_n (by omega)]) (fun j i h1 h2 h3 => by rw [u2_n (by omega), u2_n (by omega)]) ?_ h
  refine ⟨n + 1, st, by omega, hst, sI_s, u2_s, by rw [sI_n (by omega), sI_n (by omega)]; exact g3, fun j hj => ?_⟩
  rw [sI_n (by omega), u2_n (by omega)]
  by_cases ej : j = n
  · subst ej
    rw [sI_s, u2_s]
    exact ⟨rfl, by rw [pk_vb]; exact pk_vb bt⟩
  · rw [sI_n (by omega), u2_n (by omega)]
    exact g4 j (by omega)
theorem RR_F {d d' : DK} {mo mo' : MK} {T : Nat} (h : RR d mo T) (hF : RF d' mo') (h1 : ∀ c, c < 2 ∨ (12 ≤ c ∧ c ≤ 17) → d'.1 c = d.1 c) (h2 : ∀ c, (1 ≤ c ∧ c ≤ 4) ∨ (12 ≤ c ∧ c ≤ 14) → mo' c = mo c) : RR d' mo' T :=
  ⟨hF, RL_c (h1 0 (by omega)) (h1 1 (by omega)) (h2 1 (by omega)) (h2 12 (by omega)) h.2.1, RC_c (fun c g1 g2 => h1 c (by omega)) (h2 2 (by omega)) (h2 3 (by omega)) (h2 13 (by omega)) h.2.2.1, RS_c (Nat.le_refl _) (h1 16 (by omega)) (h1 17 (by omega)) (h2 4 (by omega)) (h2 14 (by omega)) h.2.2.2⟩
theorem sim_put {d : DK} {mo : MK} {T : Nat} (h : RR d mo T) (pr x bt : Int32) : (sp_put d pr x bt).1 = (sp_M_put mo pr x bt).1 ∧ RR (sp_put d pr x bt).2 (sp_M_put mo pr x bt).2 T := by
  have h0 := RR_0 h
  unfold sp_put sp_M_put
  generalize u2 mo 0 0 (0 : Int32) = m1 at h0 ⊢
  rcases fo_cases h0.1 pr x with ⟨e1, e2⟩ | ⟨p, q, i, hp, hq, rfl, rfl, hn, e1, e2⟩
  · rw [e1, e2, oc_n, if_pos m1_l]
    exact ⟨rfl, h0⟩
  have hi := i.isLt
  rw [e1, e2, oc_s, if_neg (nI_pos (by omega)), nI_clamp (by omega)]
  obtain ⟨f1, f2, f3, f4⟩ := h0.1.2.2.1 i.val hi (cn_pos (by omega) hn)
  rcases f4 with ⟨k1, k2, k, k3, k4⟩ | ⟨k1, k2, k3⟩
  · have hk := k.isLt
    rw [k1, if_pos rfl]
    rcases f3 with ⟨w1, w2, w3⟩ | ⟨w1, w2, w3⟩ | ⟨w1, w2, w3⟩
    · rw [w1, w3, if_pos rfl, if_neg (by decide)]
      exact ⟨rfl, h0⟩
    · rw [w1, w3, if_neg n01, if_pos rfl, k3, oc_s, k4, nI_clamp (by omega)]
      rcases en_cases h0.1 (h0.1.2.2.2.1 k.val hk) with ⟨q1, q2⟩ | ⟨q1, q2⟩
      · rw [q2, if_neg n01, if_pos q1]
        obtain ⟨n, st, g1, g2, g3, g4, g5, g6⟩ := h0.1.2.2.2.2.2 k.val hk (Or.inl q2)
        unfold sp_Pipe_isFull
        rw [g3, g4]
        by_cases c : n < 512
        · rw [if_pos (show nI n < (512 : Int32) from nI_lt (b := 512) c (by decide)), if_pos rfl, if_neg (show ¬ nI n = (512 : Int32) from fun e => by have := (eq_lit (B := 512) rfl (by decide) (by omega)).mp e; omega)]
          refine ⟨rfl, ?_⟩
          have e : u2 (u2 m1 11 (((512 : Int32) * nI k.val) + nI n).toNatClampNeg (vp_nar .byte bt.toInt8.toInt32)) 10 k.val ((u2 m1 11 (((512 : Int32) * nI k.val) + nI n).toNatClampNeg (vp_nar .byte bt.toInt8.toInt32)) 10 k.val + (1 : Int32)) = u2 (u2 m1 11 (512 * k.val + n) (vp_nar .byte bt.toInt8.toInt32)) 10 k.val (nI (n + 1)) := by
            rw [u2_n (by omega), g4, nI_1, ix512, nI_clamp (by omega)]
          dsimp only
          rw [e]
          refine RR_F h0 (RF_put h0.1 c g2 g3 g4 g5 g6) (fun c hc => ?_) (fun c hc => by rw [u2_off (by omega), u2_off (by omega)])
          unfold sp_Pipe_addLast
          rw [sI_off (by omega), sI_off (by omega)]
        · have en : n = 512 := by omega
          subst en
          rw [if_neg (show ¬ (if nI 512 < (512 : Int32) then (0 : Int32) else 1) = 0 by decide), if_pos (show nI 512 = (512 : Int32) from rfl)]
          exact ⟨rfl, h0⟩
      · rw [q2, if_pos rfl, if_neg (Int32.not_le.mpr q1)]
        exact ⟨rfl, h0⟩
    · exact absurd w1 k2
  · have e : ¬ m1 6 i.val = 1 := by
      rcases k1 with k1 | k1 <;> rw [k1] <;> decide
    rw [if_neg e, k2]
    rcases f3 with ⟨w1, w2, w3⟩ | ⟨w1, w2, w3⟩ | ⟨w1, w2, w3⟩
    · rw [w3, if_pos rfl]; exact ⟨rfl, h0⟩
    · rw [w3, if_neg n01, oc_n]; exact ⟨rfl, h0⟩
    · rw [w3, if_neg n01, oc_n]; exact ⟨rfl, h0⟩
theorem tk_lp (pr x bb : Int32) {k t : Nat} (hk : k < 8) (ht : t ≤ 511) : ∀ n j (m : MK), j ≤ t → j + n = 512 → m 10 k = nI t → (∀ q, j ≤ q → q < t → vp_nar .byte (m 11 (512 * k + q + 1)) = m 11 (512 * k + q + 1)) →
    ∃ m' : MK, lp_M_take pr x n j (nI k) bb m = (bb, m') ∧ (∀ c, c ≠ 11 → m' c = m c) ∧ (∀ q, j ≤ q → q < t → m' 11 (512 * k + q) = m 11 (512 * k + q + 1)) ∧ (∀ q, q < 512 * k + j ∨ 512 * k + t ≤ q → m' 11 q = m 11 q)
  | 0, j, m, h1, h2, _, _ => by omega
  | n + 1, j, m, h1, h2, h3, h4 => by
    rw [lp_M_take, nI_clamp (by omega), h3]
    by_cases hc : t ≤ j
    · rw [if_pos (nI_le hc (by omega))]
      exact ⟨m, rfl, fun _ _ => rfl, fun q g1 g2 => by omega, fun _ _ => rfl⟩
    · rw [if_neg (nI_ge (by omega) (by omega)), ix512, nI_1, nI_clamp (by omega), nI_clamp (by omega), h4 j (Nat.le_refl _) (by omega)]
      obtain ⟨m', g1, g2, g3, g4⟩ := tk_lp pr x bb hk ht n (j + 1) (u2 m 11 (512 * k + j) (m 11 (512 * k + j + 1))) (by omega) (by omega) (by rw [u2_n (by omega)]; exact h3) (fun q q1 q2 => by rw [u2_n (by omega)]; exact h4 q (by omega) q2)
      refine ⟨m', g1, fun c hc => by rw [g2 c hc, u2_off hc], fun q q1 q2 => ?_, fun q hq => ?_⟩
      · by_cases e : q = j
        · subst e
          rw [g4 (512 * k + q) (Or.inl (by omega)), u2_s]
        · rw [g3 q (by omega) q2, u2_n (by omega)]
      · rw [g4 q (by omega), u2_n (by omega)]
theorem sim_take {d : DK} {mo : MK} {T : Nat} (h : RR d mo T) (pr x : Int32) : (sp_take d pr x).1 = (sp_M_take mo pr x).1 ∧ RR (sp_take d pr x).2 (sp_M_take mo pr x).2 T := by
  have h0 := RR_0 h
  unfold sp_take sp_M_take
  generalize u2 mo 0 0 (0 : Int32) = m1 at h0 ⊢
  rcases fo_cases h0.1 pr x with ⟨e1, e2⟩ | ⟨p, q, i, hp, hq, rfl, rfl, hn, e1, e2⟩
  · rw [e1, e2, oc_n, if_pos m1_l]
    exact ⟨rfl, h0⟩
  have hi := i.isLt
  rw [e1, e2, oc_s, if_neg (nI_pos (by omega)), nI_clamp (by omega)]
  obtain ⟨f1, f2, f3, f4⟩ := h0.1.2.2.1 i.val hi (cn_pos (by omega) hn)
  rcases f4 with ⟨k1, k2, k, k3, k4⟩ | ⟨k1, k2, k3⟩
  · have hk := k.isLt
    rw [k1, if_pos rfl]
    rcases f3 with ⟨w1, w2, w3⟩ | ⟨w1, w2, w3⟩ | ⟨w1, w2, w3⟩
    · rw [w1, w2, if_neg n01, if_pos rfl, k3, oc_s, k4, nI_clamp (by omega)]
      have ho : d.1 10 k.val = 1 := by
        rcases h0.1.2.2.2.1 k.val hk with ⟨q1, -⟩ | ⟨q1, q2⟩
        · exact q1
        · exact absurd ⟨hi, cn_pos (by omega) hn, k1, k4, w1⟩ (q2 i.val)
      obtain ⟨n, st, g1, g2, g3, g4, g5, g6⟩ := h0.1.2.2.2.2.2 k.val hk (Or.inl ho)
      rw [g3, g4]
      cases n with
      | zero =>
        rw [if_pos (show nI 0 ≤ (0 : Int32) by decide), if_pos (show nI 0 = (0 : Int32) from rfl)]
        rcases en_cases h0.1 (h0.1.2.2.2.2.1 k.val hk) with ⟨q1, q2⟩ | ⟨q1, q2⟩
        · rw [q2, if_neg n01, if_pos q1]; exact ⟨rfl, h0⟩
        · rw [q2, if_pos rfl, if_neg (Int32.not_le.mpr q1)]; exact ⟨rfl, h0⟩
      | succ n =>
        rw [if_neg (nI_nle (by omega) (by omega)), if_neg (nI_ne0 (by omega) (by omega)), nI_pred, show (512 : Int32) * nI k.val = nI (512 * k.val) from pk_mul 512 k.val, nI_clamp (by omega)]
        obtain ⟨m', r1, r2, r3, r4⟩ := tk_lp (nI p) (nI q) (m1 11 (512 * k.val) &&& (255 : Int32)) hk (show n ≤ 511 by omega) 512 0 (u2 m1 10 k.val (nI n)) (by omega) (by omega) u2_s (fun q q1 q2 => by rw [u2_n (by omega)]; exact (g6 (q + 1) (by omega)).2)
        rw [r1]
        have es : sp_Pipe_removeFirst d k = (m1 11 (512 * k.val) &&& (255 : Int32), sI (sI d 8 k.val (nI ((st + 1) % 512))) 9 k.val (nI n)) := by
          unfold sp_Pipe_removeFirst
          have e0 := (g6 0 (by omega)).1
          rw [sI_n (by omega), g3, g5, nI_1, and9 (by omega), and9 (by omega), nI_clamp (by omega), nI_pred]
          rw [Nat.add_zero, Nat.add_zero] at e0
          rw [e0]
        rw [es]
        refine ⟨rfl, ?_⟩
        show RR (sI (sI d 8 k.val (nI ((st + 1) % 512))) 9 k.val (nI n)) m' T
        refine RR_F h0 (RF_row (d := d) (mo := m1) hk rfl (fun c j h1 h2 h3 => by rw [sI_n (by omega), sI_n (by omega)]) (fun j hj => by rw [sI_off (by omega), sI_off (by omega)]) (fun c h1 h2 => by rw [r2 c (by omega), u2_off (by omega)]) (fun j hj => by rw [r2 10 (by omega), u2_n (by omega)]) (fun j i h1 h2 h3 => by rw [r4 _ (by omega), u2_n (by omega)]) ?_ h0.1) (fun c hc => by rw [sI_off (by omega), sI_off (by omega)]) (fun c hc => by rw [r2 c (by omega), u2_off (by omega)])
        refine ⟨n, (st + 1) % 512, by omega, by omega, sI_s, by rw [r2 10 (by omega)]; exact u2_s, by rw [sI_n (by omega)]; exact sI_s, fun j hj => ?_⟩
        rw [sI_n (by omega), sI_n (by omega), r3 j (by omega) hj, u2_n (by omega)]
        have := g6 (j + 1) (by omega)
        rw [show ((st + 1) % 512 + j) % 512 = (st + (j + 1)) % 512 by omega]
        exact this
    · rw [w1, w2, if_pos rfl, if_neg (by decide)]
      exact ⟨rfl, h0⟩
    · exact absurd w1 k2
  · have e : ¬ m1 6 i.val = 1 := by
      rcases k1 with k1 | k1 <;> rw [k1] <;> decide
    rw [if_neg e, k2]
    rcases f3 with ⟨w1, w2, w3⟩ | ⟨w1, w2, w3⟩ | ⟨w1, w2, w3⟩
    · rw [w2, if_neg n01, oc_n]; exact ⟨rfl, h0⟩
    · rw [w2, if_pos rfl]; exact ⟨rfl, h0⟩
    · rw [w2, if_neg n01, oc_n]; exact ⟨rfl, h0⟩
