/-! What the model's contracts ask, out of the relation. -/
theorem MN_of {d : DK} {mo : MK} {T : Nat} (h : RR d mo T) : MN mo := fun k hk => ⟨nv (d.2.1 k), nv_le _, h.1.1 k hk⟩
theorem LF_of {d : DK} {mo : MK} {T : Nat} (h : RR d mo T) : ∃ t, t ≤ 16 ∧ mo 1 0 = nI t := by
  obtain ⟨n, h1, h2, h3, h4⟩ := h.2.1
  exact ⟨n, h1, h3⟩
theorem SC_of {d : DK} {mo : MK} {T K : Nat} (h : RR d mo T) (hT : T + K < 2 ^ 30) : ∃ n, n + K < 2 ^ 30 ∧ mo 4 0 = nI n := by
  obtain ⟨n, h1, h2, h3, h4⟩ := h.2.2.2
  exact ⟨n, by omega, h3⟩
theorem CO_of {d : DK} {mo : MK} {T : Nat} (h : RR d mo T) : ∃ dn t, dn ≤ t ∧ t ≤ 128 ∧ mo 3 0 = nI dn ∧ mo 2 0 = nI t := by
  obtain ⟨dn, n, st, g1, g2, g3, g4, g5, g6, g7, g8, g9⟩ := h.2.2.1
  exact ⟨dn, n, g1, g2, g5, g7⟩
theorem PW_of {d : DK} {mo : MK} {T : Nat} (h : RR d mo T) (pr x : Int32) : MPW mo pr x := by
  have h0 := RR_0 h
  unfold MPW
  generalize u2 mo 0 0 (0 : Int32) = m1 at h0 ⊢
  intro h1 h2
  rcases fo_cases h0.1 pr x with ⟨e1, e2⟩ | ⟨p, q, i, hp, hq, rfl, rfl, hn, e1, e2⟩
  · rw [e2] at h1
    exact absurd m1_l h1
  have hi := i.isLt
  rw [e2, nI_clamp (by omega)] at h2 ⊢
  have hpos := cn_pos (show 16 * p + q < 240 by omega) hn
  obtain ⟨f1, f2, f3, f4⟩ := h0.1.2.2.1 i.val hi hpos
  rcases f4 with ⟨k1, k2, k, k3, k4⟩ | ⟨k1, -⟩
  · have hk := k.isLt
    have ho : d.1 10 k.val = 1 ∨ d.1 11 k.val = 1 := by
      rcases f3 with ⟨w1, -⟩ | ⟨w1, -⟩ | ⟨w1, -⟩
      · rcases h0.1.2.2.2.1 k.val hk with ⟨z, -⟩ | ⟨-, z⟩
        · exact Or.inl z
        · exact absurd ⟨hi, hpos, k1, k4, w1⟩ (z i.val)
      · rcases h0.1.2.2.2.2.1 k.val hk with ⟨z, -⟩ | ⟨-, z⟩
        · exact Or.inr z
        · exact absurd ⟨hi, hpos, k1, k4, w1⟩ (z i.val)
      · exact absurd w1 k2
    obtain ⟨n, st, g1, g2, g3, g4, g5, g6⟩ := h0.1.2.2.2.2.2 k.val hk ho
    exact ⟨k.val, n, hk, g1, k4, g4⟩
  · rcases k1 with k1 | k1 <;> rw [k1] at h2 <;> exact absurd h2 (by decide)
set_option maxHeartbeats 16000000 in
set_option maxRecDepth 100000 in
theorem law_loop {p : Program} {l : Launch} {e : Env} {s : State} {m : MethodId} {below : List Frame} {meth : Method} {c : Code} {dC : Nat → ClassId} {dI : Nat → Nat → Nat} {kc : Nat → ClassId} {b L : Nat} {xs : Nat → Int32} (hL : L ≤ 2560) (C0 : lw_At p s m meth c b L xs) (hK : va_K (dC, dI) vwCl (tysD kc) s) (a bm : Nat → Nat) :
    ∀ (n t : Nat) (d : DK) (mo : MK) (H : Heap) (locs : List Loc) (ls : Array Slot), t ≤ 512 → t + n = 513 → RR d mo (400 * t) → va_P (dC, dI) vwCl (ml 57 a (dcell kc a d) ++ ml 11 bm (mcell kc bm mo)) H → va_D (fun q : Nat => s.heap.size ≤ q) (ml 57 a (dcell kc a d) ++ ml 11 bm (mcell kc bm mo)) → va_S (fun q : Nat => s.heap.size ≤ q) s.heap H locs → lv_has ls 4 [(0, .ref b), (1, .ref (a 0)), (2, .ref (bm 0)), (3, .int (nI (5 * t)))] → W p l e room_1 s m #[Value.ref b] below meth c H locs 600000 7302250 (lw_Z below #[Value.ref b] s) (F0 m 18 ls []) := by
  obtain ⟨hx, hb, hr, hml, hown, hts0, hX, hbl, hlocks, hgv⟩ := C0
  have hts : ∀ w ∈ wsA, w.before #[Value.ref b] s = true := fun w h => hts0 w (List.mem_filter.mp h).1
  have hA : ∀ q : Nat, s.heap.size ≤ q → (fun q : Nat => s.heap.size ≤ q) q := fun _ h => h
  have hbA : ¬ (fun q : Nat => s.heap.size ≤ q) b := Nat.not_le.mpr hbl
  intro n
  induction n with
  | zero =>
    intro t d mo H locs ls h1 h2
    exact absurd h2 (by omega)
  | succ n ih =>
    intro t d mo H locs ls ht hn hR hP hD hS hl
    refine lv_iload_n hx hb d_law_18 rfl (lv_at hl 3 rfl) ?_
    refine lv_aload_n hx hb d_law_19 rfl (lv_at hl 0 rfl) ?_
    refine va_slen hx hb hX hbl hbA hS d_law_20 ?_
    refine lv_iconst (v := 5) hx hb d_law_21 (by decide) ?_
    refine lv_isub hx hb d_law_22 ?_
    refine lv_icmp_gt (tgt := 684) hx hb d_law_23 (by decide) (fun hc => ?_) (fun hc => ?_)
    · refine lv_iconst (v := 1) hx hb d_law_684 (by decide) ?_
      refine va_forget (fun q hq => hS.2.2 q hq) ?_
      exact lw_ret hx hb hr hlocks d_law_685
    have hlt : 5 * t + 5 ≤ L := by
      apply Nat.le_of_not_lt
      intro hlt
      apply hc
      show nI L - nI 5 < nI (5 * t)
      by_cases h5 : 5 ≤ L
      · rw [pk_sub h5]
        exact nI_lt (by omega) (by omega)
      · have q1 : nI L - nI 5 < 0 := pk_sneg (by decide) (by omega)
        rcases Nat.eq_zero_or_pos (5 * t) with z | z
        · rw [z]
          exact q1
        · exact Int32.lt_trans q1 (nI_lt (a := 0) z (by omega))
    have ht2 : t + 1 ≤ 512 := by omega
    have hin : ∀ k, k < 5 → vp_in (nI (5 * t + k)) L := fun k hk => vp_in_nI (by omega) (by omega)
    have next : ∀ (d : DK) (mo : MK) (H : Heap) (locs : List Loc), RR d mo (400 * (t + 1)) → va_P (dC, dI) vwCl (ml 57 a (dcell kc a d) ++ ml 11 bm (mcell kc bm mo)) H → va_D (fun q : Nat => s.heap.size ≤ q) (ml 57 a (dcell kc a d) ++ ml 11 bm (mcell kc bm mo)) → va_S (fun q : Nat => s.heap.size ≤ q) s.heap H locs → W p l e room_1 s m #[Value.ref b] below meth c H locs 600000 7302250 (lw_Z below #[Value.ref b] s) (F0 m 678 ls []) := by
      intro d mo H locs hR hP hD hS
      refine lv_iinc (v := nI (5 * (t + 1))) (lv' := [(3, .int (nI (5 * (t + 1)))), (0, .ref b), (1, .ref (a 0)), (2, .ref (bm 0))]) hx hb d_law_678 hl (k := 3) rfl (nI_add (5 * t) 5) (by decide) rfl (fun ls hl => ?_)
      refine lv_goto (tgt := 18) hx hb d_law_681 (by decide) ?_
      exact ih (t + 1) d mo _ _ ls ht2 (by omega) hR hP hD hS (lv_sub hl [1, 2, 3, 0] rfl)
    refine lv_aload_n hx hb d_law_26 rfl (lv_at hl 0 rfl) ?_
    refine lv_iload_n hx hb d_law_27 rfl (lv_at hl 3 rfl) ?_
    refine va_sld hx hb hX hbl hbA hS (hin 0 (by decide)) d_law_28 ?_
    refine lv_bipush (v := 31) hx hb d_law_29 (by decide) ?_
    refine lv_iand hx hb d_law_31 ?_
    refine lv_topi (fun sw esw => ?_)
    by_cases e_0 : sw = (0 : Int32)
    · refine lv_tableIn (off := 88) (tgt := 120) hx hb d_law_32 (by rw [e_0]; decide) (by rw [e_0]; decide) (by rw [e_0]; rfl) (by decide) ?_
      refine lv_aload_n hx hb d_law_120 rfl (lv_at hl 1 rfl) ?_
      refine lv_aload_n hx hb d_law_121 rfl (lv_at hl 0 rfl) ?_
      refine lv_iload_n hx hb d_law_122 rfl (lv_at hl 3 rfl) ?_
      refine lv_iconst (v := 1) hx hb d_law_123 (by decide) ?_
      refine lv_iadd hx hb d_law_124 ?_
      refine lv_eqi (nI_add (5 * t) 1) ?_
      refine va_sld hx hb hX hbl hbA hS (hin 1 (by decide)) d_law_125 ?_
      refine lv_aload_n hx hb d_law_126 rfl (lv_at hl 0 rfl) ?_
      refine lv_iload_n hx hb d_law_127 rfl (lv_at hl 3 rfl) ?_
      refine lv_iconst (v := 2) hx hb d_law_128 (by decide) ?_
      refine lv_iadd hx hb d_law_129 ?_
      refine lv_eqi (nI_add (5 * t) 2) ?_
      refine va_sld hx hb hX hbl hbA hS (hin 2 (by decide)) d_law_130 ?_
      refine lv_aload_n hx hb d_law_131 rfl (lv_at hl 0 rfl) ?_
      refine lv_iload_n hx hb d_law_132 rfl (lv_at hl 3 rfl) ?_
      refine lv_iconst (v := 3) hx hb d_law_133 (by decide) ?_
      refine lv_iadd hx hb d_law_134 ?_
      refine lv_eqi (nI_add (5 * t) 3) ?_
      refine va_sld hx hb hX hbl hbA hS (hin 3 (by decide)) d_law_135 ?_
      refine lv_aload_n hx hb d_law_136 rfl (lv_at hl 0 rfl) ?_
      refine lv_iload_n hx hb d_law_137 rfl (lv_at hl 3 rfl) ?_
      refine lv_iconst (v := 4) hx hb d_law_138 (by decide) ?_
      refine lv_iadd hx hb d_law_139 ?_
      refine lv_eqi (nI_add (5 * t) 4) ?_
      refine va_sld hx hb hX hbl hbA hS (hin 4 (by decide)) d_law_140 ?_
      refine sd_calli (va_runV (As := [.int (xs (nI (5 * t + 1)).toNatClampNeg), .int (xs (nI (5 * t + 2)).toNatClampNeg), .int (xs (nI (5 * t + 3)).toNatClampNeg), .int (xs (nI (5 * t + 4)).toNatClampNeg)]) (rest := []) ⟨hx, hb, hml, hown, hts⟩ (c_open l dC dI kc a _ d (xs (nI (5 * t + 1)).toNatClampNeg) (xs (nI (5 * t + 2)).toNatClampNeg) (xs (nI (5 * t + 3)).toNatClampNeg) (xs (nI (5 * t + 4)).toNatClampNeg) (sp_open d (xs (nI (5 * t + 1)).toNatClampNeg) (xs (nI (5 * t + 2)).toNatClampNeg) (xs (nI (5 * t + 3)).toNatClampNeg) (xs (nI (5 * t + 4)).toNatClampNeg)).1 (sp_open d (xs (nI (5 * t + 1)).toNatClampNeg) (xs (nI (5 * t + 2)).toNatClampNeg) (xs (nI (5 * t + 3)).toNatClampNeg) (xs (nI (5 * t + 4)).toNatClampNeg)).2 (pe _)) (cwV 4 hts (gd_V mI wd_145 wd_146 wd_147 wd_1 wd_148) rfl rfl rfl hd_open ⟨Nat.le_of_ble_eq_true rfl, Nat.le_of_ble_eq_true rfl⟩) ⟨ml_blind, va_recv hK (sd_Pl hP) (ci := 0) rfl (ml_at (by decide) (dc_desk kc a d)), ml_pre (sd_Pl hP) hK (sd_Dl hD)⟩ rfl rfl hl.1 rfl (lv_room (Nat.le_of_ble_eq_true rfl)) d_law_141 ⟨Nat.le_of_ble_eq_true rfl, Nat.le_of_ble_eq_true rfl⟩) hP hD hS hA (fun H locs hP hD hS => ?_)
      refine lv_aload_n hx hb d_law_144 rfl (lv_at hl 2 rfl) ?_
      refine lv_aload_n hx hb d_law_145 rfl (lv_at hl 0 rfl) ?_
      refine lv_iload_n hx hb d_law_146 rfl (lv_at hl 3 rfl) ?_
      refine lv_iconst (v := 1) hx hb d_law_147 (by decide) ?_
      refine lv_iadd hx hb d_law_148 ?_
      refine lv_eqi (nI_add (5 * t) 1) ?_
      refine va_sld hx hb hX hbl hbA hS (hin 1 (by decide)) d_law_149 ?_
      refine lv_aload_n hx hb d_law_150 rfl (lv_at hl 0 rfl) ?_
      refine lv_iload_n hx hb d_law_151 rfl (lv_at hl 3 rfl) ?_
      refine lv_iconst (v := 2) hx hb d_law_152 (by decide) ?_
      refine lv_iadd hx hb d_law_153 ?_
      refine lv_eqi (nI_add (5 * t) 2) ?_
      refine va_sld hx hb hX hbl hbA hS (hin 2 (by decide)) d_law_154 ?_
      refine lv_aload_n hx hb d_law_155 rfl (lv_at hl 0 rfl) ?_
      refine lv_iload_n hx hb d_law_156 rfl (lv_at hl 3 rfl) ?_
      refine lv_iconst (v := 3) hx hb d_law_157 (by decide) ?_
      refine lv_iadd hx hb d_law_158 ?_
      refine lv_eqi (nI_add (5 * t) 3) ?_
      refine va_sld hx hb hX hbl hbA hS (hin 3 (by decide)) d_law_159 ?_
      refine lv_aload_n hx hb d_law_160 rfl (lv_at hl 0 rfl) ?_
      refine lv_iload_n hx hb d_law_161 rfl (lv_at hl 3 rfl) ?_
      refine lv_iconst (v := 4) hx hb d_law_162 (by decide) ?_
      refine lv_iadd hx hb d_law_163 ?_
      refine lv_eqi (nI_add (5 * t) 4) ?_
      refine va_sld hx hb hX hbl hbA hS (hin 4 (by decide)) d_law_164 ?_
      refine sr_calli (va_runV (As := [.int (xs (nI (5 * t + 1)).toNatClampNeg), .int (xs (nI (5 * t + 2)).toNatClampNeg), .int (xs (nI (5 * t + 3)).toNatClampNeg), .int (xs (nI (5 * t + 4)).toNatClampNeg)]) (rest := [.int ((sp_open d (xs (nI (5 * t + 1)).toNatClampNeg) (xs (nI (5 * t + 2)).toNatClampNeg) (xs (nI (5 * t + 3)).toNatClampNeg) (xs (nI (5 * t + 4)).toNatClampNeg)).1)]) ⟨hx, hb, hml, hown, hts⟩ (c_M_open l dC dI kc bm _ mo (xs (nI (5 * t + 1)).toNatClampNeg) (xs (nI (5 * t + 2)).toNatClampNeg) (xs (nI (5 * t + 3)).toNatClampNeg) (xs (nI (5 * t + 4)).toNatClampNeg) (sp_M_open mo (xs (nI (5 * t + 1)).toNatClampNeg) (xs (nI (5 * t + 2)).toNatClampNeg) (xs (nI (5 * t + 3)).toNatClampNeg) (xs (nI (5 * t + 4)).toNatClampNeg)).1 (sp_M_open mo (xs (nI (5 * t + 1)).toNatClampNeg) (xs (nI (5 * t + 2)).toNatClampNeg) (xs (nI (5 * t + 3)).toNatClampNeg) (xs (nI (5 * t + 4)).toNatClampNeg)).2 (pe _)) (cwV 4 hts (gd_V mI wd_387 wd_388 wd_389 wd_6 wd_390) rfl rfl rfl hd_M_open ⟨Nat.le_of_ble_eq_true rfl, Nat.le_of_ble_eq_true rfl⟩) ⟨ml_blind, va_recv hK (sd_Pr hP) (ci := 5) rfl (ml_at (by decide) (mc_mod kc bm mo)), ml_pre (sd_Pr hP) hK (sd_Dr hD)⟩ rfl rfl hl.1 rfl (lv_room (Nat.le_of_ble_eq_true rfl)) d_law_165 ⟨Nat.le_of_ble_eq_true rfl, Nat.le_of_ble_eq_true rfl⟩) hP hD hS hA (fun H locs hP hD hS => ?_)
      have hsim := sim_open hR (xs (nI (5 * t + 1)).toNatClampNeg) (xs (nI (5 * t + 2)).toNatClampNeg) (xs (nI (5 * t + 3)).toNatClampNeg) (xs (nI (5 * t + 4)).toNatClampNeg)
      refine lv_icmp_eq (tgt := 678) hx hb d_law_168 (by decide) (fun _ => ?_) (fun hne => absurd hsim.1 hne)
      exact next _ _ _ _ (RR_up (by omega) hsim.2) hP hD hS
    by_cases e_1 : sw = (1 : Int32)
    · refine lv_tableIn (off := 141) (tgt := 173) hx hb d_law_32 (by rw [e_1]; decide) (by rw [e_1]; decide) (by rw [e_1]; rfl) (by decide) ?_
      refine lv_aload_n hx hb d_law_173 rfl (lv_at hl 1 rfl) ?_
      refine lv_aload_n hx hb d_law_174 rfl (lv_at hl 0 rfl) ?_
      refine lv_iload_n hx hb d_law_175 rfl (lv_at hl 3 rfl) ?_
      refine lv_iconst (v := 1) hx hb d_law_176 (by decide) ?_
      refine lv_iadd hx hb d_law_177 ?_
      refine lv_eqi (nI_add (5 * t) 1) ?_
      refine va_sld hx hb hX hbl hbA hS (hin 1 (by decide)) d_law_178 ?_
      refine sd_calli (va_runV (As := [.int (xs (nI (5 * t + 1)).toNatClampNeg)]) (rest := []) ⟨hx, hb, hml, hown, hts⟩ (c_pipe l dC dI kc a _ d (xs (nI (5 * t + 1)).toNatClampNeg) (sp_pipe d (xs (nI (5 * t + 1)).toNatClampNeg)).1 (sp_pipe d (xs (nI (5 * t + 1)).toNatClampNeg)).2 (pe _)) (cwV 1 hts (gd_V mI wd_181 wd_182 wd_183 wd_1 wd_184) rfl rfl rfl hd_pipe ⟨Nat.le_of_ble_eq_true rfl, Nat.le_of_ble_eq_true rfl⟩) ⟨ml_blind, va_recv hK (sd_Pl hP) (ci := 0) rfl (ml_at (by decide) (dc_desk kc a d)), ml_pre (sd_Pl hP) hK (sd_Dl hD)⟩ rfl rfl hl.1 rfl (lv_room (Nat.le_of_ble_eq_true rfl)) d_law_179 ⟨Nat.le_of_ble_eq_true rfl, Nat.le_of_ble_eq_true rfl⟩) hP hD hS hA (fun H locs hP hD hS => ?_)
      refine lv_aload_n hx hb d_law_182 rfl (lv_at hl 2 rfl) ?_
      refine lv_aload_n hx hb d_law_183 rfl (lv_at hl 0 rfl) ?_
      refine lv_iload_n hx hb d_law_184 rfl (lv_at hl 3 rfl) ?_
      refine lv_iconst (v := 1) hx hb d_law_185 (by decide) ?_
      refine lv_iadd hx hb d_law_186 ?_
      refine lv_eqi (nI_add (5 * t) 1) ?_
      refine va_sld hx hb hX hbl hbA hS (hin 1 (by decide)) d_law_187 ?_
      refine sr_calli (va_runV (As := [.int (xs (nI (5 * t + 1)).toNatClampNeg)]) (rest := [.int ((sp_pipe d (xs (nI (5 * t + 1)).toNatClampNeg)).1)]) ⟨hx, hb, hml, hown, hts⟩ (c_M_pipe l dC dI kc bm _ mo (xs (nI (5 * t + 1)).toNatClampNeg) (sp_M_pipe mo (xs (nI (5 * t + 1)).toNatClampNeg)).1 (sp_M_pipe mo (xs (nI (5 * t + 1)).toNatClampNeg)).2 (pe _)) (cwV 1 hts (gd_V mI wd_414 wd_415 wd_416 wd_6 wd_417) rfl rfl rfl hd_M_pipe ⟨Nat.le_of_ble_eq_true rfl, Nat.le_of_ble_eq_true rfl⟩) ⟨ml_blind, va_recv hK (sd_Pr hP) (ci := 5) rfl (ml_at (by decide) (mc_mod kc bm mo)), ml_pre (sd_Pr hP) hK (sd_Dr hD)⟩ rfl rfl hl.1 rfl (lv_room (Nat.le_of_ble_eq_true rfl)) d_law_188 ⟨Nat.le_of_ble_eq_true rfl, Nat.le_of_ble_eq_true rfl⟩) hP hD hS hA (fun H locs hP hD hS => ?_)
      have hsim := sim_pipe hR (xs (nI (5 * t + 1)).toNatClampNeg)
      refine lv_icmp_eq (tgt := 678) hx hb d_law_191 (by decide) (fun _ => ?_) (fun hne => absurd hsim.1 hne)
      exact next _ _ _ _ (RR_up (by omega) hsim.2) hP hD hS
    by_cases e_2 : sw = (2 : Int32)
    · refine lv_tableIn (off := 164) (tgt := 196) hx hb d_law_32 (by rw [e_2]; decide) (by rw [e_2]; decide) (by rw [e_2]; rfl) (by decide) ?_
      refine lv_aload_n hx hb d_law_196 rfl (lv_at hl 1 rfl) ?_
      refine lv_aload_n hx hb d_law_197 rfl (lv_at hl 0 rfl) ?_
      refine lv_iload_n hx hb d_law_198 rfl (lv_at hl 3 rfl) ?_
      refine lv_iconst (v := 1) hx hb d_law_199 (by decide) ?_
      refine lv_iadd hx hb d_law_200 ?_
      refine lv_eqi (nI_add (5 * t) 1) ?_
      refine va_sld hx hb hX hbl hbA hS (hin 1 (by decide)) d_law_201 ?_
      refine lv_aload_n hx hb d_law_202 rfl (lv_at hl 0 rfl) ?_
      refine lv_iload_n hx hb d_law_203 rfl (lv_at hl 3 rfl) ?_
      refine lv_iconst (v := 2) hx hb d_law_204 (by decide) ?_
      refine lv_iadd hx hb d_law_205 ?_
      refine lv_eqi (nI_add (5 * t) 2) ?_
      refine va_sld hx hb hX hbl hbA hS (hin 2 (by decide)) d_law_206 ?_
      refine sd_calli (va_runV (As := [.int (xs (nI (5 * t + 1)).toNatClampNeg), .int (xs (nI (5 * t + 2)).toNatClampNeg)]) (rest := []) ⟨hx, hb, hml, hown, hts⟩ (c_again l dC dI kc a _ d (xs (nI (5 * t + 1)).toNatClampNeg) (xs (nI (5 * t + 2)).toNatClampNeg) (sp_again d (xs (nI (5 * t + 1)).toNatClampNeg) (xs (nI (5 * t + 2)).toNatClampNeg)).1 (sp_again d (xs (nI (5 * t + 1)).toNatClampNeg) (xs (nI (5 * t + 2)).toNatClampNeg)).2 (pe _)) (cwV 2 hts (gd_V mI wd_200 wd_201 wd_202 wd_1 wd_203) rfl rfl rfl hd_again ⟨Nat.le_of_ble_eq_true rfl, Nat.le_of_ble_eq_true rfl⟩) ⟨ml_blind, va_recv hK (sd_Pl hP) (ci := 0) rfl (ml_at (by decide) (dc_desk kc a d)), ml_pre (sd_Pl hP) hK (sd_Dl hD)⟩ rfl rfl hl.1 rfl (lv_room (Nat.le_of_ble_eq_true rfl)) d_law_207 ⟨Nat.le_of_ble_eq_true rfl, Nat.le_of_ble_eq_true rfl⟩) hP hD hS hA (fun H locs hP hD hS => ?_)
      refine lv_aload_n hx hb d_law_210 rfl (lv_at hl 2 rfl) ?_
      refine lv_aload_n hx hb d_law_211 rfl (lv_at hl 0 rfl) ?_
      refine lv_iload_n hx hb d_law_212 rfl (lv_at hl 3 rfl) ?_
      refine lv_iconst (v := 1) hx hb d_law_213 (by decide) ?_
      refine lv_iadd hx hb d_law_214 ?_
      refine lv_eqi (nI_add (5 * t) 1) ?_
      refine va_sld hx hb hX hbl hbA hS (hin 1 (by decide)) d_law_215 ?_
      refine lv_aload_n hx hb d_law_216 rfl (lv_at hl 0 rfl) ?_
      refine lv_iload_n hx hb d_law_217 rfl (lv_at hl 3 rfl) ?_
      refine lv_iconst (v := 2) hx hb d_law_218 (by decide) ?_
      refine lv_iadd hx hb d_law_219 ?_
      refine lv_eqi (nI_add (5 * t) 2) ?_
      refine va_sld hx hb hX hbl hbA hS (hin 2 (by decide)) d_law_220 ?_
      refine sr_calli (va_runV (As := [.int (xs (nI (5 * t + 1)).toNatClampNeg), .int (xs (nI (5 * t + 2)).toNatClampNeg)]) (rest := [.int ((sp_again d (xs (nI (5 * t + 1)).toNatClampNeg) (xs (nI (5 * t + 2)).toNatClampNeg)).1)]) ⟨hx, hb, hml, hown, hts⟩ (c_M_again l dC dI kc bm _ mo (xs (nI (5 * t + 1)).toNatClampNeg) (xs (nI (5 * t + 2)).toNatClampNeg) (sp_M_again mo (xs (nI (5 * t + 1)).toNatClampNeg) (xs (nI (5 * t + 2)).toNatClampNeg)).1 (sp_M_again mo (xs (nI (5 * t + 1)).toNatClampNeg) (xs (nI (5 * t + 2)).toNatClampNeg)).2 (pe _)) (cwV 2 hts (gd_V mI wd_430 wd_431 wd_432 wd_6 wd_433) rfl rfl rfl hd_M_again ⟨Nat.le_of_ble_eq_true rfl, Nat.le_of_ble_eq_true rfl⟩) ⟨ml_blind, va_recv hK (sd_Pr hP) (ci := 5) rfl (ml_at (by decide) (mc_mod kc bm mo)), ml_pre (sd_Pr hP) hK (sd_Dr hD)⟩ rfl rfl hl.1 rfl (lv_room (Nat.le_of_ble_eq_true rfl)) d_law_221 ⟨Nat.le_of_ble_eq_true rfl, Nat.le_of_ble_eq_true rfl⟩) hP hD hS hA (fun H locs hP hD hS => ?_)
      have hsim := sim_again hR (xs (nI (5 * t + 1)).toNatClampNeg) (xs (nI (5 * t + 2)).toNatClampNeg)
      refine lv_icmp_eq (tgt := 678) hx hb d_law_224 (by decide) (fun _ => ?_) (fun hne => absurd hsim.1 hne)
      exact next _ _ _ _ (RR_up (by omega) hsim.2) hP hD hS
    by_cases e_3 : sw = (3 : Int32)
    · refine lv_tableIn (off := 197) (tgt := 229) hx hb d_law_32 (by rw [e_3]; decide) (by rw [e_3]; decide) (by rw [e_3]; rfl) (by decide) ?_
      refine lv_aload_n hx hb d_law_229 rfl (lv_at hl 1 rfl) ?_
      refine lv_aload_n hx hb d_law_230 rfl (lv_at hl 0 rfl) ?_
      refine lv_iload_n hx hb d_law_231 rfl (lv_at hl 3 rfl) ?_
      refine lv_iconst (v := 1) hx hb d_law_232 (by decide) ?_
      refine lv_iadd hx hb d_law_233 ?_
      refine lv_eqi (nI_add (5 * t) 1) ?_
      refine va_sld hx hb hX hbl hbA hS (hin 1 (by decide)) d_law_234 ?_
      refine lv_aload_n hx hb d_law_235 rfl (lv_at hl 0 rfl) ?_
      refine lv_iload_n hx hb d_law_236 rfl (lv_at hl 3 rfl) ?_
      refine lv_iconst (v := 2) hx hb d_law_237 (by decide) ?_
      refine lv_iadd hx hb d_law_238 ?_
      refine lv_eqi (nI_add (5 * t) 2) ?_
      refine va_sld hx hb hX hbl hbA hS (hin 2 (by decide)) d_law_239 ?_
      refine sd_calli (va_runV (As := [.int (xs (nI (5 * t + 1)).toNatClampNeg), .int (xs (nI (5 * t + 2)).toNatClampNeg)]) (rest := []) ⟨hx, hb, hml, hown, hts⟩ (c_close l dC dI kc a _ d (xs (nI (5 * t + 1)).toNatClampNeg) (xs (nI (5 * t + 2)).toNatClampNeg) (sp_close d (xs (nI (5 * t + 1)).toNatClampNeg) (xs (nI (5 * t + 2)).toNatClampNeg)).1 (sp_close d (xs (nI (5 * t + 1)).toNatClampNeg) (xs (nI (5 * t + 2)).toNatClampNeg)).2 (pe _)) (cwV 2 hts (gd_V mI wd_204 wd_205 wd_206 wd_1 wd_207) rfl rfl rfl hd_close ⟨Nat.le_of_ble_eq_true rfl, Nat.le_of_ble_eq_true rfl⟩) ⟨ml_blind, va_recv hK (sd_Pl hP) (ci := 0) rfl (ml_at (by decide) (dc_desk kc a d)), ml_pre (sd_Pl hP) hK (sd_Dl hD)⟩ rfl rfl hl.1 rfl (lv_room (Nat.le_of_ble_eq_true rfl)) d_law_240 ⟨Nat.le_of_ble_eq_true rfl, Nat.le_of_ble_eq_true rfl⟩) hP hD hS hA (fun H locs hP hD hS => ?_)
      refine lv_aload_n hx hb d_law_243 rfl (lv_at hl 2 rfl) ?_
      refine lv_aload_n hx hb d_law_244 rfl (lv_at hl 0 rfl) ?_
      refine lv_iload_n hx hb d_law_245 rfl (lv_at hl 3 rfl) ?_
      refine lv_iconst (v := 1) hx hb d_law_246 (by decide) ?_
      refine lv_iadd hx hb d_law_247 ?_
      refine lv_eqi (nI_add (5 * t) 1) ?_
      refine va_sld hx hb hX hbl hbA hS (hin 1 (by decide)) d_law_248 ?_
      refine lv_aload_n hx hb d_law_249 rfl (lv_at hl 0 rfl) ?_
      refine lv_iload_n hx hb d_law_250 rfl (lv_at hl 3 rfl) ?_
      refine lv_iconst (v := 2) hx hb d_law_251 (by decide) ?_
      refine lv_iadd hx hb d_law_252 ?_
      refine lv_eqi (nI_add (5 * t) 2) ?_
      refine va_sld hx hb hX hbl hbA hS (hin 2 (by decide)) d_law_253 ?_
      refine sr_calli (va_runV (As := [.int (xs (nI (5 * t + 1)).toNatClampNeg), .int (xs (nI (5 * t + 2)).toNatClampNeg)]) (rest := [.int ((sp_close d (xs (nI (5 * t + 1)).toNatClampNeg) (xs (nI (5 * t + 2)).toNatClampNeg)).1)]) ⟨hx, hb, hml, hown, hts⟩ (c_M_close l dC dI kc bm _ mo (xs (nI (5 * t + 1)).toNatClampNeg) (xs (nI (5 * t + 2)).toNatClampNeg) (MN_of hR) (sp_M_close mo (xs (nI (5 * t + 1)).toNatClampNeg) (xs (nI (5 * t + 2)).toNatClampNeg)).1 (sp_M_close mo (xs (nI (5 * t + 1)).toNatClampNeg) (xs (nI (5 * t + 2)).toNatClampNeg)).2 (pe _)) (cwV 2 hts (gd_V mI wd_438 wd_439 wd_440 wd_6 wd_441) rfl rfl rfl hd_M_close ⟨Nat.le_of_ble_eq_true rfl, Nat.le_of_ble_eq_true rfl⟩) ⟨ml_blind, va_recv hK (sd_Pr hP) (ci := 5) rfl (ml_at (by decide) (mc_mod kc bm mo)), ml_pre (sd_Pr hP) hK (sd_Dr hD)⟩ rfl rfl hl.1 rfl (lv_room (Nat.le_of_ble_eq_true rfl)) d_law_254 ⟨Nat.le_of_ble_eq_true rfl, Nat.le_of_ble_eq_true rfl⟩) hP hD hS hA (fun H locs hP hD hS => ?_)
      have hsim := sim_close hR (xs (nI (5 * t + 1)).toNatClampNeg) (xs (nI (5 * t + 2)).toNatClampNeg)
      refine lv_icmp_eq (tgt := 678) hx hb d_law_257 (by decide) (fun _ => ?_) (fun hne => absurd hsim.1 hne)
      exact next _ _ _ _ (RR_up (by omega) hsim.2) hP hD hS
    by_cases e_4 : sw = (4 : Int32)
    · refine lv_tableIn (off := 230) (tgt := 262) hx hb d_law_32 (by rw [e_4]; decide) (by rw [e_4]; decide) (by rw [e_4]; rfl) (by decide) ?_
      refine lv_aload_n hx hb d_law_262 rfl (lv_at hl 1 rfl) ?_
      refine lv_aload_n hx hb d_law_263 rfl (lv_at hl 0 rfl) ?_
      refine lv_iload_n hx hb d_law_264 rfl (lv_at hl 3 rfl) ?_
      refine lv_iconst (v := 1) hx hb d_law_265 (by decide) ?_
      refine lv_iadd hx hb d_law_266 ?_
      refine lv_eqi (nI_add (5 * t) 1) ?_
      refine va_sld hx hb hX hbl hbA hS (hin 1 (by decide)) d_law_267 ?_
      refine sd_calli (va_runV (As := [.int (xs (nI (5 * t + 1)).toNatClampNeg)]) (rest := []) ⟨hx, hb, hml, hown, hts⟩ (c_closeAll l dC dI kc a _ d (xs (nI (5 * t + 1)).toNatClampNeg) (sp_closeAll d (xs (nI (5 * t + 1)).toNatClampNeg)).1 (sp_closeAll d (xs (nI (5 * t + 1)).toNatClampNeg)).2 (pe _)) (cwV 1 hts (gd_V mI wd_216 wd_217 wd_218 wd_1 wd_219) rfl rfl rfl hd_closeAll ⟨Nat.le_of_ble_eq_true rfl, Nat.le_of_ble_eq_true rfl⟩) ⟨ml_blind, va_recv hK (sd_Pl hP) (ci := 0) rfl (ml_at (by decide) (dc_desk kc a d)), ml_pre (sd_Pl hP) hK (sd_Dl hD)⟩ rfl rfl hl.1 rfl (lv_room (Nat.le_of_ble_eq_true rfl)) d_law_268 ⟨Nat.le_of_ble_eq_true rfl, Nat.le_of_ble_eq_true rfl⟩) hP hD hS hA (fun H locs hP hD hS => ?_)
      refine lv_aload_n hx hb d_law_271 rfl (lv_at hl 2 rfl) ?_
      refine lv_aload_n hx hb d_law_272 rfl (lv_at hl 0 rfl) ?_
      refine lv_iload_n hx hb d_law_273 rfl (lv_at hl 3 rfl) ?_
      refine lv_iconst (v := 1) hx hb d_law_274 (by decide) ?_
      refine lv_iadd hx hb d_law_275 ?_
      refine lv_eqi (nI_add (5 * t) 1) ?_
      refine va_sld hx hb hX hbl hbA hS (hin 1 (by decide)) d_law_276 ?_
      refine sr_calli (va_runV (As := [.int (xs (nI (5 * t + 1)).toNatClampNeg)]) (rest := [.int ((sp_closeAll d (xs (nI (5 * t + 1)).toNatClampNeg)).1)]) ⟨hx, hb, hml, hown, hts⟩ (c_M_closeAll l dC dI kc bm _ mo (xs (nI (5 * t + 1)).toNatClampNeg) (MN_of hR) (sp_M_closeAll mo (xs (nI (5 * t + 1)).toNatClampNeg)).1 (sp_M_closeAll mo (xs (nI (5 * t + 1)).toNatClampNeg)).2 (pe _)) (cwV 1 hts (gd_V mI wd_446 wd_447 wd_448 wd_6 wd_449) rfl rfl rfl hd_M_closeAll ⟨Nat.le_of_ble_eq_true rfl, Nat.le_of_ble_eq_true rfl⟩) ⟨ml_blind, va_recv hK (sd_Pr hP) (ci := 5) rfl (ml_at (by decide) (mc_mod kc bm mo)), ml_pre (sd_Pr hP) hK (sd_Dr hD)⟩ rfl rfl hl.1 rfl (lv_room (Nat.le_of_ble_eq_true rfl)) d_law_277 ⟨Nat.le_of_ble_eq_true rfl, Nat.le_of_ble_eq_true rfl⟩) hP hD hS hA (fun H locs hP hD hS => ?_)
      have hsim := sim_closeAll hR (xs (nI (5 * t + 1)).toNatClampNeg)
      refine lv_icmp_eq (tgt := 678) hx hb d_law_280 (by decide) (fun _ => ?_) (fun hne => absurd hsim.1 hne)
      exact next _ _ _ _ (RR_up (by omega) hsim.2) hP hD hS
    by_cases e_5 : sw = (5 : Int32)
    · refine lv_tableIn (off := 253) (tgt := 285) hx hb d_law_32 (by rw [e_5]; decide) (by rw [e_5]; decide) (by rw [e_5]; rfl) (by decide) ?_
      refine lv_aload_n hx hb d_law_285 rfl (lv_at hl 1 rfl) ?_
      refine lv_aload_n hx hb d_law_286 rfl (lv_at hl 0 rfl) ?_
      refine lv_iload_n hx hb d_law_287 rfl (lv_at hl 3 rfl) ?_
      refine lv_iconst (v := 1) hx hb d_law_288 (by decide) ?_
      refine lv_iadd hx hb d_law_289 ?_
      refine lv_eqi (nI_add (5 * t) 1) ?_
      refine va_sld hx hb hX hbl hbA hS (hin 1 (by decide)) d_law_290 ?_
      refine sd_calli (va_runV (As := [.int (xs (nI (5 * t + 1)).toNatClampNeg)]) (rest := []) ⟨hx, hb, hml, hown, hts⟩ (c_left l dC dI kc a _ d (xs (nI (5 * t + 1)).toNatClampNeg) _ rfl) (cwV 1 hts (gd_V mI wd_224 wd_225 wd_226 wd_1 wd_227) rfl rfl rfl hd_left ⟨Nat.le_of_ble_eq_true rfl, Nat.le_of_ble_eq_true rfl⟩) ⟨ml_blind, va_recv hK (sd_Pl hP) (ci := 0) rfl (ml_at (by decide) (dc_desk kc a d)), ml_pre (sd_Pl hP) hK (sd_Dl hD)⟩ rfl rfl hl.1 rfl (lv_room (Nat.le_of_ble_eq_true rfl)) d_law_291 ⟨Nat.le_of_ble_eq_true rfl, Nat.le_of_ble_eq_true rfl⟩) hP hD hS hA (fun H locs hP hD hS => ?_)
      refine lv_aload_n hx hb d_law_294 rfl (lv_at hl 2 rfl) ?_
      refine lv_aload_n hx hb d_law_295 rfl (lv_at hl 0 rfl) ?_
      refine lv_iload_n hx hb d_law_296 rfl (lv_at hl 3 rfl) ?_
      refine lv_iconst (v := 1) hx hb d_law_297 (by decide) ?_
      refine lv_iadd hx hb d_law_298 ?_
      refine lv_eqi (nI_add (5 * t) 1) ?_
      refine va_sld hx hb hX hbl hbA hS (hin 1 (by decide)) d_law_299 ?_
      refine sr_calli (va_runV (As := [.int (xs (nI (5 * t + 1)).toNatClampNeg)]) (rest := [.int (sp_left d (xs (nI (5 * t + 1)).toNatClampNeg))]) ⟨hx, hb, hml, hown, hts⟩ (c_M_left l dC dI kc bm _ mo (xs (nI (5 * t + 1)).toNatClampNeg) (LF_of hR) (sp_M_left mo (xs (nI (5 * t + 1)).toNatClampNeg)).1 (sp_M_left mo (xs (nI (5 * t + 1)).toNatClampNeg)).2 (pe _)) (cwV 1 hts (gd_V mI wd_450 wd_451 wd_452 wd_6 wd_453) rfl rfl rfl hd_M_left ⟨Nat.le_of_ble_eq_true rfl, Nat.le_of_ble_eq_true rfl⟩) ⟨ml_blind, va_recv hK (sd_Pr hP) (ci := 5) rfl (ml_at (by decide) (mc_mod kc bm mo)), ml_pre (sd_Pr hP) hK (sd_Dr hD)⟩ rfl rfl hl.1 rfl (lv_room (Nat.le_of_ble_eq_true rfl)) d_law_300 ⟨Nat.le_of_ble_eq_true rfl, Nat.le_of_ble_eq_true rfl⟩) hP hD hS hA (fun H locs hP hD hS => ?_)
      have hsim := sim_left hR (xs (nI (5 * t + 1)).toNatClampNeg)
      refine lv_icmp_eq (tgt := 678) hx hb d_law_303 (by decide) (fun _ => ?_) (fun hne => absurd hsim.1 hne)
      exact next _ _ _ _ (RR_up (by omega) hsim.2) hP hD hS
    by_cases e_6 : sw = (6 : Int32)
    · refine lv_tableIn (off := 276) (tgt := 308) hx hb d_law_32 (by rw [e_6]; decide) (by rw [e_6]; decide) (by rw [e_6]; rfl) (by decide) ?_
      refine lv_aload_n hx hb d_law_308 rfl (lv_at hl 1 rfl) ?_
      refine lv_aload_n hx hb d_law_309 rfl (lv_at hl 0 rfl) ?_
      refine lv_iload_n hx hb d_law_310 rfl (lv_at hl 3 rfl) ?_
      refine lv_iconst (v := 1) hx hb d_law_311 (by decide) ?_
      refine lv_iadd hx hb d_law_312 ?_
      refine lv_eqi (nI_add (5 * t) 1) ?_
      refine va_sld hx hb hX hbl hbA hS (hin 1 (by decide)) d_law_313 ?_
      refine lv_aload_n hx hb d_law_314 rfl (lv_at hl 0 rfl) ?_
      refine lv_iload_n hx hb d_law_315 rfl (lv_at hl 3 rfl) ?_
      refine lv_iconst (v := 2) hx hb d_law_316 (by decide) ?_
      refine lv_iadd hx hb d_law_317 ?_
      refine lv_eqi (nI_add (5 * t) 2) ?_
      refine va_sld hx hb hX hbl hbA hS (hin 2 (by decide)) d_law_318 ?_
      refine sd_calli (va_runV (As := [.int (xs (nI (5 * t + 1)).toNatClampNeg), .int (xs (nI (5 * t + 2)).toNatClampNeg)]) (rest := []) ⟨hx, hb, hml, hown, hts⟩ (c_copy l dC dI kc a _ d (xs (nI (5 * t + 1)).toNatClampNeg) (xs (nI (5 * t + 2)).toNatClampNeg) (sp_copy d (xs (nI (5 * t + 1)).toNatClampNeg) (xs (nI (5 * t + 2)).toNatClampNeg)).1 (sp_copy d (xs (nI (5 * t + 1)).toNatClampNeg) (xs (nI (5 * t + 2)).toNatClampNeg)).2 (pe _)) (cwV 2 hts (gd_V mI wd_228 wd_229 wd_230 wd_1 wd_231) rfl rfl rfl hd_copy ⟨Nat.le_of_ble_eq_true rfl, Nat.le_of_ble_eq_true rfl⟩) ⟨ml_blind, va_recv hK (sd_Pl hP) (ci := 0) rfl (ml_at (by decide) (dc_desk kc a d)), ml_pre (sd_Pl hP) hK (sd_Dl hD)⟩ rfl rfl hl.1 rfl (lv_room (Nat.le_of_ble_eq_true rfl)) d_law_319 ⟨Nat.le_of_ble_eq_true rfl, Nat.le_of_ble_eq_true rfl⟩) hP hD hS hA (fun H locs hP hD hS => ?_)
      refine lv_aload_n hx hb d_law_322 rfl (lv_at hl 2 rfl) ?_
      refine lv_aload_n hx hb d_law_323 rfl (lv_at hl 0 rfl) ?_
      refine lv_iload_n hx hb d_law_324 rfl (lv_at hl 3 rfl) ?_
      refine lv_iconst (v := 1) hx hb d_law_325 (by decide) ?_
      refine lv_iadd hx hb d_law_326 ?_
      refine lv_eqi (nI_add (5 * t) 1) ?_
      refine va_sld hx hb hX hbl hbA hS (hin 1 (by decide)) d_law_327 ?_
      refine lv_aload_n hx hb d_law_328 rfl (lv_at hl 0 rfl) ?_
      refine lv_iload_n hx hb d_law_329 rfl (lv_at hl 3 rfl) ?_
      refine lv_iconst (v := 2) hx hb d_law_330 (by decide) ?_
      refine lv_iadd hx hb d_law_331 ?_
      refine lv_eqi (nI_add (5 * t) 2) ?_
      refine va_sld hx hb hX hbl hbA hS (hin 2 (by decide)) d_law_332 ?_
      refine sr_calli (va_runV (As := [.int (xs (nI (5 * t + 1)).toNatClampNeg), .int (xs (nI (5 * t + 2)).toNatClampNeg)]) (rest := [.int ((sp_copy d (xs (nI (5 * t + 1)).toNatClampNeg) (xs (nI (5 * t + 2)).toNatClampNeg)).1)]) ⟨hx, hb, hml, hown, hts⟩ (c_M_copy l dC dI kc bm _ mo (xs (nI (5 * t + 1)).toNatClampNeg) (xs (nI (5 * t + 2)).toNatClampNeg) (sp_M_copy mo (xs (nI (5 * t + 1)).toNatClampNeg) (xs (nI (5 * t + 2)).toNatClampNeg)).1 (sp_M_copy mo (xs (nI (5 * t + 1)).toNatClampNeg) (xs (nI (5 * t + 2)).toNatClampNeg)).2 (pe _)) (cwV 2 hts (gd_V mI wd_454 wd_455 wd_456 wd_6 wd_457) rfl rfl rfl hd_M_copy ⟨Nat.le_of_ble_eq_true rfl, Nat.le_of_ble_eq_true rfl⟩) ⟨ml_blind, va_recv hK (sd_Pr hP) (ci := 5) rfl (ml_at (by decide) (mc_mod kc bm mo)), ml_pre (sd_Pr hP) hK (sd_Dr hD)⟩ rfl rfl hl.1 rfl (lv_room (Nat.le_of_ble_eq_true rfl)) d_law_333 ⟨Nat.le_of_ble_eq_true rfl, Nat.le_of_ble_eq_true rfl⟩) hP hD hS hA (fun H locs hP hD hS => ?_)
      have hsim := sim_copy hR (xs (nI (5 * t + 1)).toNatClampNeg) (xs (nI (5 * t + 2)).toNatClampNeg)
      refine lv_icmp_eq (tgt := 678) hx hb d_law_336 (by decide) (fun _ => ?_) (fun hne => absurd hsim.1 hne)
      exact next _ _ _ _ (RR_up (by omega) hsim.2) hP hD hS
    by_cases e_7 : sw = (7 : Int32)
    · refine lv_tableIn (off := 309) (tgt := 341) hx hb d_law_32 (by rw [e_7]; decide) (by rw [e_7]; decide) (by rw [e_7]; rfl) (by decide) ?_
      refine lv_aload_n hx hb d_law_341 rfl (lv_at hl 1 rfl) ?_
      refine lv_aload_n hx hb d_law_342 rfl (lv_at hl 0 rfl) ?_
      refine lv_iload_n hx hb d_law_343 rfl (lv_at hl 3 rfl) ?_
      refine lv_iconst (v := 1) hx hb d_law_344 (by decide) ?_
      refine lv_iadd hx hb d_law_345 ?_
      refine lv_eqi (nI_add (5 * t) 1) ?_
      refine va_sld hx hb hX hbl hbA hS (hin 1 (by decide)) d_law_346 ?_
      refine lv_aload_n hx hb d_law_347 rfl (lv_at hl 0 rfl) ?_
      refine lv_iload_n hx hb d_law_348 rfl (lv_at hl 3 rfl) ?_
      refine lv_iconst (v := 2) hx hb d_law_349 (by decide) ?_
      refine lv_iadd hx hb d_law_350 ?_
      refine lv_eqi (nI_add (5 * t) 2) ?_
      refine va_sld hx hb hX hbl hbA hS (hin 2 (by decide)) d_law_351 ?_
      refine lv_aload_n hx hb d_law_352 rfl (lv_at hl 0 rfl) ?_
      refine lv_iload_n hx hb d_law_353 rfl (lv_at hl 3 rfl) ?_
      refine lv_iconst (v := 3) hx hb d_law_354 (by decide) ?_
      refine lv_iadd hx hb d_law_355 ?_
      refine lv_eqi (nI_add (5 * t) 3) ?_
      refine va_sld hx hb hX hbl hbA hS (hin 3 (by decide)) d_law_356 ?_
      refine sd_calli (va_runV (As := [.int (xs (nI (5 * t + 1)).toNatClampNeg), .int (xs (nI (5 * t + 2)).toNatClampNeg), .int (xs (nI (5 * t + 3)).toNatClampNeg)]) (rest := []) ⟨hx, hb, hml, hown, hts⟩ (c_about l dC dI kc a _ d (xs (nI (5 * t + 1)).toNatClampNeg) (xs (nI (5 * t + 2)).toNatClampNeg) (xs (nI (5 * t + 3)).toNatClampNeg) _ rfl) (cwV 3 hts (gd_V mI wd_236 wd_237 wd_238 wd_1 wd_239) rfl rfl rfl hd_about ⟨Nat.le_of_ble_eq_true rfl, Nat.le_of_ble_eq_true rfl⟩) ⟨ml_blind, va_recv hK (sd_Pl hP) (ci := 0) rfl (ml_at (by decide) (dc_desk kc a d)), ml_pre (sd_Pl hP) hK (sd_Dl hD)⟩ rfl rfl hl.1 rfl (lv_room (Nat.le_of_ble_eq_true rfl)) d_law_357 ⟨Nat.le_of_ble_eq_true rfl, Nat.le_of_ble_eq_true rfl⟩) hP hD hS hA (fun H locs hP hD hS => ?_)
      refine lv_aload_n hx hb d_law_360 rfl (lv_at hl 2 rfl) ?_
      refine lv_aload_n hx hb d_law_361 rfl (lv_at hl 0 rfl) ?_
      refine lv_iload_n hx hb d_law_362 rfl (lv_at hl 3 rfl) ?_
      refine lv_iconst (v := 1) hx hb d_law_363 (by decide) ?_
      refine lv_iadd hx hb d_law_364 ?_
      refine lv_eqi (nI_add (5 * t) 1) ?_
      refine va_sld hx hb hX hbl hbA hS (hin 1 (by decide)) d_law_365 ?_
      refine lv_aload_n hx hb d_law_366 rfl (lv_at hl 0 rfl) ?_
      refine lv_iload_n hx hb d_law_367 rfl (lv_at hl 3 rfl) ?_
      refine lv_iconst (v := 2) hx hb d_law_368 (by decide) ?_
      refine lv_iadd hx hb d_law_369 ?_
      refine lv_eqi (nI_add (5 * t) 2) ?_
      refine va_sld hx hb hX hbl hbA hS (hin 2 (by decide)) d_law_370 ?_
      refine lv_aload_n hx hb d_law_371 rfl (lv_at hl 0 rfl) ?_
      refine lv_iload_n hx hb d_law_372 rfl (lv_at hl 3 rfl) ?_
      refine lv_iconst (v := 3) hx hb d_law_373 (by decide) ?_
      refine lv_iadd hx hb d_law_374 ?_
      refine lv_eqi (nI_add (5 * t) 3) ?_
      refine va_sld hx hb hX hbl hbA hS (hin 3 (by decide)) d_law_375 ?_
      refine sr_calli (va_runV (As := [.int (xs (nI (5 * t + 1)).toNatClampNeg), .int (xs (nI (5 * t + 2)).toNatClampNeg), .int (xs (nI (5 * t + 3)).toNatClampNeg)]) (rest := [.int (sp_about d (xs (nI (5 * t + 1)).toNatClampNeg) (xs (nI (5 * t + 2)).toNatClampNeg) (xs (nI (5 * t + 3)).toNatClampNeg))]) ⟨hx, hb, hml, hown, hts⟩ (c_M_about l dC dI kc bm _ mo (xs (nI (5 * t + 1)).toNatClampNeg) (xs (nI (5 * t + 2)).toNatClampNeg) (xs (nI (5 * t + 3)).toNatClampNeg) (MN_of hR) (sp_M_about mo (xs (nI (5 * t + 1)).toNatClampNeg) (xs (nI (5 * t + 2)).toNatClampNeg) (xs (nI (5 * t + 3)).toNatClampNeg)).1 (sp_M_about mo (xs (nI (5 * t + 1)).toNatClampNeg) (xs (nI (5 * t + 2)).toNatClampNeg) (xs (nI (5 * t + 3)).toNatClampNeg)).2 (pe _)) (cwV 3 hts (gd_V mI wd_458 wd_459 wd_460 wd_6 wd_461) rfl rfl rfl hd_M_about ⟨Nat.le_of_ble_eq_true rfl, Nat.le_of_ble_eq_true rfl⟩) ⟨ml_blind, va_recv hK (sd_Pr hP) (ci := 5) rfl (ml_at (by decide) (mc_mod kc bm mo)), ml_pre (sd_Pr hP) hK (sd_Dr hD)⟩ rfl rfl hl.1 rfl (lv_room (Nat.le_of_ble_eq_true rfl)) d_law_376 ⟨Nat.le_of_ble_eq_true rfl, Nat.le_of_ble_eq_true rfl⟩) hP hD hS hA (fun H locs hP hD hS => ?_)
      have hsim := sim_about hR (xs (nI (5 * t + 1)).toNatClampNeg) (xs (nI (5 * t + 2)).toNatClampNeg) (xs (nI (5 * t + 3)).toNatClampNeg)
      refine lv_icmp_eq (tgt := 678) hx hb d_law_379 (by decide) (fun _ => ?_) (fun hne => absurd hsim.1 hne)
      exact next _ _ _ _ (RR_up (by omega) hsim.2) hP hD hS
    by_cases e_8 : sw = (8 : Int32)
    · refine lv_tableIn (off := 352) (tgt := 384) hx hb d_law_32 (by rw [e_8]; decide) (by rw [e_8]; decide) (by rw [e_8]; rfl) (by decide) ?_
      refine lv_aload_n hx hb d_law_384 rfl (lv_at hl 1 rfl) ?_
      refine lv_aload_n hx hb d_law_385 rfl (lv_at hl 0 rfl) ?_
      refine lv_iload_n hx hb d_law_386 rfl (lv_at hl 3 rfl) ?_
      refine lv_iconst (v := 1) hx hb d_law_387 (by decide) ?_
      refine lv_iadd hx hb d_law_388 ?_
      refine lv_eqi (nI_add (5 * t) 1) ?_
      refine va_sld hx hb hX hbl hbA hS (hin 1 (by decide)) d_law_389 ?_
      refine lv_aload_n hx hb d_law_390 rfl (lv_at hl 0 rfl) ?_
      refine lv_iload_n hx hb d_law_391 rfl (lv_at hl 3 rfl) ?_
      refine lv_iconst (v := 2) hx hb d_law_392 (by decide) ?_
      refine lv_iadd hx hb d_law_393 ?_
      refine lv_eqi (nI_add (5 * t) 2) ?_
      refine va_sld hx hb hX hbl hbA hS (hin 2 (by decide)) d_law_394 ?_
      refine lv_aload_n hx hb d_law_395 rfl (lv_at hl 0 rfl) ?_
      refine lv_iload_n hx hb d_law_396 rfl (lv_at hl 3 rfl) ?_
      refine lv_iconst (v := 3) hx hb d_law_397 (by decide) ?_
      refine lv_iadd hx hb d_law_398 ?_
      refine lv_eqi (nI_add (5 * t) 3) ?_
      refine va_sld hx hb hX hbl hbA hS (hin 3 (by decide)) d_law_399 ?_
      refine sd_calli (va_runV (As := [.int (xs (nI (5 * t + 1)).toNatClampNeg), .int (xs (nI (5 * t + 2)).toNatClampNeg), .int (xs (nI (5 * t + 3)).toNatClampNeg)]) (rest := []) ⟨hx, hb, hml, hown, hts⟩ (c_move l dC dI kc a _ d (xs (nI (5 * t + 1)).toNatClampNeg) (xs (nI (5 * t + 2)).toNatClampNeg) (xs (nI (5 * t + 3)).toNatClampNeg) (sp_move d (xs (nI (5 * t + 1)).toNatClampNeg) (xs (nI (5 * t + 2)).toNatClampNeg) (xs (nI (5 * t + 3)).toNatClampNeg)).1 (sp_move d (xs (nI (5 * t + 1)).toNatClampNeg) (xs (nI (5 * t + 2)).toNatClampNeg) (xs (nI (5 * t + 3)).toNatClampNeg)).2 (pe _)) (cwV 3 hts (gd_V mI wd_243 wd_244 wd_245 wd_1 wd_246) rfl rfl rfl hd_move ⟨Nat.le_of_ble_eq_true rfl, Nat.le_of_ble_eq_true rfl⟩) ⟨ml_blind, va_recv hK (sd_Pl hP) (ci := 0) rfl (ml_at (by decide) (dc_desk kc a d)), ml_pre (sd_Pl hP) hK (sd_Dl hD)⟩ rfl rfl hl.1 rfl (lv_room (Nat.le_of_ble_eq_true rfl)) d_law_400 ⟨Nat.le_of_ble_eq_true rfl, Nat.le_of_ble_eq_true rfl⟩) hP hD hS hA (fun H locs hP hD hS => ?_)
      refine lv_aload_n hx hb d_law_403 rfl (lv_at hl 2 rfl) ?_
      refine lv_aload_n hx hb d_law_404 rfl (lv_at hl 0 rfl) ?_
      refine lv_iload_n hx hb d_law_405 rfl (lv_at hl 3 rfl) ?_
      refine lv_iconst (v := 1) hx hb d_law_406 (by decide) ?_
      refine lv_iadd hx hb d_law_407 ?_
      refine lv_eqi (nI_add (5 * t) 1) ?_
      refine va_sld hx hb hX hbl hbA hS (hin 1 (by decide)) d_law_408 ?_
      refine lv_aload_n hx hb d_law_409 rfl (lv_at hl 0 rfl) ?_
      refine lv_iload_n hx hb d_law_410 rfl (lv_at hl 3 rfl) ?_
      refine lv_iconst (v := 2) hx hb d_law_411 (by decide) ?_
      refine lv_iadd hx hb d_law_412 ?_
      refine lv_eqi (nI_add (5 * t) 2) ?_
      refine va_sld hx hb hX hbl hbA hS (hin 2 (by decide)) d_law_413 ?_
      refine lv_aload_n hx hb d_law_414 rfl (lv_at hl 0 rfl) ?_
      refine lv_iload_n hx hb d_law_415 rfl (lv_at hl 3 rfl) ?_
      refine lv_iconst (v := 3) hx hb d_law_416 (by decide) ?_
      refine lv_iadd hx hb d_law_417 ?_
      refine lv_eqi (nI_add (5 * t) 3) ?_
      refine va_sld hx hb hX hbl hbA hS (hin 3 (by decide)) d_law_418 ?_
      refine sr_calli (va_runV (As := [.int (xs (nI (5 * t + 1)).toNatClampNeg), .int (xs (nI (5 * t + 2)).toNatClampNeg), .int (xs (nI (5 * t + 3)).toNatClampNeg)]) (rest := [.int ((sp_move d (xs (nI (5 * t + 1)).toNatClampNeg) (xs (nI (5 * t + 2)).toNatClampNeg) (xs (nI (5 * t + 3)).toNatClampNeg)).1)]) ⟨hx, hb, hml, hown, hts⟩ (c_M_move l dC dI kc bm _ mo (xs (nI (5 * t + 1)).toNatClampNeg) (xs (nI (5 * t + 2)).toNatClampNeg) (xs (nI (5 * t + 3)).toNatClampNeg) (MN_of hR) (sp_M_move mo (xs (nI (5 * t + 1)).toNatClampNeg) (xs (nI (5 * t + 2)).toNatClampNeg) (xs (nI (5 * t + 3)).toNatClampNeg)).1 (sp_M_move mo (xs (nI (5 * t + 1)).toNatClampNeg) (xs (nI (5 * t + 2)).toNatClampNeg) (xs (nI (5 * t + 3)).toNatClampNeg)).2 (pe _)) (cwV 3 hts (gd_V mI wd_462 wd_463 wd_464 wd_6 wd_465) rfl rfl rfl hd_M_move ⟨Nat.le_of_ble_eq_true rfl, Nat.le_of_ble_eq_true rfl⟩) ⟨ml_blind, va_recv hK (sd_Pr hP) (ci := 5) rfl (ml_at (by decide) (mc_mod kc bm mo)), ml_pre (sd_Pr hP) hK (sd_Dr hD)⟩ rfl rfl hl.1 rfl (lv_room (Nat.le_of_ble_eq_true rfl)) d_law_419 ⟨Nat.le_of_ble_eq_true rfl, Nat.le_of_ble_eq_true rfl⟩) hP hD hS hA (fun H locs hP hD hS => ?_)
      have hsim := sim_move hR (xs (nI (5 * t + 1)).toNatClampNeg) (xs (nI (5 * t + 2)).toNatClampNeg) (xs (nI (5 * t + 3)).toNatClampNeg)
      refine lv_icmp_eq (tgt := 678) hx hb d_law_422 (by decide) (fun _ => ?_) (fun hne => absurd hsim.1 hne)
      exact next _ _ _ _ (RR_up (by omega) hsim.2) hP hD hS
    by_cases e_9 : sw = (9 : Int32)
    · refine lv_tableIn (off := 395) (tgt := 427) hx hb d_law_32 (by rw [e_9]; decide) (by rw [e_9]; decide) (by rw [e_9]; rfl) (by decide) ?_
      refine lv_aload_n hx hb d_law_427 rfl (lv_at hl 1 rfl) ?_
      refine lv_aload_n hx hb d_law_428 rfl (lv_at hl 0 rfl) ?_
      refine lv_iload_n hx hb d_law_429 rfl (lv_at hl 3 rfl) ?_
      refine lv_iconst (v := 1) hx hb d_law_430 (by decide) ?_
      refine lv_iadd hx hb d_law_431 ?_
      refine lv_eqi (nI_add (5 * t) 1) ?_
      refine va_sld hx hb hX hbl hbA hS (hin 1 (by decide)) d_law_432 ?_
      refine lv_aload_n hx hb d_law_433 rfl (lv_at hl 0 rfl) ?_
      refine lv_iload_n hx hb d_law_434 rfl (lv_at hl 3 rfl) ?_
      refine lv_iconst (v := 2) hx hb d_law_435 (by decide) ?_
      refine lv_iadd hx hb d_law_436 ?_
      refine lv_eqi (nI_add (5 * t) 2) ?_
      refine va_sld hx hb hX hbl hbA hS (hin 2 (by decide)) d_law_437 ?_
      refine lv_aload_n hx hb d_law_438 rfl (lv_at hl 0 rfl) ?_
      refine lv_iload_n hx hb d_law_439 rfl (lv_at hl 3 rfl) ?_
      refine lv_iconst (v := 3) hx hb d_law_440 (by decide) ?_
      refine lv_iadd hx hb d_law_441 ?_
      refine lv_eqi (nI_add (5 * t) 3) ?_
      refine va_sld hx hb hX hbl hbA hS (hin 3 (by decide)) d_law_442 ?_
      refine sd_calli (va_runV (As := [.int (xs (nI (5 * t + 1)).toNatClampNeg), .int (xs (nI (5 * t + 2)).toNatClampNeg), .int (xs (nI (5 * t + 3)).toNatClampNeg)]) (rest := []) ⟨hx, hb, hml, hown, hts⟩ (c_put l dC dI kc a _ d (xs (nI (5 * t + 1)).toNatClampNeg) (xs (nI (5 * t + 2)).toNatClampNeg) (xs (nI (5 * t + 3)).toNatClampNeg) (sp_put d (xs (nI (5 * t + 1)).toNatClampNeg) (xs (nI (5 * t + 2)).toNatClampNeg) (xs (nI (5 * t + 3)).toNatClampNeg)).1 (sp_put d (xs (nI (5 * t + 1)).toNatClampNeg) (xs (nI (5 * t + 2)).toNatClampNeg) (xs (nI (5 * t + 3)).toNatClampNeg)).2 (pe _)) (cwV 3 hts (gd_V mI wd_247 wd_248 wd_249 wd_1 wd_250) rfl rfl rfl hd_put ⟨Nat.le_of_ble_eq_true rfl, Nat.le_of_ble_eq_true rfl⟩) ⟨ml_blind, va_recv hK (sd_Pl hP) (ci := 0) rfl (ml_at (by decide) (dc_desk kc a d)), ml_pre (sd_Pl hP) hK (sd_Dl hD)⟩ rfl rfl hl.1 rfl (lv_room (Nat.le_of_ble_eq_true rfl)) d_law_443 ⟨Nat.le_of_ble_eq_true rfl, Nat.le_of_ble_eq_true rfl⟩) hP hD hS hA (fun H locs hP hD hS => ?_)
      refine lv_aload_n hx hb d_law_446 rfl (lv_at hl 2 rfl) ?_
      refine lv_aload_n hx hb d_law_447 rfl (lv_at hl 0 rfl) ?_
      refine lv_iload_n hx hb d_law_448 rfl (lv_at hl 3 rfl) ?_
      refine lv_iconst (v := 1) hx hb d_law_449 (by decide) ?_
      refine lv_iadd hx hb d_law_450 ?_
      refine lv_eqi (nI_add (5 * t) 1) ?_
      refine va_sld hx hb hX hbl hbA hS (hin 1 (by decide)) d_law_451 ?_
      refine lv_aload_n hx hb d_law_452 rfl (lv_at hl 0 rfl) ?_
      refine lv_iload_n hx hb d_law_453 rfl (lv_at hl 3 rfl) ?_
      refine lv_iconst (v := 2) hx hb d_law_454 (by decide) ?_
      refine lv_iadd hx hb d_law_455 ?_
      refine lv_eqi (nI_add (5 * t) 2) ?_
      refine va_sld hx hb hX hbl hbA hS (hin 2 (by decide)) d_law_456 ?_
      refine lv_aload_n hx hb d_law_457 rfl (lv_at hl 0 rfl) ?_
      refine lv_iload_n hx hb d_law_458 rfl (lv_at hl 3 rfl) ?_
      refine lv_iconst (v := 3) hx hb d_law_459 (by decide) ?_
      refine lv_iadd hx hb d_law_460 ?_
      refine lv_eqi (nI_add (5 * t) 3) ?_
      refine va_sld hx hb hX hbl hbA hS (hin 3 (by decide)) d_law_461 ?_
      refine sr_calli (va_runV (As := [.int (xs (nI (5 * t + 1)).toNatClampNeg), .int (xs (nI (5 * t + 2)).toNatClampNeg), .int (xs (nI (5 * t + 3)).toNatClampNeg)]) (rest := [.int ((sp_put d (xs (nI (5 * t + 1)).toNatClampNeg) (xs (nI (5 * t + 2)).toNatClampNeg) (xs (nI (5 * t + 3)).toNatClampNeg)).1)]) ⟨hx, hb, hml, hown, hts⟩ (c_M_put l dC dI kc bm _ mo (xs (nI (5 * t + 1)).toNatClampNeg) (xs (nI (5 * t + 2)).toNatClampNeg) (xs (nI (5 * t + 3)).toNatClampNeg) (MN_of hR) (PW_of hR _ _) (sp_M_put mo (xs (nI (5 * t + 1)).toNatClampNeg) (xs (nI (5 * t + 2)).toNatClampNeg) (xs (nI (5 * t + 3)).toNatClampNeg)).1 (sp_M_put mo (xs (nI (5 * t + 1)).toNatClampNeg) (xs (nI (5 * t + 2)).toNatClampNeg) (xs (nI (5 * t + 3)).toNatClampNeg)).2 (pe _)) (cwV 3 hts (gd_V mI wd_466 wd_467 wd_468 wd_6 wd_469) rfl rfl rfl hd_M_put ⟨Nat.le_of_ble_eq_true rfl, Nat.le_of_ble_eq_true rfl⟩) ⟨ml_blind, va_recv hK (sd_Pr hP) (ci := 5) rfl (ml_at (by decide) (mc_mod kc bm mo)), ml_pre (sd_Pr hP) hK (sd_Dr hD)⟩ rfl rfl hl.1 rfl (lv_room (Nat.le_of_ble_eq_true rfl)) d_law_462 ⟨Nat.le_of_ble_eq_true rfl, Nat.le_of_ble_eq_true rfl⟩) hP hD hS hA (fun H locs hP hD hS => ?_)
      have hsim := sim_put hR (xs (nI (5 * t + 1)).toNatClampNeg) (xs (nI (5 * t + 2)).toNatClampNeg) (xs (nI (5 * t + 3)).toNatClampNeg)
      refine lv_icmp_eq (tgt := 678) hx hb d_law_465 (by decide) (fun _ => ?_) (fun hne => absurd hsim.1 hne)
      exact next _ _ _ _ (RR_up (by omega) hsim.2) hP hD hS
    by_cases e_10 : sw = (10 : Int32)
    · refine lv_tableIn (off := 438) (tgt := 470) hx hb d_law_32 (by rw [e_10]; decide) (by rw [e_10]; decide) (by rw [e_10]; rfl) (by decide) ?_
      refine lv_aload_n hx hb d_law_470 rfl (lv_at hl 1 rfl) ?_
      refine lv_aload_n hx hb d_law_471 rfl (lv_at hl 0 rfl) ?_
      refine lv_iload_n hx hb d_law_472 rfl (lv_at hl 3 rfl) ?_
      refine lv_iconst (v := 1) hx hb d_law_473 (by decide) ?_
      refine lv_iadd hx hb d_law_474 ?_
      refine lv_eqi (nI_add (5 * t) 1) ?_
      refine va_sld hx hb hX hbl hbA hS (hin 1 (by decide)) d_law_475 ?_
      refine lv_aload_n hx hb d_law_476 rfl (lv_at hl 0 rfl) ?_
      refine lv_iload_n hx hb d_law_477 rfl (lv_at hl 3 rfl) ?_
      refine lv_iconst (v := 2) hx hb d_law_478 (by decide) ?_
      refine lv_iadd hx hb d_law_479 ?_
      refine lv_eqi (nI_add (5 * t) 2) ?_
      refine va_sld hx hb hX hbl hbA hS (hin 2 (by decide)) d_law_480 ?_
      refine sd_calli (va_runV (As := [.int (xs (nI (5 * t + 1)).toNatClampNeg), .int (xs (nI (5 * t + 2)).toNatClampNeg)]) (rest := []) ⟨hx, hb, hml, hown, hts⟩ (c_take l dC dI kc a _ d (xs (nI (5 * t + 1)).toNatClampNeg) (xs (nI (5 * t + 2)).toNatClampNeg) (sp_take d (xs (nI (5 * t + 1)).toNatClampNeg) (xs (nI (5 * t + 2)).toNatClampNeg)).1 (sp_take d (xs (nI (5 * t + 1)).toNatClampNeg) (xs (nI (5 * t + 2)).toNatClampNeg)).2 (pe _)) (cwV 2 hts (gd_V mI wd_259 wd_260 wd_261 wd_1 wd_262) rfl rfl rfl hd_take ⟨Nat.le_of_ble_eq_true rfl, Nat.le_of_ble_eq_true rfl⟩) ⟨ml_blind, va_recv hK (sd_Pl hP) (ci := 0) rfl (ml_at (by decide) (dc_desk kc a d)), ml_pre (sd_Pl hP) hK (sd_Dl hD)⟩ rfl rfl hl.1 rfl (lv_room (Nat.le_of_ble_eq_true rfl)) d_law_481 ⟨Nat.le_of_ble_eq_true rfl, Nat.le_of_ble_eq_true rfl⟩) hP hD hS hA (fun H locs hP hD hS => ?_)
      refine lv_aload_n hx hb d_law_484 rfl (lv_at hl 2 rfl) ?_
      refine lv_aload_n hx hb d_law_485 rfl (lv_at hl 0 rfl) ?_
      refine lv_iload_n hx hb d_law_486 rfl (lv_at hl 3 rfl) ?_
      refine lv_iconst (v := 1) hx hb d_law_487 (by decide) ?_
      refine lv_iadd hx hb d_law_488 ?_
      refine lv_eqi (nI_add (5 * t) 1) ?_
      refine va_sld hx hb hX hbl hbA hS (hin 1 (by decide)) d_law_489 ?_
      refine lv_aload_n hx hb d_law_490 rfl (lv_at hl 0 rfl) ?_
      refine lv_iload_n hx hb d_law_491 rfl (lv_at hl 3 rfl) ?_
      refine lv_iconst (v := 2) hx hb d_law_492 (by decide) ?_
      refine lv_iadd hx hb d_law_493 ?_
      refine lv_eqi (nI_add (5 * t) 2) ?_
      refine va_sld hx hb hX hbl hbA hS (hin 2 (by decide)) d_law_494 ?_
      refine sr_calli (va_runV (As := [.int (xs (nI (5 * t + 1)).toNatClampNeg), .int (xs (nI (5 * t + 2)).toNatClampNeg)]) (rest := [.int ((sp_take d (xs (nI (5 * t + 1)).toNatClampNeg) (xs (nI (5 * t + 2)).toNatClampNeg)).1)]) ⟨hx, hb, hml, hown, hts⟩ (c_M_take l dC dI kc bm _ mo (xs (nI (5 * t + 1)).toNatClampNeg) (xs (nI (5 * t + 2)).toNatClampNeg) (MN_of hR) (PW_of hR _ _) (sp_M_take mo (xs (nI (5 * t + 1)).toNatClampNeg) (xs (nI (5 * t + 2)).toNatClampNeg)).1 (sp_M_take mo (xs (nI (5 * t + 1)).toNatClampNeg) (xs (nI (5 * t + 2)).toNatClampNeg)).2 (pe _)) (cwV 2 hts (gd_V mI wd_470 wd_471 wd_472 wd_6 wd_473) rfl rfl rfl hd_M_take ⟨Nat.le_of_ble_eq_true rfl, Nat.le_of_ble_eq_true rfl⟩) ⟨ml_blind, va_recv hK (sd_Pr hP) (ci := 5) rfl (ml_at (by decide) (mc_mod kc bm mo)), ml_pre (sd_Pr hP) hK (sd_Dr hD)⟩ rfl rfl hl.1 rfl (lv_room (Nat.le_of_ble_eq_true rfl)) d_law_495 ⟨Nat.le_of_ble_eq_true rfl, Nat.le_of_ble_eq_true rfl⟩) hP hD hS hA (fun H locs hP hD hS => ?_)
      have hsim := sim_take hR (xs (nI (5 * t + 1)).toNatClampNeg) (xs (nI (5 * t + 2)).toNatClampNeg)
      refine lv_icmp_eq (tgt := 678) hx hb d_law_498 (by decide) (fun _ => ?_) (fun hne => absurd hsim.1 hne)
      exact next _ _ _ _ (RR_up (by omega) hsim.2) hP hD hS
    by_cases e_11 : sw = (11 : Int32)
    · refine lv_tableIn (off := 471) (tgt := 503) hx hb d_law_32 (by rw [e_11]; decide) (by rw [e_11]; decide) (by rw [e_11]; rfl) (by decide) ?_
      refine lv_aload_n hx hb d_law_503 rfl (lv_at hl 1 rfl) ?_
      refine lv_aload_n hx hb d_law_504 rfl (lv_at hl 0 rfl) ?_
      refine lv_iload_n hx hb d_law_505 rfl (lv_at hl 3 rfl) ?_
      refine lv_iconst (v := 1) hx hb d_law_506 (by decide) ?_
      refine lv_iadd hx hb d_law_507 ?_
      refine lv_eqi (nI_add (5 * t) 1) ?_
      refine va_sld hx hb hX hbl hbA hS (hin 1 (by decide)) d_law_508 ?_
      refine lv_aload_n hx hb d_law_509 rfl (lv_at hl 0 rfl) ?_
      refine lv_iload_n hx hb d_law_510 rfl (lv_at hl 3 rfl) ?_
      refine lv_iconst (v := 2) hx hb d_law_511 (by decide) ?_
      refine lv_iadd hx hb d_law_512 ?_
      refine lv_eqi (nI_add (5 * t) 2) ?_
      refine va_sld hx hb hX hbl hbA hS (hin 2 (by decide)) d_law_513 ?_
      refine sd_calli (va_runV (As := [.int (xs (nI (5 * t + 1)).toNatClampNeg), .int (xs (nI (5 * t + 2)).toNatClampNeg)]) (rest := []) ⟨hx, hb, hml, hown, hts⟩ (c_ends l dC dI kc a _ d (xs (nI (5 * t + 1)).toNatClampNeg) (xs (nI (5 * t + 2)).toNatClampNeg) _ rfl) (cwV 2 hts (gd_V mI wd_267 wd_268 wd_269 wd_1 wd_270) rfl rfl rfl hd_ends ⟨Nat.le_of_ble_eq_true rfl, Nat.le_of_ble_eq_true rfl⟩) ⟨ml_blind, va_recv hK (sd_Pl hP) (ci := 0) rfl (ml_at (by decide) (dc_desk kc a d)), ml_pre (sd_Pl hP) hK (sd_Dl hD)⟩ rfl rfl hl.1 rfl (lv_room (Nat.le_of_ble_eq_true rfl)) d_law_514 ⟨Nat.le_of_ble_eq_true rfl, Nat.le_of_ble_eq_true rfl⟩) hP hD hS hA (fun H locs hP hD hS => ?_)
      refine lv_aload_n hx hb d_law_517 rfl (lv_at hl 2 rfl) ?_
      refine lv_aload_n hx hb d_law_518 rfl (lv_at hl 0 rfl) ?_
      refine lv_iload_n hx hb d_law_519 rfl (lv_at hl 3 rfl) ?_
      refine lv_iconst (v := 1) hx hb d_law_520 (by decide) ?_
      refine lv_iadd hx hb d_law_521 ?_
      refine lv_eqi (nI_add (5 * t) 1) ?_
      refine va_sld hx hb hX hbl hbA hS (hin 1 (by decide)) d_law_522 ?_
      refine lv_aload_n hx hb d_law_523 rfl (lv_at hl 0 rfl) ?_
      refine lv_iload_n hx hb d_law_524 rfl (lv_at hl 3 rfl) ?_
      refine lv_iconst (v := 2) hx hb d_law_525 (by decide) ?_
      refine lv_iadd hx hb d_law_526 ?_
      refine lv_eqi (nI_add (5 * t) 2) ?_
      refine va_sld hx hb hX hbl hbA hS (hin 2 (by decide)) d_law_527 ?_
      refine sr_calli (va_runV (As := [.int (xs (nI (5 * t + 1)).toNatClampNeg), .int (xs (nI (5 * t + 2)).toNatClampNeg)]) (rest := [.int (sp_ends d (xs (nI (5 * t + 1)).toNatClampNeg) (xs (nI (5 * t + 2)).toNatClampNeg))]) ⟨hx, hb, hml, hown, hts⟩ (c_M_ends l dC dI kc bm _ mo (xs (nI (5 * t + 1)).toNatClampNeg) (xs (nI (5 * t + 2)).toNatClampNeg) (sp_M_ends mo (xs (nI (5 * t + 1)).toNatClampNeg) (xs (nI (5 * t + 2)).toNatClampNeg)).1 (sp_M_ends mo (xs (nI (5 * t + 1)).toNatClampNeg) (xs (nI (5 * t + 2)).toNatClampNeg)).2 (pe _)) (cwV 2 hts (gd_V mI wd_474 wd_475 wd_476 wd_6 wd_477) rfl rfl rfl hd_M_ends ⟨Nat.le_of_ble_eq_true rfl, Nat.le_of_ble_eq_true rfl⟩) ⟨ml_blind, va_recv hK (sd_Pr hP) (ci := 5) rfl (ml_at (by decide) (mc_mod kc bm mo)), ml_pre (sd_Pr hP) hK (sd_Dr hD)⟩ rfl rfl hl.1 rfl (lv_room (Nat.le_of_ble_eq_true rfl)) d_law_528 ⟨Nat.le_of_ble_eq_true rfl, Nat.le_of_ble_eq_true rfl⟩) hP hD hS hA (fun H locs hP hD hS => ?_)
      have hsim := sim_ends hR (xs (nI (5 * t + 1)).toNatClampNeg) (xs (nI (5 * t + 2)).toNatClampNeg)
      refine lv_icmp_eq (tgt := 678) hx hb d_law_531 (by decide) (fun _ => ?_) (fun hne => absurd hsim.1 hne)
      exact next _ _ _ _ (RR_up (by omega) hsim.2) hP hD hS
    by_cases e_12 : sw = (12 : Int32)
    · refine lv_tableIn (off := 504) (tgt := 536) hx hb d_law_32 (by rw [e_12]; decide) (by rw [e_12]; decide) (by rw [e_12]; rfl) (by decide) ?_
      refine lv_aload_n hx hb d_law_536 rfl (lv_at hl 1 rfl) ?_
      refine lv_aload_n hx hb d_law_537 rfl (lv_at hl 0 rfl) ?_
      refine lv_iload_n hx hb d_law_538 rfl (lv_at hl 3 rfl) ?_
      refine lv_iconst (v := 1) hx hb d_law_539 (by decide) ?_
      refine lv_iadd hx hb d_law_540 ?_
      refine lv_eqi (nI_add (5 * t) 1) ?_
      refine va_sld hx hb hX hbl hbA hS (hin 1 (by decide)) d_law_541 ?_
      refine sd_calli (va_runV (As := [.int (xs (nI (5 * t + 1)).toNatClampNeg)]) (rest := []) ⟨hx, hb, hml, hown, hts⟩ (c_type l dC dI kc a _ d (xs (nI (5 * t + 1)).toNatClampNeg) (sp_type d (xs (nI (5 * t + 1)).toNatClampNeg)).1 (sp_type d (xs (nI (5 * t + 1)).toNatClampNeg)).2 (pe _)) (cwV 1 hts (gd_V mI wd_271 wd_272 wd_273 wd_1 wd_274) rfl rfl rfl hd_type ⟨Nat.le_of_ble_eq_true rfl, Nat.le_of_ble_eq_true rfl⟩) ⟨ml_blind, va_recv hK (sd_Pl hP) (ci := 0) rfl (ml_at (by decide) (dc_desk kc a d)), ml_pre (sd_Pl hP) hK (sd_Dl hD)⟩ rfl rfl hl.1 rfl (lv_room (Nat.le_of_ble_eq_true rfl)) d_law_542 ⟨Nat.le_of_ble_eq_true rfl, Nat.le_of_ble_eq_true rfl⟩) hP hD hS hA (fun H locs hP hD hS => ?_)
      refine lv_aload_n hx hb d_law_545 rfl (lv_at hl 2 rfl) ?_
      refine lv_aload_n hx hb d_law_546 rfl (lv_at hl 0 rfl) ?_
      refine lv_iload_n hx hb d_law_547 rfl (lv_at hl 3 rfl) ?_
      refine lv_iconst (v := 1) hx hb d_law_548 (by decide) ?_
      refine lv_iadd hx hb d_law_549 ?_
      refine lv_eqi (nI_add (5 * t) 1) ?_
      refine va_sld hx hb hX hbl hbA hS (hin 1 (by decide)) d_law_550 ?_
      refine sr_calli (va_runV (As := [.int (xs (nI (5 * t + 1)).toNatClampNeg)]) (rest := [.int ((sp_type d (xs (nI (5 * t + 1)).toNatClampNeg)).1)]) ⟨hx, hb, hml, hown, hts⟩ (c_M_type l dC dI kc bm _ mo (xs (nI (5 * t + 1)).toNatClampNeg) (SC_of (K := 500) hR (by omega)) (CO_of hR) (sp_M_type mo (xs (nI (5 * t + 1)).toNatClampNeg)).1 (sp_M_type mo (xs (nI (5 * t + 1)).toNatClampNeg)).2 (pe _)) (cwV 1 hts (gd_V mI wd_478 wd_479 wd_480 wd_6 wd_481) rfl rfl rfl hd_M_type ⟨Nat.le_of_ble_eq_true rfl, Nat.le_of_ble_eq_true rfl⟩) ⟨ml_blind, va_recv hK (sd_Pr hP) (ci := 5) rfl (ml_at (by decide) (mc_mod kc bm mo)), ml_pre (sd_Pr hP) hK (sd_Dr hD)⟩ rfl rfl hl.1 rfl (lv_room (Nat.le_of_ble_eq_true rfl)) d_law_551 ⟨Nat.le_of_ble_eq_true rfl, Nat.le_of_ble_eq_true rfl⟩) hP hD hS hA (fun H locs hP hD hS => ?_)
      have hsim := sim_type (by omega) hR (xs (nI (5 * t + 1)).toNatClampNeg)
      refine lv_icmp_eq (tgt := 678) hx hb d_law_554 (by decide) (fun _ => ?_) (fun hne => absurd hsim.1 hne)
      exact next _ _ _ _ (RR_up (by omega) hsim.2) hP hD hS
    by_cases e_13 : sw = (13 : Int32)
    · refine lv_tableIn (off := 527) (tgt := 559) hx hb d_law_32 (by rw [e_13]; decide) (by rw [e_13]; decide) (by rw [e_13]; rfl) (by decide) ?_
      refine lv_aload_n hx hb d_law_559 rfl (lv_at hl 1 rfl) ?_
      refine lv_aload_n hx hb d_law_560 rfl (lv_at hl 0 rfl) ?_
      refine lv_iload_n hx hb d_law_561 rfl (lv_at hl 3 rfl) ?_
      refine lv_iconst (v := 1) hx hb d_law_562 (by decide) ?_
      refine lv_iadd hx hb d_law_563 ?_
      refine lv_eqi (nI_add (5 * t) 1) ?_
      refine va_sld hx hb hX hbl hbA hS (hin 1 (by decide)) d_law_564 ?_
      refine lv_if_eq (tgt := 572) hx hb d_law_565 (by decide) (fun hz => ?_) (fun hz => ?_)
      · refine lv_iconst (v := 0) hx hb d_law_572 (by decide) ?_
        refine sd_calli (va_runV (As := [.int (0 : Int32)]) (rest := []) ⟨hx, hb, hml, hown, hts⟩ (c_read l dC dI kc a _ d (0 : Int32) (sp_read d (0 : Int32)).1 (sp_read d (0 : Int32)).2 (pe _)) (cwV 1 hts (gd_V mI wd_303 wd_304 wd_305 wd_1 wd_306) rfl rfl rfl hd_read ⟨Nat.le_of_ble_eq_true rfl, Nat.le_of_ble_eq_true rfl⟩) ⟨ml_blind, va_recv hK (sd_Pl hP) (ci := 0) rfl (ml_at (by decide) (dc_desk kc a d)), ml_pre (sd_Pl hP) hK (sd_Dl hD)⟩ rfl rfl hl.1 rfl (lv_room (Nat.le_of_ble_eq_true rfl)) d_law_573 ⟨Nat.le_of_ble_eq_true rfl, Nat.le_of_ble_eq_true rfl⟩) hP hD hS hA (fun H locs hP hD hS => ?_)
        refine lv_aload_n hx hb d_law_576 rfl (lv_at hl 2 rfl) ?_
        refine lv_aload_n hx hb d_law_577 rfl (lv_at hl 0 rfl) ?_
        refine lv_iload_n hx hb d_law_578 rfl (lv_at hl 3 rfl) ?_
        refine lv_iconst (v := 1) hx hb d_law_579 (by decide) ?_
        refine lv_iadd hx hb d_law_580 ?_
        refine lv_eqi (nI_add (5 * t) 1) ?_
        refine va_sld hx hb hX hbl hbA hS (hin 1 (by decide)) d_law_581 ?_
        refine lv_if_eq (tgt := 589) hx hb d_law_582 (by decide) (fun _ => ?_) (fun hz2 => absurd hz hz2)
        refine lv_iconst (v := 0) hx hb d_law_589 (by decide) ?_
        refine sr_calli (va_runV (As := [.int (0 : Int32)]) (rest := [.int ((sp_read d (0 : Int32)).1)]) ⟨hx, hb, hml, hown, hts⟩ (c_M_read l dC dI kc bm _ mo (0 : Int32) (CO_of hR) (sp_M_read mo (0 : Int32)).1 (sp_M_read mo (0 : Int32)).2 (pe _)) (cwV 1 hts (gd_V mI wd_490 wd_491 wd_492 wd_6 wd_493) rfl rfl rfl hd_M_read ⟨Nat.le_of_ble_eq_true rfl, Nat.le_of_ble_eq_true rfl⟩) ⟨ml_blind, va_recv hK (sd_Pr hP) (ci := 5) rfl (ml_at (by decide) (mc_mod kc bm mo)), ml_pre (sd_Pr hP) hK (sd_Dr hD)⟩ rfl rfl hl.1 rfl (lv_room (Nat.le_of_ble_eq_true rfl)) d_law_590 ⟨Nat.le_of_ble_eq_true rfl, Nat.le_of_ble_eq_true rfl⟩) hP hD hS hA (fun H locs hP hD hS => ?_)
        have hsim := sim_read hR (0 : Int32)
        refine lv_icmp_eq (tgt := 678) hx hb d_law_593 (by decide) (fun _ => ?_) (fun hne => absurd hsim.1 hne)
        exact next _ _ _ _ (RR_up (by omega) hsim.2) hP hD hS
      · refine lv_iconst (v := 1) hx hb d_law_568 (by decide) ?_
        refine lv_goto (tgt := 573) hx hb d_law_569 (by decide) ?_
        refine sd_calli (va_runV (As := [.int (1 : Int32)]) (rest := []) ⟨hx, hb, hml, hown, hts⟩ (c_read l dC dI kc a _ d (1 : Int32) (sp_read d (1 : Int32)).1 (sp_read d (1 : Int32)).2 (pe _)) (cwV 1 hts (gd_V mI wd_303 wd_304 wd_305 wd_1 wd_306) rfl rfl rfl hd_read ⟨Nat.le_of_ble_eq_true rfl, Nat.le_of_ble_eq_true rfl⟩) ⟨ml_blind, va_recv hK (sd_Pl hP) (ci := 0) rfl (ml_at (by decide) (dc_desk kc a d)), ml_pre (sd_Pl hP) hK (sd_Dl hD)⟩ rfl rfl hl.1 rfl (lv_room (Nat.le_of_ble_eq_true rfl)) d_law_573 ⟨Nat.le_of_ble_eq_true rfl, Nat.le_of_ble_eq_true rfl⟩) hP hD hS hA (fun H locs hP hD hS => ?_)
        refine lv_aload_n hx hb d_law_576 rfl (lv_at hl 2 rfl) ?_
        refine lv_aload_n hx hb d_law_577 rfl (lv_at hl 0 rfl) ?_
        refine lv_iload_n hx hb d_law_578 rfl (lv_at hl 3 rfl) ?_
        refine lv_iconst (v := 1) hx hb d_law_579 (by decide) ?_
        refine lv_iadd hx hb d_law_580 ?_
        refine lv_eqi (nI_add (5 * t) 1) ?_
        refine va_sld hx hb hX hbl hbA hS (hin 1 (by decide)) d_law_581 ?_
        refine lv_if_eq (tgt := 589) hx hb d_law_582 (by decide) (fun hz2 => absurd hz2 hz) (fun _ => ?_)
        refine lv_iconst (v := 1) hx hb d_law_585 (by decide) ?_
        refine lv_goto (tgt := 590) hx hb d_law_586 (by decide) ?_
        refine sr_calli (va_runV (As := [.int (1 : Int32)]) (rest := [.int ((sp_read d (1 : Int32)).1)]) ⟨hx, hb, hml, hown, hts⟩ (c_M_read l dC dI kc bm _ mo (1 : Int32) (CO_of hR) (sp_M_read mo (1 : Int32)).1 (sp_M_read mo (1 : Int32)).2 (pe _)) (cwV 1 hts (gd_V mI wd_490 wd_491 wd_492 wd_6 wd_493) rfl rfl rfl hd_M_read ⟨Nat.le_of_ble_eq_true rfl, Nat.le_of_ble_eq_true rfl⟩) ⟨ml_blind, va_recv hK (sd_Pr hP) (ci := 5) rfl (ml_at (by decide) (mc_mod kc bm mo)), ml_pre (sd_Pr hP) hK (sd_Dr hD)⟩ rfl rfl hl.1 rfl (lv_room (Nat.le_of_ble_eq_true rfl)) d_law_590 ⟨Nat.le_of_ble_eq_true rfl, Nat.le_of_ble_eq_true rfl⟩) hP hD hS hA (fun H locs hP hD hS => ?_)
        have hsim := sim_read hR (1 : Int32)
        refine lv_icmp_eq (tgt := 678) hx hb d_law_593 (by decide) (fun _ => ?_) (fun hne => absurd hsim.1 hne)
        exact next _ _ _ _ (RR_up (by omega) hsim.2) hP hD hS
    by_cases e_14 : sw = (14 : Int32)
    · refine lv_tableIn (off := 566) (tgt := 598) hx hb d_law_32 (by rw [e_14]; decide) (by rw [e_14]; decide) (by rw [e_14]; rfl) (by decide) ?_
      refine lv_aload_n hx hb d_law_598 rfl (lv_at hl 1 rfl) ?_
      refine lv_aload_n hx hb d_law_599 rfl (lv_at hl 0 rfl) ?_
      refine lv_iload_n hx hb d_law_600 rfl (lv_at hl 3 rfl) ?_
      refine lv_iconst (v := 1) hx hb d_law_601 (by decide) ?_
      refine lv_iadd hx hb d_law_602 ?_
      refine lv_eqi (nI_add (5 * t) 1) ?_
      refine va_sld hx hb hX hbl hbA hS (hin 1 (by decide)) d_law_603 ?_
      refine sd_calli (va_runV (As := [.int (xs (nI (5 * t + 1)).toNatClampNeg)]) (rest := []) ⟨hx, hb, hml, hown, hts⟩ (c_waiting l dC dI kc a _ d (xs (nI (5 * t + 1)).toNatClampNeg) _ rfl) (cwV 1 hts (gd_V mI wd_315 wd_316 wd_317 wd_1 wd_318) rfl rfl rfl hd_waiting ⟨Nat.le_of_ble_eq_true rfl, Nat.le_of_ble_eq_true rfl⟩) ⟨ml_blind, va_recv hK (sd_Pl hP) (ci := 0) rfl (ml_at (by decide) (dc_desk kc a d)), ml_pre (sd_Pl hP) hK (sd_Dl hD)⟩ rfl rfl hl.1 rfl (lv_room (Nat.le_of_ble_eq_true rfl)) d_law_604 ⟨Nat.le_of_ble_eq_true rfl, Nat.le_of_ble_eq_true rfl⟩) hP hD hS hA (fun H locs hP hD hS => ?_)
      refine lv_aload_n hx hb d_law_607 rfl (lv_at hl 2 rfl) ?_
      refine lv_aload_n hx hb d_law_608 rfl (lv_at hl 0 rfl) ?_
      refine lv_iload_n hx hb d_law_609 rfl (lv_at hl 3 rfl) ?_
      refine lv_iconst (v := 1) hx hb d_law_610 (by decide) ?_
      refine lv_iadd hx hb d_law_611 ?_
      refine lv_eqi (nI_add (5 * t) 1) ?_
      refine va_sld hx hb hX hbl hbA hS (hin 1 (by decide)) d_law_612 ?_
      refine sr_calli (va_runV (As := [.int (xs (nI (5 * t + 1)).toNatClampNeg)]) (rest := [.int (sp_waiting d (xs (nI (5 * t + 1)).toNatClampNeg))]) ⟨hx, hb, hml, hown, hts⟩ (c_M_waiting l dC dI kc bm _ mo (xs (nI (5 * t + 1)).toNatClampNeg) (sp_M_waiting mo (xs (nI (5 * t + 1)).toNatClampNeg)).1 (sp_M_waiting mo (xs (nI (5 * t + 1)).toNatClampNeg)).2 (pe _)) (cwV 1 hts (gd_V mI wd_494 wd_495 wd_496 wd_6 wd_497) rfl rfl rfl hd_M_waiting ⟨Nat.le_of_ble_eq_true rfl, Nat.le_of_ble_eq_true rfl⟩) ⟨ml_blind, va_recv hK (sd_Pr hP) (ci := 5) rfl (ml_at (by decide) (mc_mod kc bm mo)), ml_pre (sd_Pr hP) hK (sd_Dr hD)⟩ rfl rfl hl.1 rfl (lv_room (Nat.le_of_ble_eq_true rfl)) d_law_613 ⟨Nat.le_of_ble_eq_true rfl, Nat.le_of_ble_eq_true rfl⟩) hP hD hS hA (fun H locs hP hD hS => ?_)
      have hsim := sim_waiting hR (xs (nI (5 * t + 1)).toNatClampNeg)
      refine lv_icmp_eq (tgt := 678) hx hb d_law_616 (by decide) (fun _ => ?_) (fun hne => absurd hsim.1 hne)
      exact next _ _ _ _ (RR_up (by omega) hsim.2) hP hD hS
    by_cases e_15 : sw = (15 : Int32)
    · refine lv_tableIn (off := 589) (tgt := 621) hx hb d_law_32 (by rw [e_15]; decide) (by rw [e_15]; decide) (by rw [e_15]; rfl) (by decide) ?_
      refine lv_aload_n hx hb d_law_621 rfl (lv_at hl 1 rfl) ?_
      refine lv_aload_n hx hb d_law_622 rfl (lv_at hl 0 rfl) ?_
      refine lv_iload_n hx hb d_law_623 rfl (lv_at hl 3 rfl) ?_
      refine lv_iconst (v := 1) hx hb d_law_624 (by decide) ?_
      refine lv_iadd hx hb d_law_625 ?_
      refine lv_eqi (nI_add (5 * t) 1) ?_
      refine va_sld hx hb hX hbl hbA hS (hin 1 (by decide)) d_law_626 ?_
      refine sd_callv (va_runV (As := [.int (xs (nI (5 * t + 1)).toNatClampNeg)]) (rest := []) ⟨hx, hb, hml, hown, hts⟩ (c_show l dC dI kc a _ d (xs (nI (5 * t + 1)).toNatClampNeg) _ rfl) (cwV 1 hts (gd_V mI wd_319 wd_320 wd_321 wd_1 wd_322) rfl rfl rfl hd_show ⟨Nat.le_of_ble_eq_true rfl, Nat.le_of_ble_eq_true rfl⟩) ⟨ml_blind, va_recv hK (sd_Pl hP) (ci := 0) rfl (ml_at (by decide) (dc_desk kc a d)), ml_pre (sd_Pl hP) hK (sd_Dl hD)⟩ rfl rfl hl.1 rfl (lv_room (Nat.le_of_ble_eq_true rfl)) d_law_627 ⟨Nat.le_of_ble_eq_true rfl, Nat.le_of_ble_eq_true rfl⟩) hP hD hS hA (fun H locs hP hD hS => ?_)
      refine lv_aload_n hx hb d_law_630 rfl (lv_at hl 2 rfl) ?_
      refine lv_aload_n hx hb d_law_631 rfl (lv_at hl 0 rfl) ?_
      refine lv_iload_n hx hb d_law_632 rfl (lv_at hl 3 rfl) ?_
      refine lv_iconst (v := 1) hx hb d_law_633 (by decide) ?_
      refine lv_iadd hx hb d_law_634 ?_
      refine lv_eqi (nI_add (5 * t) 1) ?_
      refine va_sld hx hb hX hbl hbA hS (hin 1 (by decide)) d_law_635 ?_
      refine sr_callv (va_runV (As := [.int (xs (nI (5 * t + 1)).toNatClampNeg)]) (rest := []) ⟨hx, hb, hml, hown, hts⟩ (c_M_show l dC dI kc bm _ mo (xs (nI (5 * t + 1)).toNatClampNeg) (SC_of (K := 1) hR (by omega)) _ rfl) (cwV 1 hts (gd_V mI wd_498 wd_499 wd_500 wd_6 wd_501) rfl rfl rfl hd_M_show ⟨Nat.le_of_ble_eq_true rfl, Nat.le_of_ble_eq_true rfl⟩) ⟨ml_blind, va_recv hK (sd_Pr hP) (ci := 5) rfl (ml_at (by decide) (mc_mod kc bm mo)), ml_pre (sd_Pr hP) hK (sd_Dr hD)⟩ rfl rfl hl.1 rfl (lv_room (Nat.le_of_ble_eq_true rfl)) d_law_636 ⟨Nat.le_of_ble_eq_true rfl, Nat.le_of_ble_eq_true rfl⟩) hP hD hS hA (fun H locs hP hD hS => ?_)
      refine lv_goto (tgt := 678) hx hb d_law_639 (by decide) ?_
      exact next _ _ _ _ (RR_up (by omega) (sim_show (by omega) hR (xs (nI (5 * t + 1)).toNatClampNeg))) hP hD hS
    by_cases e_16 : sw = (16 : Int32)
    · refine lv_tableIn (off := 610) (tgt := 642) hx hb d_law_32 (by rw [e_16]; decide) (by rw [e_16]; decide) (by rw [e_16]; rfl) (by decide) ?_
      refine lv_aload_n hx hb d_law_642 rfl (lv_at hl 1 rfl) ?_
      refine lv_aload_n hx hb d_law_643 rfl (lv_at hl 0 rfl) ?_
      refine lv_iload_n hx hb d_law_644 rfl (lv_at hl 3 rfl) ?_
      refine lv_iconst (v := 1) hx hb d_law_645 (by decide) ?_
      refine lv_iadd hx hb d_law_646 ?_
      refine lv_eqi (nI_add (5 * t) 1) ?_
      refine va_sld hx hb hX hbl hbA hS (hin 1 (by decide)) d_law_647 ?_
      refine sd_calli (va_runV (As := [.int (xs (nI (5 * t + 1)).toNatClampNeg)]) (rest := []) ⟨hx, hb, hml, hown, hts⟩ (c_shown l dC dI kc a _ d (xs (nI (5 * t + 1)).toNatClampNeg) _ rfl) (cwV 1 hts (gd_V mI wd_323 wd_324 wd_325 wd_1 wd_326) rfl rfl rfl hd_shown ⟨Nat.le_of_ble_eq_true rfl, Nat.le_of_ble_eq_true rfl⟩) ⟨ml_blind, va_recv hK (sd_Pl hP) (ci := 0) rfl (ml_at (by decide) (dc_desk kc a d)), ml_pre (sd_Pl hP) hK (sd_Dl hD)⟩ rfl rfl hl.1 rfl (lv_room (Nat.le_of_ble_eq_true rfl)) d_law_648 ⟨Nat.le_of_ble_eq_true rfl, Nat.le_of_ble_eq_true rfl⟩) hP hD hS hA (fun H locs hP hD hS => ?_)
      refine lv_aload_n hx hb d_law_651 rfl (lv_at hl 2 rfl) ?_
      refine lv_aload_n hx hb d_law_652 rfl (lv_at hl 0 rfl) ?_
      refine lv_iload_n hx hb d_law_653 rfl (lv_at hl 3 rfl) ?_
      refine lv_iconst (v := 1) hx hb d_law_654 (by decide) ?_
      refine lv_iadd hx hb d_law_655 ?_
      refine lv_eqi (nI_add (5 * t) 1) ?_
      refine va_sld hx hb hX hbl hbA hS (hin 1 (by decide)) d_law_656 ?_
      refine sr_calli (va_runV (As := [.int (xs (nI (5 * t + 1)).toNatClampNeg)]) (rest := [.int (sp_shown d (xs (nI (5 * t + 1)).toNatClampNeg))]) ⟨hx, hb, hml, hown, hts⟩ (c_M_shown l dC dI kc bm _ mo (xs (nI (5 * t + 1)).toNatClampNeg) (SC_of (K := 0) hR (by omega)) (sp_M_shown mo (xs (nI (5 * t + 1)).toNatClampNeg)).1 (sp_M_shown mo (xs (nI (5 * t + 1)).toNatClampNeg)).2 (pe _)) (cwV 1 hts (gd_V mI wd_502 wd_503 wd_504 wd_6 wd_505) rfl rfl rfl hd_M_shown ⟨Nat.le_of_ble_eq_true rfl, Nat.le_of_ble_eq_true rfl⟩) ⟨ml_blind, va_recv hK (sd_Pr hP) (ci := 5) rfl (ml_at (by decide) (mc_mod kc bm mo)), ml_pre (sd_Pr hP) hK (sd_Dr hD)⟩ rfl rfl hl.1 rfl (lv_room (Nat.le_of_ble_eq_true rfl)) d_law_657 ⟨Nat.le_of_ble_eq_true rfl, Nat.le_of_ble_eq_true rfl⟩) hP hD hS hA (fun H locs hP hD hS => ?_)
      have hsim := sim_shown (by omega) hR (xs (nI (5 * t + 1)).toNatClampNeg)
      refine lv_icmp_eq (tgt := 678) hx hb d_law_660 (by decide) (fun _ => ?_) (fun hne => absurd hsim.1 hne)
      exact next _ _ _ _ (RR_up (by omega) hsim.2) hP hD hS
    by_cases e_17 : sw = (17 : Int32)
    · refine lv_tableIn (off := 633) (tgt := 665) hx hb d_law_32 (by rw [e_17]; decide) (by rw [e_17]; decide) (by rw [e_17]; rfl) (by decide) ?_
      refine lv_aload_n hx hb d_law_665 rfl (lv_at hl 1 rfl) ?_
      refine sd_calli (va_runV (As := []) (rest := []) ⟨hx, hb, hml, hown, hts⟩ (c_count l dC dI kc a _ d _ rfl) (cwV 0 hts (gd_V mI wd_331 wd_332 wd_333 wd_1 wd_334) rfl rfl rfl hd_count ⟨Nat.le_of_ble_eq_true rfl, Nat.le_of_ble_eq_true rfl⟩) ⟨ml_blind, va_recv hK (sd_Pl hP) (ci := 0) rfl (ml_at (by decide) (dc_desk kc a d)), ml_pre (sd_Pl hP) hK (sd_Dl hD)⟩ rfl rfl hl.1 rfl (lv_room (Nat.le_of_ble_eq_true rfl)) d_law_666 ⟨Nat.le_of_ble_eq_true rfl, Nat.le_of_ble_eq_true rfl⟩) hP hD hS hA (fun H locs hP hD hS => ?_)
      refine lv_aload_n hx hb d_law_669 rfl (lv_at hl 2 rfl) ?_
      refine sr_calli (va_runV (As := []) (rest := [.int (sp_count d)]) ⟨hx, hb, hml, hown, hts⟩ (c_M_count l dC dI kc bm _ mo (sp_M_count mo).1 (sp_M_count mo).2 (pe _)) (cwV 0 hts (gd_V mI wd_506 wd_507 wd_508 wd_6 wd_509) rfl rfl rfl hd_M_count ⟨Nat.le_of_ble_eq_true rfl, Nat.le_of_ble_eq_true rfl⟩) ⟨ml_blind, va_recv hK (sd_Pr hP) (ci := 5) rfl (ml_at (by decide) (mc_mod kc bm mo)), ml_pre (sd_Pr hP) hK (sd_Dr hD)⟩ rfl rfl hl.1 rfl (lv_room (Nat.le_of_ble_eq_true rfl)) d_law_670 ⟨Nat.le_of_ble_eq_true rfl, Nat.le_of_ble_eq_true rfl⟩) hP hD hS hA (fun H locs hP hD hS => ?_)
      have hsim := sim_count hR
      refine lv_icmp_eq (tgt := 678) hx hb d_law_673 (by decide) (fun _ => ?_) (fun hne => absurd hsim.1 hne)
      exact next _ _ _ _ (RR_up (by omega) hsim.2) hP hD hS
    have te_0 := tw_ne e_0 0 (by decide)
    have te_1 := tw_ne e_1 1 (by decide)
    have te_2 := tw_ne e_2 2 (by decide)
    have te_3 := tw_ne e_3 3 (by decide)
    have te_4 := tw_ne e_4 4 (by decide)
    have te_5 := tw_ne e_5 5 (by decide)
    have te_6 := tw_ne e_6 6 (by decide)
    have te_7 := tw_ne e_7 7 (by decide)
    have te_8 := tw_ne e_8 8 (by decide)
    have te_9 := tw_ne e_9 9 (by decide)
    have te_10 := tw_ne e_10 10 (by decide)
    have te_11 := tw_ne e_11 11 (by decide)
    have te_12 := tw_ne e_12 12 (by decide)
    have te_13 := tw_ne e_13 13 (by decide)
    have te_14 := tw_ne e_14 14 (by decide)
    have te_15 := tw_ne e_15 15 (by decide)
    have te_16 := tw_ne e_16 16 (by decide)
    have te_17 := tw_ne e_17 17 (by decide)
    refine lv_tableOut (tgt := 678) hx hb d_law_32 (by omega) (by decide) ?_
    exact next d mo _ _ (RR_up (by omega) hR) hP hD hS
