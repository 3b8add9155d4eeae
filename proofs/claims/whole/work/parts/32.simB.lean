/-! Pure: the calls that only look, and the screen. -/
theorem isE_c3 {nm : Nat → Option (Fin 32)} {mo mo' : MK} {k i : Nat} {sd : Int32} (h6 : mo' 6 = mo 6) (h7 : mo' 7 = mo 7) (h8 : mo' 8 = mo 8) : isE nm mo' k sd i ↔ isE nm mo k sd i := by
  unfold isE
  rw [h6, h7, h8]
theorem ES_c {d d' : DK} {mo mo' : MK} {k c : Nat} {sd : Int32} (h1 : d'.1 c k = d.1 c k) (h2 : d'.2.1 = d.2.1) (h6 : mo' 6 = mo 6) (h7 : mo' 7 = mo 7) (h8 : mo' 8 = mo 8) (h : ES d mo k c sd) : ES d' mo' k c sd := by
  unfold ES at h ⊢
  rw [h1, h2]
  rcases h with ⟨q1, i, q2, q3⟩ | ⟨q1, q2⟩
  · exact Or.inl ⟨q1, i, (isE_c3 h6 h7 h8).mpr q2, fun i' q => q3 i' ((isE_c3 h6 h7 h8).mp q)⟩
  · exact Or.inr ⟨q1, fun i q => q2 i ((isE_c3 h6 h7 h8).mp q)⟩
theorem PC_c {d d' : DK} {mo mo' : MK} {k : Nat} (h1 : d'.1 8 k = d.1 8 k) (h2 : d'.1 9 k = d.1 9 k) (h3 : d'.1 (18 + k) = d.1 (18 + k)) (h4 : mo' 10 k = mo 10 k) (h5 : mo' 11 = mo 11) (h : PC d mo k) : PC d' mo' k := by
  unfold PC at h ⊢
  rw [h1, h2, h3, h4, h5]
  exact h
theorem sim_left {d : DK} {mo : MK} {T : Nat} (h : RR d mo T) (kx : Int32) : sp_left d kx = (sp_M_left mo kx).1 ∧ RR d (sp_M_left mo kx).2 T := by
  have h0 := RR_0 h
  unfold sp_left sp_M_left
  generalize u2 mo 0 0 (0 : Int32) = m1 at h0 ⊢
  obtain ⟨n, hn, e1, e2, e3⟩ := h0.2.1
  by_cases c1 : kx < 0
  · rw [if_pos c1, if_pos c1]; exact ⟨rfl, h0⟩
  rw [if_neg c1, if_neg c1, e1, e2]
  by_cases c2 : nI n ≤ kx
  · rw [if_pos c2, if_pos c2]; exact ⟨rfl, h0⟩
  rw [if_neg c2, if_neg c2]
  obtain ⟨j, hj, rfl⟩ := nI_of c1
  have hjn : j < n := Nat.lt_of_not_le (fun q => c2 (nI_le q hj))
  rw [if_pos (show nI j < (16 : Int32) from nI_lt (b := 16) (by omega) (by decide)), nI_clamp hj]
  exact ⟨e3 j hjn, h0⟩
theorem sim_waiting {d : DK} {mo : MK} {T : Nat} (h : RR d mo T) (wh : Int32) : sp_waiting d wh = (sp_M_waiting mo wh).1 ∧ RR d (sp_M_waiting mo wh).2 T := by
  have h0 := RR_0 h
  unfold sp_waiting sp_M_waiting
  generalize u2 mo 0 0 (0 : Int32) = m1 at h0 ⊢
  obtain ⟨dn, n, st, g1, g2, g3, g4, g5, g6, g7, g8, g9⟩ := h0.2.2.1
  by_cases c1 : wh = 0
  · rw [if_pos c1, if_pos c1]; exact ⟨g4.trans g5.symm, h0⟩
  rw [if_neg c1, if_neg c1]
  by_cases c2 : wh = 1
  · rw [if_pos c2, if_pos c2]; exact ⟨g6.trans g7.symm, h0⟩
  rw [if_neg c2, if_neg c2]
  exact ⟨rfl, h0⟩
theorem sim_count {d : DK} {mo : MK} {T : Nat} (h : RR d mo T) : sp_count d = (sp_M_count mo).1 ∧ RR d (sp_M_count mo).2 T := by
  have h0 := RR_0 h
  unfold sp_count sp_M_count
  generalize u2 mo 0 0 (0 : Int32) = m1 at h0 ⊢
  obtain ⟨n, g1, g2, g3, g4⟩ := h0.2.2.2
  exact ⟨g2.trans g3.symm, h0⟩
theorem and12 {n : Nat} (h : n < 2 ^ 31) : nI n &&& (4095 : Int32) = nI (n % 4096) := pk_andN (by omega) 12 (by decide)
theorem RS_puts {d : DK} {mo : MK} {T : Nat} (hT : T + 1 < 2 ^ 30) (bt : Int32) (h : RS d mo T) : RS (sp_Scr_addLast d bt) (sp_M_puts mo bt) (T + 1) := by
  obtain ⟨n, g1, g2, g3, g4⟩ := h
  have hm := Nat.mod_lt n (show 0 < 4096 by decide)
  refine ⟨n + 1, by omega, ?_, ?_, ?_⟩
  · unfold sp_Scr_addLast
    rw [sI_s, sI_n (by omega), g2, nI_1]
  · rw [pt_4, g3, nI_1]
  · intro j hj
    unfold sp_Scr_addLast sp_M_puts
    rw [sI_n (by omega), u2_n (by omega), g2, g3, and12 (by omega), rem_eq n (by omega), nI_clamp (by omega)]
    by_cases e : j = n % 4096
    · subst e
      rw [sI_s, u2_s]
    · rw [sI_n (by omega), u2_n (by omega)]
      exact g4 j hj
theorem ad_off {d : DK} {bt : Int32} {c : Nat} (h1 : c ≠ 16) (h2 : c ≠ 17) : (sp_Scr_addLast d bt).1 c = d.1 c := by
  unfold sp_Scr_addLast
  rw [sI_off h1, sI_off h2]
theorem pt_off {mo : MK} {bt : Int32} {c : Nat} (h1 : c ≠ 4) (h2 : c ≠ 14) : (sp_M_puts mo bt) c = mo c := by
  unfold sp_M_puts
  rw [u2_off h1, u2_off h2]
theorem RR_puts {d : DK} {mo : MK} {T : Nat} (hT : T + 1 < 2 ^ 30) (bt : Int32) (h : RR d mo T) : RR (sp_Scr_addLast d bt) (sp_M_puts mo bt) (T + 1) :=
  ⟨RF_c (d := d) (mo := mo) rfl (fun c _ _ => ad_off (by omega) (by omega)) (fun c _ => ad_off (by omega) (by omega)) (fun c _ _ => pt_off (by omega) (by omega)) h.1,
   RL_c (ad_off (by omega) (by omega)) (ad_off (by omega) (by omega)) (pt_off (by omega) (by omega)) (pt_off (by omega) (by omega)) h.2.1,
   RC_c (fun c _ _ => ad_off (by omega) (by omega)) (pt_off (by omega) (by omega)) (pt_off (by omega) (by omega)) (pt_off (by omega) (by omega)) h.2.2.1, RS_puts hT bt h.2.2.2⟩
theorem sim_show {d : DK} {mo : MK} {T : Nat} (hT : T + 1 < 2 ^ 30) (h : RR d mo T) (bt : Int32) : RR (sp_show d bt) (sp_M_show mo bt) (T + 1) := RR_puts hT bt (RR_0 h)
theorem sim_shown {d : DK} {mo : MK} {T : Nat} (hT : T < 2 ^ 30) (h : RR d mo T) (kx : Int32) : sp_shown d kx = (sp_M_shown mo kx).1 ∧ RR d (sp_M_shown mo kx).2 T := by
  have h0 := RR_0 h
  unfold sp_shown sp_Scr_byteAt sp_M_shown
  generalize u2 mo 0 0 (0 : Int32) = m1 at h0 ⊢
  obtain ⟨n, g1, g2, g3, g4⟩ := h0.2.2.2
  rw [g2, g3]
  by_cases c1 : kx < 0
  · rw [if_pos c1, if_pos c1]; exact ⟨rfl, h0⟩
  rw [if_neg c1, if_neg c1]
  by_cases c2 : nI n ≤ kx
  · rw [if_pos c2, if_pos c2]; exact ⟨rfl, h0⟩
  rw [if_neg c2, if_neg c2]
  obtain ⟨j, hj, rfl⟩ := nI_of c1
  have hjn : j < n := Nat.lt_of_not_le (fun q => c2 (nI_le q hj))
  rw [pk_sub (show j ≤ n by omega), and12 hj, rem_eq j hj, nI_clamp (by have := Nat.mod_lt j (show 0 < 4096 by decide); omega)]
  by_cases c3 : n - j ≤ 4096
  · have e1 : nI (n - j) ≤ (4096 : Int32) := nI_le (b := 4096) c3 (by decide)
    have e2 : ¬ nI j < nI n - (4096 : Int32) := by
      by_cases c4 : 4096 ≤ n
      · rw [show (4096 : Int32) = nI 4096 from rfl, pk_sub c4]
        exact nI_nlt (by omega) hj
      · intro q
        have q1 : nI n - nI 4096 < 0 := pk_sneg (by decide) (by omega)
        have q2 : nI j < 0 := Int32.lt_trans q q1
        exact c1 q2
    rw [if_pos e1, if_neg e2, g4 _ (Nat.mod_lt _ (by decide))]
    exact ⟨rfl, h0⟩
  · have e1 : ¬ nI (n - j) ≤ (4096 : Int32) := nI_ge (b := n - j) (a := 4096) (by omega) (by omega)
    have e2 : nI j < nI n - (4096 : Int32) := by
      rw [show (4096 : Int32) = nI 4096 from rfl, pk_sub (by omega)]
      exact nI_lt (by omega) (by omega)
    rw [if_neg e1, if_pos e2]
    exact ⟨rfl, h0⟩
theorem m1_n : ¬ (0 : Int32) ≤ -1 := by decide
theorem m1_l : (-1 : Int32) < 0 := by decide
theorem one_if {r : Int32} (h : r = 0 ∨ r = 1) : sp_oneIf r = r := by
  rcases h with rfl | rfl <;> rfl
theorem HW_r {hw r w : Int32} (h : HW hw r w) : (r = 0 ∨ r = 1) ∧ (w = 0 ∨ w = 1) ∧ hw - hw / 2 * 2 = r ∧ hw / 2 = w := by
  rcases h with ⟨rfl, rfl, rfl⟩ | ⟨rfl, rfl, rfl⟩ | ⟨rfl, rfl, rfl⟩
  · exact ⟨Or.inr rfl, Or.inl rfl, by decide, by decide⟩
  · exact ⟨Or.inl rfl, Or.inr rfl, by decide, by decide⟩
  · exact ⟨Or.inr rfl, Or.inr rfl, by decide, by decide⟩
theorem sim_about {d : DK} {mo : MK} {T : Nat} (h : RR d mo T) (pr x wh : Int32) : sp_about d pr x wh = (sp_M_about mo pr x wh).1 ∧ RR d (sp_M_about mo pr x wh).2 T := by
  have h0 := RR_0 h
  unfold sp_about sp_M_about
  generalize u2 mo 0 0 (0 : Int32) = m1 at h0 ⊢
  rcases fo_cases h0.1 pr x with ⟨e1, e2⟩ | ⟨p, q, i, hp, hq, rfl, rfl, hn, e1, e2⟩
  · rw [e1, e2, oc_n, if_neg m1_n]
    exact ⟨rfl, h0⟩
  have hi := i.isLt
  rw [e1, e2, oc_s, if_pos (nI_pos' (by omega)), nI_clamp (by omega)]
  obtain ⟨f1, f2, f3, f4⟩ := h0.1.2.2.1 i.val hi (cn_pos (by omega) hn)
  obtain ⟨w1, w2, w3, w4⟩ := HW_r f3
  by_cases c0 : wh = 0
  · rw [if_pos c0, if_pos c0]; exact ⟨f1, h0⟩
  rw [if_neg c0, if_neg c0]
  by_cases c1 : wh = 1
  · rw [if_pos c1, if_pos c1]
    refine ⟨?_, h0⟩
    rcases f4 with ⟨-, -, k, g1, g2⟩ | ⟨-, g1, g2⟩
    · rw [g1, oc_s]; exact g2.symm
    · rw [g1, oc_n]; exact g2
  rw [if_neg c1, if_neg c1]
  by_cases c2 : wh = 2
  · rw [if_pos c2, if_pos c2, one_if w1]; exact ⟨w3.symm, h0⟩
  rw [if_neg c2, if_neg c2]
  by_cases c3 : wh = 3
  · rw [if_pos c3, if_pos c3, one_if w2]; exact ⟨w4.symm, h0⟩
  rw [if_neg c3, if_neg c3]
  by_cases c4 : wh = 4
  · rw [if_pos c4, if_pos c4]; exact ⟨f2, h0⟩
  rw [if_neg c4, if_neg c4]
  by_cases c5 : wh = 5
  · rw [if_pos c5, if_pos c5, nm_cn h0.1 hi]; exact ⟨h0.1.2.1 i.val hi, h0⟩
  rw [if_neg c5, if_neg c5]
  by_cases c6 : wh = 6
  · rw [if_pos c6, if_pos c6]; exact ⟨rfl, h0⟩
  rw [if_neg c6, if_neg c6]
  exact ⟨rfl, h0⟩
theorem RF_move {d : DK} {mo : MK} {i : Nat} {v : Int32} (h : RF d mo) : RF (sI d 6 i v) (u2 mo 9 i v) := by
  obtain ⟨a1, a2, a3, a4, a5, a6⟩ := h
  refine ⟨fun k hk => ?_, fun j hj => ?_, fun j hj ho => ?_, fun k hk => ES_c (sI_n (by omega)) rfl (u2_off (by decide)) (u2_off (by decide)) (u2_off (by decide)) (a4 k hk), fun k hk => ES_c (sI_n (by omega)) rfl (u2_off (by decide)) (u2_off (by decide)) (u2_off (by decide)) (a5 k hk), fun k hk ho => PC_c (sI_n (by omega)) (sI_n (by omega)) (sI_off (by omega)) (u2_n (by omega)) (u2_off (by decide)) (a6 k hk (by rw [sI_n (by omega), sI_n (by omega)] at ho; exact ho))⟩
  · rw [u2_n (by omega)]; exact a1 k hk
  · rw [sI_n (by omega)]; exact a2 j hj
  · have := a3 j hj ho
    unfold FI at this ⊢
    rw [sI_n (by omega), sI_n (c' := 3) (by omega), sI_n (c' := 4) (by omega), sI_n (c' := 5) (by omega), u2_n (c' := 6) (by omega), u2_n (c' := 7) (by omega), u2_n (c' := 8) (by omega)]
    refine ⟨this.1, ?_, this.2.2⟩
    by_cases e : j = i
    · subst e
      rw [sI_s, u2_s]
    · rw [sI_n (by omega), u2_n (by omega)]
      exact this.2.1
theorem sim_move {d : DK} {mo : MK} {T : Nat} (h : RR d mo T) (pr x nn : Int32) : (sp_move d pr x nn).1 = (sp_M_move mo pr x nn).1 ∧ RR (sp_move d pr x nn).2 (sp_M_move mo pr x nn).2 T := by
  have h0 := RR_0 h
  unfold sp_move sp_M_move
  generalize u2 mo 0 0 (0 : Int32) = m1 at h0 ⊢
  rcases fo_cases h0.1 pr x with ⟨e1, e2⟩ | ⟨p, q, i, hp, hq, rfl, rfl, hn, e1, e2⟩
  · rw [e1, e2, oc_n, if_pos m1_l]
    exact ⟨rfl, h0⟩
  have hi := i.isLt
  rw [e1, e2, oc_s, if_neg (nI_pos (by omega)), nI_clamp (by omega)]
  obtain ⟨f1, f2, f3, f4⟩ := h0.1.2.2.1 i.val hi (cn_pos (by omega) hn)
  rw [f1]
  by_cases c1 : m1 6 i.val = 2
  · rw [if_pos c1, if_pos c1]
    by_cases c2 : 0 ≤ nn
    · rw [if_pos c2, if_pos c2]
      refine ⟨rfl, ?_⟩
      show RR (sI d 6 i.val nn) (u2 m1 9 i.val nn) T
      exact ⟨RF_move h0.1, RL_c (sI_off (by decide)) (sI_off (by decide)) (u2_off (by decide)) (u2_off (by decide)) h0.2.1, RC_c (fun c _ _ => sI_off (by omega)) (u2_off (by decide)) (u2_off (by decide)) (u2_off (by decide)) h0.2.2.1, RS_c (Nat.le_refl _) (sI_off (by decide)) (sI_off (by decide)) (u2_off (by decide)) (u2_off (by decide)) h0.2.2.2⟩
    · rw [if_neg c2, if_neg c2]
      exact ⟨rfl, h0⟩
  · rw [if_neg c1, if_neg c1]
    exact ⟨rfl, h0⟩
theorem gn_cases {d : DK} {mo : MK} (h : RF d mo) {k : Nat} (hk : k < 8) : (sp_Pipe_isGone d (Fin.ofNat 8 k) = 0 ∧ ¬ sp_M_isPipe mo (nI k) = 0 ∧ (d.1 10 k = 1 ∨ d.1 11 k = 1)) ∨ (sp_Pipe_isGone d (Fin.ofNat 8 k) = 1 ∧ sp_M_isPipe mo (nI k) = 0 ∧ d.1 10 k = 0 ∧ d.1 11 k = 0) := by
  unfold sp_Pipe_isGone sp_M_isPipe
  rw [fin_v hk]
  rcases en_cases h (h.2.2.2.1 k hk) with ⟨e1, e2⟩ | ⟨e1, e2⟩
  · rw [e2, if_neg n01, if_pos e1]
    exact Or.inl ⟨rfl, n01, Or.inl rfl⟩
  · rcases en_cases h (h.2.2.2.2.1 k hk) with ⟨e3, e4⟩ | ⟨e3, e4⟩
    · rw [e2, if_pos rfl, e4, if_neg n01, if_neg (Int32.not_le.mpr e1), if_neg (Int32.not_lt.mpr e3)]
      exact Or.inl ⟨rfl, n01, Or.inr rfl⟩
    · rw [e2, if_pos rfl, e4, if_pos rfl, if_neg (Int32.not_le.mpr e1), if_pos e3]
      exact Or.inr ⟨rfl, rfl, rfl, rfl⟩
theorem sim_ends {d : DK} {mo : MK} {T : Nat} (h : RR d mo T) (kx wh : Int32) : sp_ends d kx wh = (sp_M_ends mo kx wh).1 ∧ RR d (sp_M_ends mo kx wh).2 T := by
  have h0 := RR_0 h
  unfold sp_ends sp_M_ends
  generalize u2 mo 0 0 (0 : Int32) = m1 at h0 ⊢
  by_cases c1 : kx < 0
  · rw [if_pos c1, if_pos c1]; exact ⟨rfl, h0⟩
  rw [if_neg c1, if_neg c1]
  obtain ⟨k, hk, rfl⟩ := nI_of c1
  by_cases c2 : k < 8
  · have e1 : nI k < (8 : Int32) := nI_lt (b := 8) c2 (by decide)
    have e2 : ¬ (7 : Int32) < nI k := nI_nlt (b := k) (a := 7) (by omega) (by decide)
    rw [if_pos e1, if_neg e2, nI_clamp hk]
    rcases gn_cases h0.1 c2 with ⟨g1, g2, g3⟩ | ⟨g1, g2, -, -⟩
    · rw [g1, if_pos rfl, if_neg g2, fin_v c2]
      by_cases w0 : wh = 0
      · subst w0
        rw [if_pos rfl, if_neg (by decide), if_pos (by decide), if_pos rfl]
        obtain ⟨n, st, q1, q2, q3, q4, q5, q6⟩ := h0.1.2.2.2.2.2 k c2 g3
        exact ⟨q3.trans q4.symm, h0⟩
      rw [if_neg w0]
      by_cases w1 : wh = 1
      · subst w1
        rw [if_pos rfl, if_neg (by decide), if_pos (by decide), if_neg (by decide)]
        rcases en_cases h0.1 (h0.1.2.2.2.1 k c2) with ⟨q1, q2⟩ | ⟨q1, q2⟩
        · rw [q2, if_neg (Int32.not_lt.mpr q1)]; exact ⟨rfl, h0⟩
        · rw [q2, if_pos q1]; exact ⟨rfl, h0⟩
      rw [if_neg w1]
      by_cases w2 : wh = 2
      · subst w2
        rw [if_pos rfl, if_neg (by decide), if_pos (by decide), if_neg (by decide)]
        rcases en_cases h0.1 (h0.1.2.2.2.2.1 k c2) with ⟨q1, q2⟩ | ⟨q1, q2⟩
        · rw [q2, if_neg (Int32.not_lt.mpr q1)]; exact ⟨rfl, h0⟩
        · rw [q2, if_pos q1]; exact ⟨rfl, h0⟩
      rw [if_neg w2]
      by_cases w3 : wh < 0
      · rw [if_pos w3]; exact ⟨rfl, h0⟩
      rw [if_neg w3]
      have w4 : ¬ wh ≤ 2 := by
        obtain ⟨j, hj, rfl⟩ := nI_of w3
        have j0 : j ≠ 0 := fun e => w0 (by rw [e]; rfl)
        have j1 : j ≠ 1 := fun e => w1 (by rw [e]; rfl)
        have j2 : j ≠ 2 := fun e => w2 (by rw [e]; rfl)
        exact nI_ge (a := 2) (b := j) (by omega) hj
      rw [if_neg w4]
      exact ⟨rfl, h0⟩
    · rw [g1, if_neg n01, if_pos g2]
      exact ⟨rfl, h0⟩
  · have e1 : ¬ nI k < (8 : Int32) := nI_nlt (b := 8) (by omega) hk
    have e2 : (7 : Int32) < nI k := nI_lt (a := 7) (by omega) hk
    rw [if_neg e1, if_pos e2]
    exact ⟨rfl, h0⟩
