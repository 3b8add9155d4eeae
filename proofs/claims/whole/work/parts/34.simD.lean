/-! Pure: typing and reading. -/
theorem and7 {n : Nat} (h : n < 2 ^ 31) : nI n &&& (127 : Int32) = nI (n % 128) := pk_andN (by omega) 7 (by decide)
/-- only the console's numbers change -/
theorem RR_C {d d' : DK} {mo mo' : MK} {T : Nat} (h : RR d mo T) (h2 : d'.2 = d.2) (h1 : ∀ c, c < 12 ∨ 16 ≤ c → d'.1 c = d.1 c) (hm : ∀ c, c = 1 ∨ (4 ≤ c ∧ c ≤ 12) ∨ c = 14 → mo' c = mo c) (hC : RC d' mo') : RR d' mo' T :=
  ⟨RF_c h2 (fun c _ _ => h1 c (by omega)) (fun c _ => h1 c (by omega)) (fun c _ _ => hm c (by omega)) h.1, RL_c (h1 0 (by omega)) (h1 1 (by omega)) (hm 1 (by omega)) (hm 12 (by omega)) h.2.1, hC, RS_c (Nat.le_refl _) (h1 16 (by omega)) (h1 17 (by omega)) (hm 4 (by omega)) (hm 14 (by omega)) h.2.2.2⟩
def stp (d : DK) : DK := sp_Scr_addLast (sp_Scr_addLast (sp_Scr_addLast (sp_Con_dropLastOfLine d) (8 : Int32)) (32 : Int32)) (8 : Int32)
theorem RR_back {d : DK} {mo : MK} {T dn n : Nat} (hT : T + 3 < 2 ^ 30) (h : RR d mo T) (e1 : mo 3 0 = nI dn) (e2 : mo 2 0 = nI n) (hlt : dn < n) (hn : n ≤ 128) : RR (stp d) (sp_M_back mo) (T + 3) := by
  have key : RR (sp_Con_dropLastOfLine d) (u2 mo 2 0 ((mo 2 0) - (1 : Int32))) T := by
    obtain ⟨dn', n', st, g1, g2, g3, g4, g5, g6, g7, g8, g9⟩ := h.2.2.1
    have q1 : dn' = dn := (nI_eq (by omega) (by omega)).mp (g5.symm.trans e1)
    have q2 : n' = n := (nI_eq (by omega) (by omega)).mp (g7.symm.trans e2)
    subst q1
    subst q2
    obtain ⟨u, rfl⟩ : ∃ u, n' = u + 1 := ⟨n' - 1, by omega⟩
    have e : sp_Con_dropLastOfLine d = sI d 14 0 (nI u) := by
      unfold sp_Con_dropLastOfLine
      rw [g4, g6, if_neg (nI_ge (by omega) (by omega)), nI_pred]
    rw [e, e2, nI_pred]
    refine RR_C h rfl (fun c hc => sI_off (by omega)) (fun c hc => u2_off (by omega)) ?_
    refine ⟨dn', u, st, by omega, by omega, g3, by rw [sI_n (by omega)]; exact g4, by rw [u2_n (by omega)]; exact g5, sI_s, u2_s, by rw [sI_n (by omega)]; exact g8, fun j hj => ?_⟩
    rw [sI_n (by omega), u2_n (by omega)]
    exact g9 j (by omega)
  exact RR_puts (by omega) 8 (RR_puts (by omega) 32 (RR_puts (by omega) 8 key))
def itd : Nat → DK → DK
  | 0, d => d
  | k + 1, d => itd k (stp d)
def itm : Nat → MK → MK
  | 0, m => m
  | k + 1, m => itm k (sp_M_back m)
theorem RR_it {dn : Nat} : ∀ k n (d : DK) (mo : MK) T, T + 3 * k + 3 < 2 ^ 30 → RR d mo T → mo 3 0 = nI dn → mo 2 0 = nI n → dn + k ≤ n → n ≤ 128 → RR (itd k d) (itm k mo) (T + 3 * k)
  | 0, n, d, mo, T, _, h, _, _, _, _ => h
  | k + 1, n, d, mo, T, hT, h, e1, e2, h1, h2 => by
    have hb := RR_back (by omega) h e1 e2 (by omega) h2
    obtain ⟨u, rfl⟩ : ∃ u, n = u + 1 := ⟨n - 1, by omega⟩
    have := RR_it k u (stp d) (sp_M_back mo) (T + 3) (by omega) hb (by rw [bk_3]; exact e1) (by rw [bk_2, e2, nI_pred]) (by omega) (by omega)
    rw [show T + 3 * (k + 1) = T + 3 + 3 * k by omega]
    exact this
theorem tb_lp {t : Nat} (ht : t < 2 ^ 31) : ∀ n j (d : DK), j ≤ t → j + n = t + 1 → lp_takeBack (nI t) n j d = itd (t - j) d
  | 0, j, d, h1, h2 => by omega
  | n + 1, j, d, h1, h2 => by
    rw [lp_takeBack]
    by_cases hc : t ≤ j
    · rw [if_pos (nI_le hc (by omega)), show t - j = 0 by omega]
      rfl
    · rw [if_neg (nI_ge (by omega) ht), show t - j = (t - (j + 1)) + 1 by omega]
      exact tb_lp ht n (j + 1) (stp d) (by omega) (by omega)
theorem tb_eq {t : Nat} (ht : t < 2 ^ 31) (d : DK) : sp_takeBack d (nI t) = itd t d := by
  unfold sp_takeBack
  rw [nI_clamp ht, tb_lp ht (t + 1) 0 d (Nat.zero_le _) (by omega), Nat.sub_zero]
theorem ty_lp {dn : Nat} : ∀ n j t (m : MK), m 3 0 = nI dn → m 2 0 = nI t → dn ≤ t → t ≤ 128 → t - dn < n → lp_M_type n j m = ((1 : Int32), itm (t - dn) m)
  | 0, j, t, m, _, _, _, _, h => by omega
  | n + 1, j, t, m, e1, e2, h1, h2, h3 => by
    rw [lp_M_type, e1, e2]
    by_cases hc : t ≤ dn
    · rw [if_pos (nI_le hc (by omega)), show t - dn = 0 by omega]
      rfl
    · rw [if_neg (nI_ge (by omega) (by omega))]
      obtain ⟨u, rfl⟩ : ∃ u, t = u + 1 := ⟨t - 1, by omega⟩
      rw [ty_lp n (j + 1) u (sp_M_back m) (by rw [bk_3]; exact e1) (by rw [bk_2, e2, nI_pred]) (by omega) (by omega) (by omega), show u + 1 - dn = (u - dn) + 1 by omega]
      rfl
/-- what the model does with a byte that comes to the line -/
def mt (m1 : MK) (c : Int32) : Int32 × MK :=
  (if c = (10 : Int32) then ((1 : Int32), u2 (sp_M_puts (u2 (u2 m1 13 (m1 2 0).toNatClampNeg c) 2 0 (((u2 m1 13 (m1 2 0).toNatClampNeg c) 2 0) + (1 : Int32))) c) 3 0 ((sp_M_puts (u2 (u2 m1 13 (m1 2 0).toNatClampNeg c) 2 0 (((u2 m1 13 (m1 2 0).toNatClampNeg c) 2 0) + (1 : Int32))) c) 2 0))
   else (if c = (4 : Int32) then ((1 : Int32), u2 (sp_M_puts (u2 (u2 m1 13 (m1 2 0).toNatClampNeg c) 2 0 (((u2 m1 13 (m1 2 0).toNatClampNeg c) 2 0) + (1 : Int32))) c) 3 0 ((sp_M_puts (u2 (u2 m1 13 (m1 2 0).toNatClampNeg c) 2 0 (((u2 m1 13 (m1 2 0).toNatClampNeg c) 2 0) + (1 : Int32))) c) 2 0))
   else (if (sp_M_puts (u2 (u2 m1 13 (m1 2 0).toNatClampNeg c) 2 0 (((u2 m1 13 (m1 2 0).toNatClampNeg c) 2 0) + (1 : Int32))) c) 2 0 = (128 : Int32) then ((1 : Int32), u2 (sp_M_puts (u2 (u2 m1 13 (m1 2 0).toNatClampNeg c) 2 0 (((u2 m1 13 (m1 2 0).toNatClampNeg c) 2 0) + (1 : Int32))) c) 3 0 ((sp_M_puts (u2 (u2 m1 13 (m1 2 0).toNatClampNeg c) 2 0 (((u2 m1 13 (m1 2 0).toNatClampNeg c) 2 0) + (1 : Int32))) c) 2 0))
   else ((1 : Int32), u2 (sp_M_puts (u2 (u2 m1 13 (m1 2 0).toNatClampNeg c) 2 0 (((u2 m1 13 (m1 2 0).toNatClampNeg c) 2 0) + (1 : Int32))) c) 3 0 ((sp_M_puts (u2 (u2 m1 13 (m1 2 0).toNatClampNeg c) 2 0 (((u2 m1 13 (m1 2 0).toNatClampNeg c) 2 0) + (1 : Int32))) c) 3 0)))))
theorem ty_mt (mo : MK) (bt : Int32) : sp_M_type mo bt = (if bt < (0 : Int32) then ((0 : Int32), u2 mo 0 0 (0 : Int32)) else (if bt ≤ (255 : Int32) then (if bt = (8 : Int32) then (if ((u2 mo 0 0 (0 : Int32)) 2 0) ≤ ((u2 mo 0 0 (0 : Int32)) 3 0) then ((1 : Int32), u2 mo 0 0 (0 : Int32)) else ((1 : Int32), (sp_M_back (u2 mo 0 0 (0 : Int32))))) else (if bt = (127 : Int32) then (if ((u2 mo 0 0 (0 : Int32)) 2 0) ≤ ((u2 mo 0 0 (0 : Int32)) 3 0) then ((1 : Int32), u2 mo 0 0 (0 : Int32)) else ((1 : Int32), (sp_M_back (u2 mo 0 0 (0 : Int32))))) else (if bt = (21 : Int32) then (lp_M_type (128 + 1) 0 (u2 mo 0 0 (0 : Int32))) else (if (u2 mo 0 0 (0 : Int32)) 2 0 = (128 : Int32) then ((0 : Int32), u2 mo 0 0 (0 : Int32)) else (if bt = (13 : Int32) then mt (u2 mo 0 0 (0 : Int32)) 10 else mt (u2 mo 0 0 (0 : Int32)) bt))))) else ((0 : Int32), u2 mo 0 0 (0 : Int32)))) := rfl
theorem add_cases (d : DK) (c : Int32) {b st n dn : Nat} (hc : c = nI b) (g4 : d.1 13 0 = nI dn) (g6 : d.1 14 0 = nI n) (g8 : d.1 12 0 = nI st) (hst : st < 128) (hn : n < 128) :
    sp_Con_addToLine d c = sI (sI (sI d 15 ((st + n) % 128) (sb_b b)) 14 0 (nI (n + 1))) 13 0 (nI (if c = 10 ∨ c = 4 ∨ n + 1 = 128 then n + 1 else dn)) ∨ (¬ (c = 10 ∨ c = 4 ∨ n + 1 = 128) ∧ sp_Con_addToLine d c = sI (sI d 15 ((st + n) % 128) (sb_b b)) 14 0 (nI (n + 1))) := by
  have hm := Nat.mod_lt (st + n) (show 0 < 128 by decide)
  have ev : vp_nar .byte c.toInt8.toInt32 = sb_b b := by rw [hc]; exact pk_vb _
  unfold sp_Con_addToLine
  rw [ev, sI_n (by omega), g6, g8, nI_add, and7 (by omega), nI_clamp (by omega), nI_1, sI_s]
  by_cases c1 : c = 10
  · left
    rw [if_pos c1, if_pos (Or.inl c1)]
  rw [if_neg c1]
  by_cases c2 : c = 4
  · left
    rw [if_pos c2, if_pos (Or.inr (Or.inl c2))]
  rw [if_neg c2]
  unfold sp_Con_isFull
  rw [sI_s]
  by_cases c3 : n + 1 = 128
  · left
    rw [c3, if_neg (show ¬ (if nI 128 < (128 : Int32) then (0 : Int32) else 1) = 0 by decide), if_pos (Or.inr (Or.inr rfl))]
  · right
    have e : nI (n + 1) < (128 : Int32) := nI_lt (b := 128) (by omega) (by decide)
    rw [if_pos e, if_pos rfl]
    exact ⟨by simp [c1, c2, c3], rfl⟩
theorem RR_add {d : DK} {m1 : MK} {T b : Nat} (hT : T + 1 < 2 ^ 30) (h : RR d m1 T) (hb : b < 256) (hf : ¬ m1 2 0 = (128 : Int32)) : (mt m1 (nI b)).1 = 1 ∧ RR (sp_Scr_addLast (sp_Con_addToLine d (nI b)) (nI b)) (mt m1 (nI b)).2 (T + 1) := by
  obtain ⟨dn, n, st, g1, g2, g3, g4, g5, g6, g7, g8, g9⟩ := h.2.2.1
  have hn : n < 128 := by
    apply Nat.lt_of_le_of_ne g2
    intro e
    apply hf
    rw [g7, e]
    rfl
  obtain ⟨c, hc⟩ : ∃ c, c = nI b := ⟨_, rfl⟩
  rw [← hc]
  -- the model's end state, with the number of what is done
  have hmt : ∃ D : Nat, D = (if c = 10 ∨ c = 4 ∨ n + 1 = 128 then n + 1 else dn) ∧ mt m1 c = ((1 : Int32), u2 (sp_M_puts (u2 (u2 m1 13 n c) 2 0 (nI (n + 1))) c) 3 0 (nI D)) := by
    refine ⟨_, rfl, ?_⟩
    unfold mt
    rw [u2_n (c' := 2) (by omega), g7, nI_clamp (by omega), nI_1, pt_2, pt_3, u2_s, u2_n (c' := 3) (by omega), u2_n (c' := 3) (by omega), g5]
    by_cases c1 : c = 10
    · rw [if_pos c1, if_pos (Or.inl c1)]
    rw [if_neg c1]
    by_cases c2 : c = 4
    · rw [if_pos c2, if_pos (Or.inr (Or.inl c2))]
    rw [if_neg c2]
    by_cases c3 : n + 1 = 128
    · rw [if_pos (by rw [c3]; rfl), if_pos (Or.inr (Or.inr c3))]
    · rw [if_neg (show ¬ nI (n + 1) = (128 : Int32) from fun e => c3 ((eq_lit (B := 128) rfl (by decide) (by omega)).mp e)), if_neg (show ¬ (c = 10 ∨ c = 4 ∨ n + 1 = 128) by simp [c1, c2, c3])]
  obtain ⟨D, hD, em⟩ := hmt
  rw [em]
  refine ⟨rfl, ?_⟩
  show RR (sp_Scr_addLast (sp_Con_addToLine d c) c) (u2 (sp_M_puts (u2 (u2 m1 13 n c) 2 0 (nI (n + 1))) c) 3 0 (nI D)) (T + 1)
  have swap : u2 (sp_M_puts (u2 (u2 m1 13 n c) 2 0 (nI (n + 1))) c) 3 0 (nI D) = sp_M_puts (u2 (u2 (u2 m1 13 n c) 2 0 (nI (n + 1))) 3 0 (nI D)) c := by
    unfold sp_M_puts
    funext c' i'
    simp only [u2]
    by_cases q : c' = 3
    · subst q; simp
    · simp [q]
  rw [swap]
  refine RR_puts hT c ?_
  have hDle : dn ≤ D ∧ D ≤ n + 1 := by
    rw [hD]
    split <;> omega
  have base : ∀ d' : DK, d'.2 = d.2 → (∀ q, q < 12 ∨ 16 ≤ q → d'.1 q = d.1 q) → d'.1 13 0 = nI D → d'.1 14 0 = nI (n + 1) → d'.1 12 0 = nI st → d'.1 15 = upd (d.1 15) ((st + n) % 128) (sb_b b) → RR d' (u2 (u2 (u2 m1 13 n c) 2 0 (nI (n + 1))) 3 0 (nI D)) T := by
    intro d' q1 q2 q3 q4 q5 q6
    refine RR_C h q1 q2 (fun c' hc' => by rw [u2_off (by omega), u2_off (by omega), u2_off (by omega)]) ?_
    refine ⟨D, n + 1, st, hDle.2, by omega, g3, q3, u2_s, q4, by rw [u2_n (by omega)]; exact u2_s, q5, fun j hj => ?_⟩
    rw [u2_n (by omega), u2_n (by omega), q6]
    by_cases ej : j = n
    · subst ej
      exact ⟨b, hb, by rw [u2_s]; exact hc, pk_us⟩
    · rw [u2_n (by omega), pk_un (by omega)]
      exact g9 j (by omega)
  rcases add_cases d c hc g4 g6 g8 g3 hn with e | ⟨e1, e⟩
  · rw [e, ← hD]
    refine base _ rfl (fun q hq => by rw [sI_off (by omega), sI_off (by omega), sI_off (by omega)]) sI_s (by rw [sI_n (by omega)]; exact sI_s) (by rw [sI_n (by omega), sI_n (by omega), sI_n (by omega)]; exact g8) (by rw [sI_off (by omega), sI_off (by omega)]; exact sI_row)
  · rw [if_neg e1] at hD
    rw [e]
    refine base _ rfl (fun q hq => by rw [sI_off (by omega), sI_off (by omega)]) (by rw [sI_n (by omega), sI_n (by omega), hD]; exact g4) sI_s (by rw [sI_n (by omega), sI_n (by omega)]; exact g8) (by rw [sI_off (by omega)]; exact sI_row)
theorem RR_up {d : DK} {mo : MK} {T T' : Nat} (hT : T ≤ T') (h : RR d mo T) : RR d mo T' := ⟨h.1, h.2.1, h.2.2.1, RS_c hT rfl rfl rfl rfl h.2.2.2⟩
theorem sim_type {d : DK} {mo : MK} {T : Nat} (hT : T + 500 < 2 ^ 30) (h : RR d mo T) (bt : Int32) : (sp_type d bt).1 = (sp_M_type mo bt).1 ∧ RR (sp_type d bt).2 (sp_M_type mo bt).2 (T + 400) := by
  have h0 := RR_0 h
  rw [ty_mt]
  unfold sp_type
  generalize u2 mo 0 0 (0 : Int32) = m1 at h0 ⊢
  have h1 : RR d m1 (T + 400) := RR_up (by omega) h0
  obtain ⟨dn, n, st, g1, g2, g3, g4, g5, g6, g7, g8, g9⟩ := h0.2.2.1
  have hll : sp_Con_lineLength d = nI (n - dn) := by
    unfold sp_Con_lineLength
    rw [g4, g6, pk_sub g1]
  by_cases c1 : bt < 0
  · rw [if_pos c1, if_pos c1]; exact ⟨rfl, h1⟩
  rw [if_neg c1, if_neg c1]
  by_cases c2' : ¬ bt ≤ 255
  · rw [if_neg c2', if_neg c2']; exact ⟨rfl, h1⟩
  have c2 : bt ≤ 255 := Classical.not_not.mp c2'
  rw [if_pos c2, if_pos c2, hll, g5, g7]
  have one : (1 : Int32) = (if nI n ≤ nI dn then ((1 : Int32), m1) else ((1 : Int32), sp_M_back m1)).1 ∧ RR (sp_takeBack d (if nI (n - dn) < (1 : Int32) then nI (n - dn) else (1 : Int32))) (if nI n ≤ nI dn then ((1 : Int32), m1) else ((1 : Int32), sp_M_back m1)).2 (T + 400) := by
    by_cases q : n ≤ dn
    · rw [if_pos (nI_le q (by omega)), show n - dn = 0 by omega, if_pos (show nI 0 < (1 : Int32) by decide), tb_eq (by decide)]
      exact ⟨rfl, h1⟩
    · rw [if_neg (nI_ge (by omega) (by omega)), if_neg (show ¬ nI (n - dn) < (1 : Int32) from nI_nlt (b := 1) (by omega) (by omega)), show (1 : Int32) = nI 1 from rfl, tb_eq (by decide)]
      exact ⟨rfl, RR_up (by omega) (RR_back (by omega) h0 g5 g7 (by omega) g2)⟩
  by_cases c3 : bt = 8
  · rw [if_pos c3, if_pos c3]
    exact one
  rw [if_neg c3, if_neg c3]
  by_cases c4 : bt = 127
  · rw [if_pos c4, if_pos c4]
    exact one
  rw [if_neg c4, if_neg c4]
  by_cases c5 : bt = 21
  · rw [if_pos c5, if_pos c5, ty_lp 129 0 n m1 g5 g7 g1 g2 (by omega), tb_eq (by omega)]
    exact ⟨rfl, RR_up (by omega) (RR_it (n - dn) n d m1 T (by omega) h0 g5 g7 (by omega) g2)⟩
  rw [if_neg c5, if_neg c5]
  unfold sp_Con_isFull
  rw [g6]
  by_cases c6 : n = 128
  · subst c6
    rw [if_neg (show ¬ (if nI 128 < (128 : Int32) then (0 : Int32) else 1) = 0 by decide), if_pos (show nI 128 = (128 : Int32) from rfl)]
    exact ⟨rfl, h1⟩
  have e6 : ¬ nI n = (128 : Int32) := fun e => c6 ((eq_lit (B := 128) rfl (by decide) (by omega)).mp e)
  rw [if_pos (show nI n < (128 : Int32) from nI_lt (b := 128) (by omega) (by decide)), if_pos rfl, if_neg e6]
  by_cases c7 : bt = 13
  · rw [if_pos c7, if_pos c7]
    obtain ⟨r1, r2⟩ := RR_add (b := 10) (by omega) h0 (by decide) (by rw [g7]; exact e6)
    exact ⟨r1.symm, RR_up (by omega) r2⟩
  · rw [if_neg c7, if_neg c7]
    obtain ⟨b, hb, rfl⟩ := nI_of c1
    have hb2 : b ≤ 255 := (nI_leI hb (by decide)).mp (show nI b ≤ nI 255 from c2)
    obtain ⟨r1, r2⟩ := RR_add (b := b) (by omega) h0 (by omega) (by rw [g7]; exact e6)
    exact ⟨r1.symm, RR_up (by omega) r2⟩
theorem rd_lp (bb : Int32) {t : Nat} (ht : t ≤ 127) : ∀ n j (m : MK), j ≤ t → j + n = 128 → m 2 0 = nI t →
    ∃ m' : MK, lp_M_read n j bb m = (if bb = (4 : Int32) then ((-4 : Int32), m') else (bb, m')) ∧ (∀ c, c ≠ 13 → m' c = m c) ∧ (∀ q, j ≤ q → q < t → m' 13 q = m 13 (q + 1)) ∧ (∀ q, q < j ∨ t ≤ q → m' 13 q = m 13 q)
  | 0, j, m, h1, h2, _ => by omega
  | n + 1, j, m, h1, h2, h3 => by
    rw [lp_M_read, h3]
    by_cases hc : t ≤ j
    · rw [if_pos (nI_le hc (by omega))]
      exact ⟨m, rfl, fun _ _ => rfl, fun q g1 g2 => by omega, fun _ _ => rfl⟩
    · rw [if_neg (nI_ge (by omega) (by omega)), nI_clamp (by omega), nI_clamp (by omega)]
      obtain ⟨m', g1, g2, g3, g4⟩ := rd_lp bb ht n (j + 1) (u2 m 13 j (m 13 (j + 1))) (by omega) (by omega) (by rw [u2_n (by omega)]; exact h3)
      refine ⟨m', g1, fun c hc => by rw [g2 c hc, u2_off hc], fun q q1 q2 => ?_, fun q hq => ?_⟩
      · by_cases e : q = j
        · subst e
          rw [g4 q (Or.inl (by omega)), u2_s]
        · rw [g3 q (by omega) q2, u2_n (by omega)]
      · rw [g4 q (by omega), u2_n (by omega)]
theorem sim_read {d : DK} {mo : MK} {T : Nat} (h : RR d mo T) (fi : Int32) : (sp_read d fi).1 = (sp_M_read mo fi).1 ∧ RR (sp_read d fi).2 (sp_M_read mo fi).2 T := by
  have h0 := RR_0 h
  unfold sp_read sp_M_read
  generalize u2 mo 0 0 (0 : Int32) = m1 at h0 ⊢
  obtain ⟨dn, n, st, g1, g2, g3, g4, g5, g6, g7, g8, g9⟩ := h0.2.2.1
  rw [g4, g5]
  by_cases c0 : dn = 0
  · subst c0
    rw [if_neg (by decide), if_pos (show nI 0 = (0 : Int32) from rfl)]
    exact ⟨rfl, h0⟩
  obtain ⟨u, rfl⟩ : ∃ u, dn = u + 1 := ⟨dn - 1, by omega⟩
  obtain ⟨w, rfl⟩ : ∃ w, n = w + 1 := ⟨n - 1, by omega⟩
  rw [if_pos (show (0 : Int32) < nI (u + 1) from nI_lt (a := 0) (by omega) (by omega)), if_neg (nI_ne0 (by omega) (by omega))]
  obtain ⟨b, hb, b1, b2⟩ := g9 0 (by omega)
  have ef : sp_Con_firstDone d = nI b := by
    unfold sp_Con_firstDone
    rw [g8, and7 (by omega), nI_clamp (by omega)]
    rw [Nat.add_zero] at b2
    rw [b2]
    exact (sb_byte b hb).1
  rw [ef, show (0 : Int32).toNatClampNeg = 0 from rfl, b1, nI_pred, u2_n (c' := 2) (by omega), g7, nI_pred]
  obtain ⟨m', r1, r2, r3, r4⟩ := rd_lp (nI b) (show w ≤ 127 by omega) 128 0 (u2 (u2 m1 3 0 (nI u)) 2 0 (nI w)) (by omega) (by omega) u2_s
  rw [r1]
  have ed : sp_Con_dropFirstDone d = sI (sI (sI d 12 0 (nI ((st + 1) % 128))) 13 0 (nI u)) 14 0 (nI w) := by
    unfold sp_Con_dropFirstDone
    rw [g4, if_neg (nI_nle (by omega) (by omega)), sI_n (c' := 13) (by omega), g4, g8, nI_1, and7 (by omega), nI_pred, sI_n (c' := 14) (by omega), sI_n (c' := 14) (by omega), g6, nI_pred]
  have key : RR (sp_Con_dropFirstDone d) m' T := by
    rw [ed]
    refine RR_C h0 rfl (fun c hc => by rw [sI_off (by omega), sI_off (by omega), sI_off (by omega)]) (fun c hc => by rw [r2 c (by omega), u2_off (by omega), u2_off (by omega)]) ?_
    refine ⟨u, w, (st + 1) % 128, by omega, by omega, by omega, by rw [sI_n (by omega)]; exact sI_s, by rw [r2 3 (by omega), u2_n (by omega)]; exact u2_s, sI_s, by rw [r2 2 (by omega)]; exact u2_s, by rw [sI_n (by omega), sI_n (by omega)]; exact sI_s, fun j hj => ?_⟩
    rw [r3 j (by omega) hj, u2_n (by omega), u2_n (by omega), sI_n (by omega), sI_n (by omega), sI_n (by omega), show ((st + 1) % 128 + j) % 128 = (st + (j + 1)) % 128 by omega]
    exact g9 (j + 1) (by omega)
  by_cases c4 : nI b = (4 : Int32)
  · rw [if_pos c4, if_pos c4, if_pos c4, if_pos c4]
    by_cases cf : fi = 0
    · rw [if_pos cf, if_pos cf]; exact ⟨rfl, h0⟩
    · rw [if_neg cf, if_neg cf]; exact ⟨rfl, key⟩
  · rw [if_neg c4, if_neg c4, if_neg c4]
    exact ⟨rfl, key⟩
