/-! Pure: new files. -/
def fb (d : DK) (i : Nat) (ki r w : Int32) : DK := sI (sI (sI (sI (sR (sI (sI d 2 i ki) 3 i (0 : Int32)) i none) 4 i r) 5 i w) 6 i (0 : Int32)) 7 i (0 : Int32)
theorem fb_eq {d : DK} {i : Fin 32} {ki hw r w : Int32} (h : HW hw r w) : sp_File_begin d i ki hw = fb d i.val ki r w := by
  rcases h with ⟨rfl, rfl, rfl⟩ | ⟨rfl, rfl, rfl⟩ | ⟨rfl, rfl, rfl⟩ <;> rfl
theorem fb_n {d : DK} {i : Nat} {ki r w : Int32} {c j : Nat} (h : ¬ (2 ≤ c ∧ c ≤ 7 ∧ j = i)) : (fb d i ki r w).1 c j = d.1 c j := by
  unfold fb
  rw [sI_n (by omega), sI_n (by omega), sI_n (by omega), sI_n (by omega)]
  show (sI (sI d 2 i ki) 3 i (0 : Int32)).1 c j = d.1 c j
  rw [sI_n (by omega), sI_n (by omega)]
theorem fb_off {d : DK} {i : Nat} {ki r w : Int32} {c : Nat} (h : ¬ (2 ≤ c ∧ c ≤ 7)) : (fb d i ki r w).1 c = d.1 c := by
  funext j
  exact fb_n (by omega)
theorem fb_21 {d : DK} {i : Nat} {ki r w : Int32} : (fb d i ki r w).2.1 = d.2.1 := rfl
theorem fb_22 {d : DK} {i j : Nat} {ki r w : Int32} : (fb d i ki r w).2.2 j = va_up d.2.2 i none j := rfl
theorem fb_v {d : DK} {i : Nat} {ki r w : Int32} : (fb d i ki r w).1 2 i = ki ∧ (fb d i ki r w).1 3 i = 0 ∧ (fb d i ki r w).1 4 i = r ∧ (fb d i ki r w).1 5 i = w ∧ (fb d i ki r w).1 6 i = 0 ∧ (fb d i ki r w).1 7 i = 0 := by
  unfold fb
  refine ⟨?_, ?_, ?_, ?_, ?_, ?_⟩
  · rw [sI_n (by omega), sI_n (by omega), sI_n (by omega), sI_n (by omega)]
    show (sI (sI d 2 i ki) 3 i (0 : Int32)).1 2 i = ki
    rw [sI_n (by omega), sI_s]
  · rw [sI_n (by omega), sI_n (by omega), sI_n (by omega), sI_n (by omega)]
    show (sI (sI d 2 i ki) 3 i (0 : Int32)).1 3 i = 0
    rw [sI_s]
  · rw [sI_n (by omega), sI_n (by omega), sI_n (by omega), sI_s]
  · rw [sI_n (by omega), sI_n (by omega), sI_s]
  · rw [sI_n (by omega), sI_s]
  · rw [sI_s]
def mk (mo : MK) (k i : Nat) (so wt wy : Int32) : MK := u2 (u2 (u2 (u2 (u2 mo 5 k (nI (i + 1))) 6 i so) 7 i wt) 8 i wy) 9 i (0 : Int32)
theorem mk_n {mo : MK} {k i : Nat} {so wt wy : Int32} {c j : Nat} (h1 : ¬ (c = 5 ∧ j = k)) (h : ¬ (6 ≤ c ∧ c ≤ 9 ∧ j = i)) : mk mo k i so wt wy c j = mo c j := by
  unfold mk
  rw [u2_n (by omega), u2_n (by omega), u2_n (by omega), u2_n (by omega), u2_n (by omega)]
theorem mk_off {mo : MK} {k i : Nat} {so wt wy : Int32} {c : Nat} (h : ¬ (5 ≤ c ∧ c ≤ 9)) : mk mo k i so wt wy c = mo c := by
  funext j
  exact mk_n (by omega) (by omega)
theorem mk_v {mo : MK} {k i : Nat} {so wt wy : Int32} : mk mo k i so wt wy 5 k = nI (i + 1) ∧ mk mo k i so wt wy 6 i = so ∧ mk mo k i so wt wy 7 i = wt ∧ mk mo k i so wt wy 8 i = wy ∧ mk mo k i so wt wy 9 i = 0 := by
  unfold mk
  refine ⟨?_, ?_, ?_, ?_, ?_⟩
  · rw [u2_n (by omega), u2_n (by omega), u2_n (by omega), u2_n (by omega), u2_s]
  · rw [u2_n (by omega), u2_n (by omega), u2_n (by omega), u2_s]
  · rw [u2_n (by omega), u2_n (by omega), u2_s]
  · rw [u2_n (by omega), u2_s]
  · rw [u2_s]
/-- makes, by numbers -/
theorem mks_eq {mo : MK} {p r f : Nat} {so wt wy : Int32} (hp : p < 15) (hr : r < 16) (hf : f < 32) (ef : sp_M_freeFile mo = nI f) : sp_M_makes mo (nI p) (nI r) so wt wy = (nI r, mk mo (16 * p + r) f so wt wy) := by
  unfold sp_M_makes
  rw [ef, ix16c hp hr, nI_clamp (by omega), nI_1]
  rfl
/-- the least file that is free, on both sides -/
theorem ff_cases {d : DK} {mo : MK} (h : RF d mo) : (sp_freeFile d 0 = none ∧ sp_M_files mo = 32) ∨ ∃ f : Fin 32, f.val = sr (pg d) 32 0 ∧ sp_freeFile d 0 = some f ∧ ¬ sp_M_files mo = 32 ∧ sp_M_freeFile mo = nI f.val ∧ cn d.2.1 f.val = 0 := by
  have e1 : sr (pf mo) 32 0 = sr (pg d) 32 0 := sr_congr 32 0 (fun j _ hj => by rw [pf_cn h (by omega), pg_cn h (by omega)])
  have e2 : ct (pf mo) 32 = ct (pg d) 32 := ct_congr 32 (fun j hj => by rw [pf_cn h hj, pg_cn h hj])
  rw [ff_eq (Nat.zero_le _), mf_eq, mr_eq, e1, e2, Nat.sub_zero]
  have h1 := sr_le (pg d) 32 0
  have h2 := ct_le (pg d) 32
  by_cases c : sr (pg d) 32 0 < 32
  · rw [if_pos c]
    refine Or.inr ⟨Fin.ofNat 32 (sr (pg d) 32 0), fin_v c, rfl, ?_, by rw [fin_v c], ?_⟩
    · intro e
      have := (eq_lit (B := 32) rfl (by decide) (by omega)).mp e
      have := sr_full.mpr this
      omega
    · rw [fin_v c]
      have h3 := sr_at (pg d) 32 0 (by omega)
      rw [pg_cn h c] at h3
      simpa using h3
  · rw [if_neg c]
    refine Or.inl ⟨rfl, ?_⟩
    rw [sr_full.mp (show sr (pg d) 32 0 = 32 by omega)]
    rfl
/-- a new file that is no end of a pipe -/
theorem RF_new {d B : DK} {mo : MK} {k : Nat} {i : Fin 32} {so wt wy r w : Int32} (h : RF d mo) (hk : k < 240) (hn : d.2.1 k = none) (hc : cn d.2.1 i.val = 0) (hso : so = 2 ∨ so = 3) (hw : HW wy r w)
    (b21 : B.2.1 = d.2.1) (b22 : ∀ j, B.2.2 j = va_up d.2.2 i.val none j) (bn : ∀ c j, ¬ (2 ≤ c ∧ c ≤ 7 ∧ j = i.val) → B.1 c j = d.1 c j) (b2 : B.1 2 i.val = so) (b3 : B.1 3 i.val = wt) (b4 : B.1 4 i.val = r) (b5 : B.1 5 i.val = w) (b6 : B.1 6 i.val = 0) :
    RF (sI (sN B k (some i)) 7 i.val (nI 1)) (mk mo k i.val so wt wy) := by
  obtain ⟨a1, a2, a3, a4, a5, a6⟩ := h
  obtain ⟨v5, v6, v7, v8, v9⟩ := mk_v (mo := mo) (k := k) (i := i.val) (so := so) (wt := wt) (wy := wy)
  have hcn : ∀ j, cn (va_up d.2.1 k (some i)) j = cn d.2.1 j + (if i.val = j then 1 else 0) := cn_add hk hn
  have e21 : (sI (sN B k (some i)) 7 i.val (nI 1)).2.1 = va_up d.2.1 k (some i) := by
    show va_up B.2.1 k (some i) = _
    rw [b21]
  have hd : ∀ c j, c ≠ 7 → (sI (sN B k (some i)) 7 i.val (nI 1)).1 c j = B.1 c j := fun c j hc => sI_n (by omega)
  have hE : ∀ q sd j, isE (va_up d.2.1 k (some i)) (mk mo k i.val so wt wy) q sd j ↔ isE d.2.1 mo q sd j := by
    intro q sd j
    unfold isE
    by_cases e : j = i.val
    · subst e
      rw [v6, hc]
      constructor
      · rintro ⟨-, -, z, -⟩
        rcases hso with rfl | rfl <;> exact absurd z (by decide)
      · rintro ⟨-, z, -⟩
        omega
    · rw [mk_n (by omega) (by omega), mk_n (by omega) (by omega), mk_n (by omega) (by omega), hcn j, if_neg (fun z => e z.symm), Nat.add_zero]
  refine ⟨fun q hq => ?_, fun j hj => ?_, fun j hj o => ?_, fun q hq => ES_o (by rw [hd 10 q (by omega), bn 10 q (by omega)]) (by rw [e21]; exact hE q 1) (a4 q hq), fun q hq => ES_o (by rw [hd 11 q (by omega), bn 11 q (by omega)]) (by rw [e21]; exact hE q 2) (a5 q hq), fun q hq o => ?_⟩
  · rw [e21]
    by_cases e : q = k
    · subst e
      rw [v5, va_up_self]
      rfl
    · rw [mk_n (by omega) (by omega), va_up_ne _ _ e]
      exact a1 q hq
  · rw [e21, hcn j]
    by_cases e : j = i.val
    · subst e
      rw [sI_s, hc, if_pos rfl]
    · rw [sI_n (by omega), if_neg (fun z => e z.symm), Nat.add_zero]
      show B.1 7 j = _
      rw [bn 7 j (by omega)]
      exact a2 j hj
  · rw [e21, hcn j] at o
    by_cases e : j = i.val
    · subst e
      refine ⟨by rw [hd 2 _ (by omega), v6]; exact b2, by rw [hd 6 _ (by omega), v9]; exact b6, by rw [hd 4 _ (by omega), hd 5 _ (by omega), v8, b4, b5]; exact hw, Or.inr ⟨by rw [v6]; exact hso, ?_, by rw [hd 3 _ (by omega), v7]; exact b3⟩⟩
      show B.2.2 i.val = none
      rw [b22, va_up_self]
    · rw [if_neg (fun z => e z.symm), Nat.add_zero] at o
      refine FI_c ?_ (fun c g1 g2 => by rw [hd c j (by omega), bn c j (by omega)]) (fun c g1 g2 => mk_n (by omega) (by omega)) (a3 j hj o)
      show B.2.2 j = d.2.2 j
      rw [b22, va_up_ne _ _ e]
  · rw [hd 10 q (by omega), hd 11 q (by omega), bn 10 q (by omega), bn 11 q (by omega)] at o
    refine PC_c (by rw [hd 8 q (by omega), bn 8 q (by omega)]) (by rw [hd 9 q (by omega), bn 9 q (by omega)]) ?_ (by rw [mk_off (by omega)]) (mk_off (by omega)) (a6 q hq o)
    funext j
    rw [hd (18 + q) j (by omega), bn (18 + q) j (by omega)]
theorem op_cases (ki : Int32) : (sp_isOpenable ki = 0 ∧ (ki < 2 ∨ (¬ ki < 2 ∧ 3 < ki))) ∨ (sp_isOpenable ki = 1 ∧ ¬ ki < 2 ∧ ¬ 3 < ki ∧ (ki = 2 ∨ ki = 3)) := by
  unfold sp_isOpenable
  by_cases c1 : ki < 2
  · refine Or.inl ⟨?_, Or.inl c1⟩
    rw [if_neg (fun e => by rw [e] at c1; exact absurd c1 (by decide)), if_neg (fun e => by rw [e] at c1; exact absurd c1 (by decide))]
  · by_cases c2 : 3 < ki
    · refine Or.inl ⟨?_, Or.inr ⟨c1, c2⟩⟩
      rw [if_neg (fun e => by rw [e] at c2; exact absurd c2 (by decide)), if_neg (fun e => by rw [e] at c2; exact absurd c2 (by decide))]
    · have c3 : ¬ ki < 0 := fun z => c1 (Int32.lt_trans z (by decide))
      obtain ⟨t, ht, rfl⟩ := nI_of c3
      have t1 : ¬ t < 2 := fun z => c1 (nI_lt (b := 2) z (by decide))
      have t2 : ¬ 3 < t := fun z => c2 (nI_lt (a := 3) z ht)
      rcases (show t = 2 ∨ t = 3 by omega) with rfl | rfl
      · exact Or.inr ⟨rfl, c1, c2, Or.inl rfl⟩
      · exact Or.inr ⟨rfl, c1, c2, Or.inr rfl⟩
theorem ho_cases (hw : Int32) : (sp_isHow hw = 0 ∧ (hw < 1 ∨ (¬ hw < 1 ∧ 3 < hw))) ∨ (sp_isHow hw = 1 ∧ ¬ hw < 1 ∧ ¬ 3 < hw ∧ ∃ r w, HW hw r w) := by
  unfold sp_isHow
  by_cases c1 : hw < 1
  · exact Or.inl ⟨by rw [if_pos c1], Or.inl c1⟩
  · rw [if_neg c1]
    by_cases c2 : 3 < hw
    · exact Or.inl ⟨by rw [if_pos c2], Or.inr ⟨c1, c2⟩⟩
    · rw [if_neg c2]
      have c3 : ¬ hw < 0 := fun z => c1 (Int32.lt_trans z (by decide))
      obtain ⟨t, ht, rfl⟩ := nI_of c3
      have t1 : ¬ t < 1 := fun z => c1 (nI_lt (b := 1) z (by decide))
      have t2 : ¬ 3 < t := fun z => c2 (nI_lt (a := 3) z ht)
      refine Or.inr ⟨rfl, c1, c2, ?_⟩
      rcases (show t = 1 ∨ t = 2 ∨ t = 3 by omega) with rfl | rfl | rfl
      · exact ⟨1, 0, Or.inl ⟨rfl, rfl, rfl⟩⟩
      · exact ⟨0, 1, Or.inr (Or.inl ⟨rfl, rfl, rfl⟩)⟩
      · exact ⟨1, 1, Or.inr (Or.inr ⟨rfl, rfl, rfl⟩)⟩
theorem sim_open {d : DK} {mo : MK} {T : Nat} (h : RR d mo T) (pr ki ino hw : Int32) : (sp_open d pr ki ino hw).1 = (sp_M_open mo pr ki ino hw).1 ∧ RR (sp_open d pr ki ino hw).2 (sp_M_open mo pr ki ino hw).2 T := by
  have h0 := RR_0 h
  unfold sp_open sp_M_open
  generalize u2 mo 0 0 (0 : Int32) = m1 at h0 ⊢
  rw [isP_eq]
  rcases pr_01 pr with h1 | ⟨p, hp, rfl⟩
  · rw [if_pos h1, if_pos h1]; exact ⟨rfl, h0⟩
  rw [pr_1 hp, if_neg n01, if_neg n01]
  rcases op_cases ki with ⟨o1, o2⟩ | ⟨o1, o2, o3, o4⟩
  · rw [o1, if_pos rfl]
    rcases o2 with o2 | ⟨o2, o3⟩
    · rw [if_pos o2]; exact ⟨rfl, h0⟩
    · rw [if_neg o2, if_pos o3]; exact ⟨rfl, h0⟩
  rw [o1, if_neg n01, if_neg o2, if_neg o3]
  rcases ho_cases hw with ⟨w1, w2⟩ | ⟨w1, w2, w3, r, w, hHW⟩
  · rw [w1, if_pos rfl]
    rcases w2 with w2 | ⟨w2, w3⟩
    · rw [if_pos w2]; exact ⟨rfl, h0⟩
    · rw [if_neg w2, if_pos w3]; exact ⟨rfl, h0⟩
  rw [w1, if_neg n01, if_neg w2, if_neg w3]
  rcases vac_cases h0.1 hp with ⟨v1, v2⟩ | ⟨t, ht, -, v1, v2, v3⟩
  · rw [v1, v2, if_pos rfl]
    cases sp_freeFile d 0 with
    | none => rw [oc_n, if_pos rfl]; exact ⟨rfl, h0⟩
    | some i => rw [oc_s, if_pos rfl]; exact ⟨rfl, h0⟩
  rw [v1, v2, if_neg (n16 ht)]
  rcases ff_cases h0.1 with ⟨f1, f2⟩ | ⟨f, -, f1, f2, f3, f4⟩
  · rw [f1, f2, oc_n, if_pos rfl, if_neg (nm1 (by omega))]; exact ⟨rfl, h0⟩
  rw [f1, oc_s, if_neg (nm1 (by omega)), if_neg f2, mks_eq hp ht f.isLt f3, mks_eq hp ht f.isLt f3, fb_eq hHW]
  obtain ⟨q2, q3, q4, q5, q6, q7⟩ := fb_v (d := d) (i := f.val) (ki := ki) (r := r) (w := w)
  by_cases c : ki = 2
  · rw [if_pos c, if_pos c, sn_eq hp ht]
    refine ⟨rfl, RR_F h0 ?_ (fun c hc => ?_) (fun c hc => mk_off (by omega))⟩
    · have e : (sI (fb d f.val ki r w) 3 f.val ino).1 7 f.val + 1 = nI 1 := by rw [sI_n (by omega), q7]; rfl
      show RF (sI (sN (sI (fb d f.val ki r w) 3 f.val ino) (16 * p + t) (some f)) 7 f.val ((sI (fb d f.val ki r w) 3 f.val ino).1 7 f.val + 1)) (mk m1 (16 * p + t) f.val ki ino hw)
      rw [e]
      exact RF_new h0.1 (by omega) v3 f4 o4 hHW rfl (fun j => rfl) (fun c j hc => by rw [sI_n (by omega)]; exact fb_n (by omega)) (by rw [sI_n (by omega)]; exact q2) sI_s (by rw [sI_n (by omega)]; exact q4) (by rw [sI_n (by omega)]; exact q5) (by rw [sI_n (by omega)]; exact q6)
    · show (sI (sN (sI (fb d f.val ki r w) 3 f.val ino) (16 * p + t) (some f)) 7 f.val _).1 c = d.1 c
      rw [sI_off (by omega)]
      show (sI (fb d f.val ki r w) 3 f.val ino).1 c = d.1 c
      rw [sI_off (by omega), fb_off (by omega)]
  · rw [if_neg c, if_neg c, sn_eq hp ht]
    refine ⟨rfl, RR_F h0 ?_ (fun c hc => ?_) (fun c hc => mk_off (by omega))⟩
    · have e : (fb d f.val ki r w).1 7 f.val + 1 = nI 1 := by rw [q7]; rfl
      show RF (sI (sN (fb d f.val ki r w) (16 * p + t) (some f)) 7 f.val ((fb d f.val ki r w).1 7 f.val + 1)) (mk m1 (16 * p + t) f.val ki 0 hw)
      rw [e]
      exact RF_new h0.1 (by omega) v3 f4 o4 hHW rfl (fun j => rfl) (fun c j hc => fb_n (by omega)) q2 q3 q4 q5 q6
    · show (sI (sN (fb d f.val ki r w) (16 * p + t) (some f)) 7 f.val _).1 c = d.1 c
      rw [sI_off (by omega)]
      show (fb d f.val ki r w).1 c = d.1 c
      rw [fb_off (by omega)]
