/-! The law from its entry. -/
theorem cn_00 (i : Nat) : cn d00.2.1 i = 0 := ct_none 240 (fun j _ => rfl)
theorem RR_init : RR d00 m00 0 := by
  refine ⟨⟨fun k hk => rfl, fun i hi => by rw [cn_00]; rfl, fun i hi h => ?_, fun k hk => Or.inr ⟨rfl, fun i h => ?_⟩, fun k hk => Or.inr ⟨rfl, fun i h => ?_⟩, fun k hk h => ?_⟩, ⟨0, Nat.zero_le _, rfl, rfl, fun j hj => absurd hj (Nat.not_lt_zero j)⟩, ⟨0, 0, 0, Nat.le_refl _, Nat.zero_le _, by decide, rfl, rfl, rfl, rfl, rfl, fun j hj => absurd hj (Nat.not_lt_zero j)⟩, ⟨0, Nat.le_refl _, rfl, rfl, fun j hj => rfl⟩⟩
  · rw [cn_00] at h
    exact absurd h (Nat.lt_irrefl 0)
  · have := h.2.1
    rw [cn_00] at this
    exact absurd this (Nat.lt_irrefl 0)
  · have := h.2.1
    rw [cn_00] at this
    exact absurd this (Nat.lt_irrefl 0)
  · rcases h with h | h <;> exact absurd (show (0 : Int32) = 1 from h) (by decide)
section SRS
variable {p : Program} {l : Launch} {e : Env} {R : Room} {s : State} {m : MethodId} {args : Array Value} {below : List Frame} {meth : Method} {c : Code} {H : Heap} {locs : List Loc} {cells slots : Nat} {Q : State → Prop}
variable {pc : Nat} {ls : Array Slot} {rest : List Value} {D : va_G} {cl : List vw_C} {A : Nat → Prop} {tys : List (ClassId × FieldType)} {H0 : Heap} {N N' : Nat} {a b : Nat → Nat} {f g : Nat → va_E} {st0 : List Value} {ar : Array Value} {mc ms : Nat}
theorem sr_callS {S : Type} {N2 : Nat} {a2 : S → Nat → Nat} {f2 : S → Nat → va_E} (hr : va_Run p l e R s m args below meth c H locs cells slots mc ms (F0 m pc ls st0) rest (va_Qv (fun (_ : S) => True) (fun u t => ml_E D cl tys N2 (a2 u) (f2 u) (va_A (ml N' b g) H.size) t) (va_A (ml N' b g) H.size) ar) (va_A (ml N' b g) H.size)) (hP : va_P D cl (ml N a f ++ ml N' b g) H) (hD : va_D A (ml N a f ++ ml N' b g)) (hS : va_S A H0 H locs) (hA : ∀ q, H0.size ≤ q → A q)
    (kk : ∀ (u : S) (H1 : Heap) (locs1 : List Loc), va_P D cl (ml N a f ++ ml N2 (a2 u) (f2 u)) H1 → va_D A (ml N a f ++ ml N2 (a2 u) (f2 u)) → va_S A H0 H1 locs1 → W p l e R s m args below meth c H1 locs1 (cells + mc) (slots + ms) Q (F0 m (pc + 3) ls rest)) : W p l e R s m args below meth c H locs cells slots Q (F0 m pc ls st0) := by
  have hF := sd_freer hD hS hA
  refine va_callv hr hS (fun q _ h => hF q h) hF (fun u t H1 locs1 ht hvm hw hB hz hk hS1 => ?_)
  obtain ⟨hP1, hK1, hD1⟩ := hB
  rw [ht] at hP1
  obtain ⟨h1, h2⟩ := sd_r hP hD hk hF hP1 hD1
  exact kk u H1 locs1 h1 h2 hS1
end SRS
theorem t1_in {w : Cond} (i : Nat) (h : tables_1_1[i]? = some w) : w ∈ lw_tbl := List.mem_append_right _ (List.mem_append_left _ (List.mem_of_getElem? h))
theorem ax_17 : Cond.arrayOver (.object "HandleDesk$OpenFile") ∈ lw_tbl := t1_in 17 (by decide +kernel)
theorem ax_57 : Cond.arrayOver (.object "HandleDesk$Pipe") ∈ lw_tbl := t1_in 57 (by decide +kernel)
theorem ax_89 : Cond.methodLinkNest "HandleDesk" 38 y_init_C "HandleDesk" ∈ lw_tbl := t1_in 89 (by decide +kernel)
theorem ax_111 : Cond.methodLinkNest "HandleDesk" 45 y_init_S "HandleDesk" ∈ lw_tbl := t1_in 111 (by decide +kernel)
set_option maxHeartbeats 8000000 in
set_option maxRecDepth 100000 in
theorem whole_start {p : Program} {e : Env} {s : State} {m : MethodId} {below : List Frame} {meth : Method} {c : Code} (l : Launch) {b L : Nat} {xs : Nat → Int32} (hL : L ≤ 2560) (C0 : lw_At p s m meth c b L xs) : W p l e room_1 s m #[Value.ref b] below meth c s.heap [] 0 0 (lw_Z below #[Value.ref b] s) (entryFrame m ([Value.ref b] : List Value).toArray 4) := by
  obtain ⟨hx, hb, hr, hml, hown, hts0, hX, hbl, hlocks, hgv⟩ := id C0
  have hts : ∀ w ∈ wsA, w.before #[Value.ref b] s = true := fun w h => hts0 w (List.mem_filter.mp h).1
  have hA : ∀ q : Nat, s.heap.size ≤ q → (fun q : Nat => s.heap.size ≤ q) q := fun _ h => h
  obtain ⟨c0, iS0, hKn0⟩ := u_known (C := "HandleDesk") (T := TD) (N := 7) (n := 7) hts in_D (hts _ wd_9)
  obtain ⟨c1, iS1, hKn1⟩ := u_known (C := "HandleDesk$OpenFile") (T := TF) (N := 8) (n := 8) hts in_F (hts _ wd_18)
  obtain ⟨c2, iS2, hKn2⟩ := u_known (C := "HandleDesk$Pipe") (T := TP) (N := 6) (n := 6) hts in_P (hts _ wd_58)
  obtain ⟨c3, iS3, hKn3⟩ := u_known (C := "HandleDesk$Console") (T := TC) (N := 4) (n := 4) hts in_C (hts _ wd_88)
  obtain ⟨c4, iS4, hKn4⟩ := u_known (C := "HandleDesk$Screen") (T := TS) (N := 2) (n := 2) hts in_S (hts _ wd_110)
  obtain ⟨c5, iS5, hKn5⟩ := u_known (C := "HandleDeskModel") (T := TM) (N := 15) (n := 15) hts in_M (hts _ wd_336)
  obtain ⟨dC, dI, hKc⟩ : ∃ (dC : Nat → ClassId) (dI : Nat → Nat → Nat), ∀ (k : Nat) (q : vw_C), vwCl[k]? = some q → u_Kn s q.1 q.2.1 q.2.2 (dC k) (dI k) := by
    refine ⟨fun k => if k = 0 then c0 else if k = 1 then c1 else if k = 2 then c2 else if k = 3 then c3 else if k = 4 then c4 else c5, fun k => if k = 0 then iS0 else if k = 1 then iS1 else if k = 2 then iS2 else if k = 3 then iS3 else if k = 4 then iS4 else iS5, ?_⟩
    intro k q hq
    match k, hq with
    | 0, hq => cases hq; exact hKn0
    | 1, hq => cases hq; exact hKn1
    | 2, hq => cases hq; exact hKn2
    | 3, hq => cases hq; exact hKn3
    | 4, hq => cases hq; exact hKn4
    | 5, hq => cases hq; exact hKn5
    | k + 6, hq => simp [vwCl] at hq
  obtain ⟨cI, kI, compI, hfI, hkI, hkdI⟩ := Cond.arrayClass_spec (hts _ wd_108)
  obtain ⟨cB, kB, compB, hfB, hkB, hkdB⟩ := Cond.arrayClass_spec (hts _ wd_86)
  obtain ⟨compO, cO, kO, o1, o2, o3, o4, o5⟩ := Cond.arrayOver_spec (hts0 _ ax_17)
  obtain ⟨compP, cP, kP, p1, p2, p3, p4, p5⟩ := Cond.arrayOver_spec (hts0 _ ax_57)
  obtain ⟨kc, k0, k1, k2, k3⟩ : ∃ kc : Nat → ClassId, kc 0 = cI ∧ kc 1 = cB ∧ kc 2 = cO ∧ kc 3 = cP := ⟨fun j => if j = 0 then cI else if j = 1 then cB else if j = 2 then cO else cP, rfl, rfl, rfl, rfl⟩
  have hK : va_K (dC, dI) vwCl (tysD kc) s := by
    refine ⟨hKc, fun k q hq => ?_⟩
    match k, hq with
    | 0, hq => cases hq; rw [k0]; exact ⟨fun n z => ⟨(fun k h => by cases h), kI, hkI, compI, hkdI⟩, hfI⟩
    | 1, hq => cases hq; rw [k1]; exact ⟨fun n z => ⟨(fun k h => by cases h), kB, hkB, compB, hkdB⟩, hfB⟩
    | 2, hq => cases hq; rw [k2]; exact ⟨fun n z => ⟨(fun k h => by cases h), kO, o3, compO, o4⟩, kO, compO, o3, o4, o1, o5⟩
    | 3, hq => cases hq; rw [k3]; exact ⟨fun n z => ⟨(fun k h => by cases h), kP, p3, compP, p4⟩, kP, compP, p3, p4, p1, p5⟩
    | k + 4, hq => simp [tysD] at hq
  have hxt : xt s := ⟨va_AO.of (hts0 _ ax_17), va_AO.of (hts0 _ ax_57), va_Nw.of rfl (hts0 _ ax_89), va_Nw.of rfl (hts0 _ ax_111)⟩
  have hS : va_S (fun q : Nat => s.heap.size ≤ q) s.heap s.heap [] := va_S.rf
  have hP : va_P (dC, dI) vwCl (ml 0 (fun _ => 0) (fun _ => .inr (0, []))) s.heap := fun k q h => by rw [ml_no (Nat.zero_le _)] at h; cases h
  have hD : va_D (fun q : Nat => s.heap.size ≤ q) (ml 0 (fun _ => 0) (fun _ => .inr (0, []))) := ⟨(fun i j x y h => by rw [ml_no (Nat.zero_le _)] at h; cases h), (fun k q h => by rw [ml_no (Nat.zero_le _)] at h; cases h)⟩
  have hl := lv_entry ([.ref b]) (n := 4) (Nat.le_of_ble_eq_true rfl)
  rw [lg_entry_eq]
  generalize (lg_sl ([.ref b]) ++ List.replicate (4 - (lg_sl ([.ref b])).length) Slot.unset).toArray = ls at hl ⊢
  have hl : lv_has ls 4 [(0, .ref b)] := hl
  refine ml_new (D := (dC, dI)) (ci := 0) (fs := [.null, .null, .null, .null, .int 0, .null, .null]) hx hb hts in_D tyD tyD_ok hown (hts _ wd_8) (hts _ wd_9) (hts _ wd_1) hK hP hD hS hA rfl (fun j hj => by rcases (show j = 0 ∨ j = 1 ∨ j = 2 ∨ j = 3 ∨ j = 4 ∨ j = 5 ∨ j = 6 by omega) with rfl | rfl | rfl | rfl | rfl | rfl | rfl <;> rfl) (Nat.le_of_ble_eq_true rfl) (Nat.le_of_ble_eq_true rfl) d_law_0 (fun q H hP hD hS => ?_)
  refine W.widen (k := 1) (n := 7) (by omega) (by omega) ?_
  obtain ⟨a0, h0⟩ : ∃ a0 : Nat → Nat, a0 = va_up (fun _ => 0) 0 q := ⟨_, rfl⟩
  have ha0 : a0 0 = q := by rw [h0, va_up_self]
  have hcg : ml 1 a0 (gp kc a0 (dsD 0 a0) 0 0) = ml (0 + 1) (va_up (fun _ => 0) 0 q) (va_up (fun _ => .inr (0, [])) 0 (.inr (0, [.null, .null, .null, .null, .int 0, .null, .null]))) := by
    rw [← h0]
    exact ml_congr (fun _ _ => rfl) (fun k hk => match k, hk with | 0, _ => rfl | k + 1, h => absurd h (by omega))
  rw [← hcg] at hP hD
  refine lv_dup hx hb d_law_3 rfl ?_
  refine ml_callS (S := Nat → Nat) (a2 := fun u => va_up u 0 q) (f2 := fun u => dcell kc (va_up u 0 q) d00) (va_runI (As := []) (rest := [.ref q]) ⟨hx, hb, hml, hown, hts⟩ (c_init_D l dC dI kc _ q a0 ha0) (cwI 0 hts (gd_I mI wd_12) rfl rfl rfl (hts _ wd_1) (hts _ wd_10) (hts _ wd_11) rfl hi_init_D ⟨Nat.le_of_ble_eq_true rfl, Nat.le_of_ble_eq_true rfl⟩) ⟨fun ar U g mk h => ⟨h.1, (ml_blind (av := [.ref q]) ar U g mk ⟨h.1, h.2.1⟩).2, xt_call h.2.2⟩, fun U hU hW => ⟨rfl, (ml_pre (av := [.ref q]) hP hK hD U hU hW).2, xt_warm hW hxt⟩⟩ rfl rfl hl.1 rfl (lv_room (Nat.le_of_ble_eq_true rfl)) d_law_4 ⟨Nat.le_of_ble_eq_true rfl, Nat.le_of_ble_eq_true rfl⟩) hD hS hA (fun u H locs hP hD hS => ?_)
  refine W.widen (k := 57) (n := 8933) (by omega) (by omega) ?_
  obtain ⟨aD, hP, hD, hau⟩ : ∃ aD : Nat → Nat, va_P (dC, dI) vwCl (ml 57 aD (dcell kc aD d00)) H ∧ va_D (fun q : Nat => s.heap.size ≤ q) (ml 57 aD (dcell kc aD d00)) ∧ aD 0 = q := ⟨va_up u 0 q, hP, hD, va_up_self u 0 q⟩
  refine lv_astore_n (lv' := [(1, .ref q), (0, .ref b)]) hx hb d_law_7 rfl hl (by decide) rfl (fun ls hl => ?_)
  refine va_new (ci := 5) (fs := dsM 0 (fun _ => 0)) (C := "HandleDeskModel") (T := TM) (N := 15) hx hb hts in_M tyM tyM_ok hown (hts _ wd_335) (hts _ wd_336) (hts _ wd_6) hK hP hD hS hA rfl (fun j hj => by rcases (show j = 0 ∨ j = 1 ∨ j = 2 ∨ j = 3 ∨ j = 4 ∨ j = 5 ∨ j = 6 ∨ j = 7 ∨ j = 8 ∨ j = 9 ∨ j = 10 ∨ j = 11 ∨ j = 12 ∨ j = 13 ∨ j = 14 by omega) with rfl | rfl | rfl | rfl | rfl | rfl | rfl | rfl | rfl | rfl | rfl | rfl | rfl | rfl | rfl <;> rfl) (Nat.le_of_ble_eq_true rfl) (Nat.le_of_ble_eq_true rfl) d_law_8 (fun q2 H hP hD hS => ?_)
  refine W.widen (k := 58) (n := 8948) (by omega) (by omega) ?_
  have hP : va_P (dC, dI) vwCl (ml 57 aD (dcell kc aD d00) ++ ml 1 (fun _ => q2) (gm kc 0 (fun _ => q2))) H := hP
  have hD : va_D (fun q : Nat => s.heap.size ≤ q) (ml 57 aD (dcell kc aD d00) ++ ml 1 (fun _ => q2) (gm kc 0 (fun _ => q2))) := hD
  refine lv_dup hx hb d_law_11 rfl ?_
  refine sr_callS (S := Nat → Nat) (a2 := fun u => va_up u 0 q2) (f2 := fun u => mcell kc (va_up u 0 q2) m00) (va_runI (As := []) (rest := [.ref q2]) ⟨hx, hb, hml, hown, hts⟩ (c_init_M l dC dI kc _ q2 (fun _ => q2) rfl) (cwI 0 hts (gd_I mI wd_339) rfl rfl rfl (hts _ wd_6) (hts _ wd_337) (hts _ wd_338) rfl hi_init_M ⟨Nat.le_of_ble_eq_true rfl, Nat.le_of_ble_eq_true rfl⟩) ⟨ml_blind, ml_pre (sd_Pr hP) hK (sd_Dr hD)⟩ rfl rfl hl.1 rfl (lv_room (Nat.le_of_ble_eq_true rfl)) d_law_12 ⟨Nat.le_of_ble_eq_true rfl, Nat.le_of_ble_eq_true rfl⟩) hP hD hS hA (fun u2 H locs hP hD hS => ?_)
  refine W.widen (k := 600000) (n := 7302250) (by omega) (by omega) ?_
  obtain ⟨aM, hP5, hD5, hau2⟩ : ∃ aM : Nat → Nat, va_P (dC, dI) vwCl (ml 57 aD (dcell kc aD d00) ++ ml 11 aM (mcell kc aM m00)) H ∧ va_D (fun q : Nat => s.heap.size ≤ q) (ml 57 aD (dcell kc aD d00) ++ ml 11 aM (mcell kc aM m00)) ∧ aM 0 = q2 := ⟨va_up u2 0 q2, hP, hD, va_up_self u2 0 q2⟩
  subst hau
  subst hau2
  refine lv_astore_n (lv' := [(2, .ref (aM 0)), (1, .ref (aD 0)), (0, .ref b)]) hx hb d_law_15 rfl hl (by decide) rfl (fun ls hl => ?_)
  refine lv_iconst (v := 0) hx hb d_law_16 (by decide) ?_
  refine lv_istore_n (lv' := [(3, .int 0), (2, .ref (aM 0)), (1, .ref (aD 0)), (0, .ref b)]) hx hb d_law_17 rfl hl (by decide) rfl (fun ls hl => ?_)
  exact law_loop hL C0 hK aD aM 513 0 d00 m00 _ _ ls (by decide) (by decide) RR_init hP5 hD5 hS (lv_sub hl [3, 2, 1, 0] rfl)
