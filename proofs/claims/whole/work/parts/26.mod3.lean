def sp_M_back (mo : MK)  : MK :=
  (sp_M_puts (sp_M_puts (sp_M_puts (u2 mo 2 0 ((mo 2 0) - (1 : Int32))) (8 : Int32)) (32 : Int32)) (8 : Int32))
abbrev rm_M_back : Room := { frames := 1, cells := 0, slots := 0, locals := 21 }
set_option maxHeartbeats 4000000 in
set_option maxRecDepth 100000 in
theorem c_M_back (l : Launch) (dC : Nat → ClassId) (dI : Nat → Nat → Nat) (kc : Nat → ClassId) (a : Nat → Nat) (sz : Nat) (mo : MK) (hs : ∃ n, n + 3 < 2 ^ 30 ∧ mo 4 0 = nI n) (mo' : MK) (hres : sp_M_back mo = mo') : Met l y_M_back ws_M_back rm_M_back (va_Pc [.ref (a 0)] (ml_B (dC, dI) vwCl (tysD kc) 11 a (mcell kc a mo) sz)) (va_Qv (fun (_ : Unit) => True) (fun _ t => ml_E (dC, dI) vwCl (tysD kc) 11 a (mcell kc a mo') (va_A (ml 11 a (mcell kc a mo)) sz) t) (va_A (ml 11 a (mcell kc a mo)) sz)) 0 0 (va_A (ml 11 a (mcell kc a mo)) sz) := by
  refine Met.ofW (cc := prog_7_method_27_code) (maxL := 1) (ret := (none : Option Jvm.ClassFile.FieldType)) (by decide) rfl ?_
  intro p e s m args below meth c s₁ B hml hv
  obtain ⟨rfl, hsz, hP, hK, hD0⟩ := hv
  have hx := B.exec
  have hb := B.bytes
  have hr := B.returns
  have hts := atoms_spec (ws := ws_M_back) B.pre
  have hown : s.vm.findClass "HandleDeskModel" = some m.cls := findClass_of_methodNamed B.named
  have hlocks := B.notSynchronized
  subst hsz
  have hD := hD0.self (sz := s.heap.size)
  generalize hAe : va_A (ml 11 a (mcell kc a mo)) s.heap.size = A at hD ⊢
  have hA : ∀ q : Nat, s.heap.size ≤ q → A q := fun q h => by rw [← hAe]; exact Or.inr h
  have hS : va_S A s.heap s.heap [] := va_S.rf
  have hl := lv_entry ([.ref (a 0)]) (n := 1) (Nat.le_of_ble_eq_true rfl)
  rw [lg_entry_eq]
  generalize (lg_sl ([.ref (a 0)]) ++ List.replicate (1 - (lg_sl ([.ref (a 0)])).length) Slot.unset).toArray = ls at hl ⊢
  have hl : lv_has ls 1 [(0, .ref (a 0))] := hl
  rw [sp_M_back] at hres
  refine lv_aload_n hx hb d_M_back_0 rfl (lv_at hl 0 rfl) ?_
  refine lv_dup hx hb d_M_back_1 rfl ?_
  refine ml_get (D := (dC, dI)) hx hb hts in_MC hown hK hP (0) (by decide) (mc_mod kc a mo) rfl 10 (by decide) (hts _ (mC _ wd_351)) (fun _ h9 => h9) (v := .int (mo 2 0)) rfl d_M_back_2 ?_
  refine lv_iconst (v := 1) hx hb d_M_back_5 (by decide) ?_
  refine lv_isub hx hb d_M_back_6 ?_
  refine ml_put (D := (dC, dI)) hx hb hts in_MC tyM tyM_ok nmM hown hK hP hD hS (0) (by decide) (mc_mod kc a mo) rfl 10 (by decide) (hts _ (mC _ wd_351)) (fun _ h9 => h9) rfl (ty := .int) (by decide +kernel) rfl rfl (Nat.le_of_ble_eq_true rfl) (f' := (mcell kc a (u2 mo 2 0 ((mo 2 0) - (1 : Int32))))) (mw_2 kc a _ ((mo 2 0) - (1 : Int32))) d_M_back_7 (fun H locs hP hD hS => ?_)
  refine lv_aload_n hx hb d_M_back_10 rfl (lv_at hl 0 rfl) ?_
  refine lv_bipush (v := 8) hx hb d_M_back_11 (by decide) ?_
  refine ml_callv (va_runV (As := [.int (8 : Int32)]) (rest := []) ⟨hx, hb, hml, hown, hts⟩ (c_M_puts l dC dI kc a _ (u2 mo 2 0 ((mo 2 0) - (1 : Int32))) (8 : Int32) (md_q1 hs) _ rfl) (cwV 1 hts (gd_V mC wd_486 wd_488 ws_20 wd_6 wd_489) rfl rfl rfl hd_M_puts ⟨Nat.le_of_ble_eq_true rfl, Nat.le_of_ble_eq_true rfl⟩) ⟨ml_blind, va_recv hK hP (ci := 5) rfl (ml_at (by decide) (mc_mod kc a (u2 mo 2 0 ((mo 2 0) - (1 : Int32))))), ml_pre hP hK hD⟩ rfl rfl hl.1 rfl (lv_room (Nat.le_of_ble_eq_true rfl)) d_M_back_13 ⟨Nat.zero_le _, Nat.zero_le _⟩) hD hS hA (fun H locs hP hD hS => ?_)
  refine lv_aload_n hx hb d_M_back_16 rfl (lv_at hl 0 rfl) ?_
  refine lv_bipush (v := 32) hx hb d_M_back_17 (by decide) ?_
  refine ml_callv (va_runV (As := [.int (32 : Int32)]) (rest := []) ⟨hx, hb, hml, hown, hts⟩ (c_M_puts l dC dI kc a _ (sp_M_puts (u2 mo 2 0 ((mo 2 0) - (1 : Int32))) (8 : Int32)) (32 : Int32) (md_q2 hs) _ rfl) (cwV 1 hts (gd_V mC wd_486 wd_488 ws_20 wd_6 wd_489) rfl rfl rfl hd_M_puts ⟨Nat.le_of_ble_eq_true rfl, Nat.le_of_ble_eq_true rfl⟩) ⟨ml_blind, va_recv hK hP (ci := 5) rfl (ml_at (by decide) (mc_mod kc a (sp_M_puts (u2 mo 2 0 ((mo 2 0) - (1 : Int32))) (8 : Int32)))), ml_pre hP hK hD⟩ rfl rfl hl.1 rfl (lv_room (Nat.le_of_ble_eq_true rfl)) d_M_back_19 ⟨Nat.zero_le _, Nat.zero_le _⟩) hD hS hA (fun H locs hP hD hS => ?_)
  refine lv_aload_n hx hb d_M_back_22 rfl (lv_at hl 0 rfl) ?_
  refine lv_bipush (v := 8) hx hb d_M_back_23 (by decide) ?_
  refine ml_callv (va_runV (As := [.int (8 : Int32)]) (rest := []) ⟨hx, hb, hml, hown, hts⟩ (c_M_puts l dC dI kc a _ (sp_M_puts (sp_M_puts (u2 mo 2 0 ((mo 2 0) - (1 : Int32))) (8 : Int32)) (32 : Int32)) (8 : Int32) (md_q3 hs) _ rfl) (cwV 1 hts (gd_V mC wd_486 wd_488 ws_20 wd_6 wd_489) rfl rfl rfl hd_M_puts ⟨Nat.le_of_ble_eq_true rfl, Nat.le_of_ble_eq_true rfl⟩) ⟨ml_blind, va_recv hK hP (ci := 5) rfl (ml_at (by decide) (mc_mod kc a (sp_M_puts (sp_M_puts (u2 mo 2 0 ((mo 2 0) - (1 : Int32))) (8 : Int32)) (32 : Int32)))), ml_pre hP hK hD⟩ rfl rfl hl.1 rfl (lv_room (Nat.le_of_ble_eq_true rfl)) d_M_back_25 ⟨Nat.zero_le _, Nat.zero_le _⟩) hD hS hA (fun H locs hP hD hS => ?_)
  subst hres
  exact ml_vret hx hb hr hlocks hP hK hD hS d_M_back_28
def lp_M_closeAll (pr : Int32) : Nat → Nat → MK → Int32 × MK
  | 0, _, mo => (0, mo)
  | n + 1, j, mo =>
    (if (16 : Int32) ≤ (nI j) then (mo 1 0, mo) else (if (sp_M_file mo pr (nI j)) < (0 : Int32) then (lp_M_closeAll pr n (j + 1) mo) else (if (sp_M_closes mo pr (nI j)).1 = (0 : Int32) then (lp_M_closeAll pr n (j + 1) ((sp_M_closes mo pr (nI j)).2)) else (lp_M_closeAll pr n (j + 1) (u2 (u2 ((sp_M_closes mo pr (nI j)).2) 12 (((sp_M_closes mo pr (nI j)).2) 1 0).toNatClampNeg (((sp_M_closes mo pr (nI j)).2) 7 (sp_M_file mo pr (nI j)).toNatClampNeg)) 1 0 (((u2 ((sp_M_closes mo pr (nI j)).2) 12 (((sp_M_closes mo pr (nI j)).2) 1 0).toNatClampNeg (((sp_M_closes mo pr (nI j)).2) 7 (sp_M_file mo pr (nI j)).toNatClampNeg)) 1 0) + (1 : Int32)))))))
def sp_M_closeAll (mo : MK) (pr : Int32) : Int32 × MK :=
  (if (sp_M_isPlace pr) = (0 : Int32) then ((-1 : Int32), u2 mo 0 0 (0 : Int32)) else (lp_M_closeAll pr (16 + 1) 0 (u2 (u2 mo 0 0 (0 : Int32)) 1 0 (0 : Int32))))
abbrev rm_M_closeAll : Room := { frames := 3, cells := 0, slots := 0, locals := 65 }
set_option maxHeartbeats 4000000 in
set_option maxRecDepth 100000 in
theorem c_M_closeAll (l : Launch) (dC : Nat → ClassId) (dI : Nat → Nat → Nat) (kc : Nat → ClassId) (a : Nat → Nat) (sz : Nat) (mo : MK) (pr : Int32) (hM : MN mo) (R' : Int32) (mo' : MK) (hres : sp_M_closeAll mo pr = (R', mo')) : Met l y_M_closeAll ws_M_closeAll rm_M_closeAll (va_Pc [.ref (a 0), .int pr] (ml_B (dC, dI) vwCl (tysD kc) 11 a (mcell kc a mo) sz)) (va_Qi (fun r (_ : Unit) => r = R') (fun _ t => ml_E (dC, dI) vwCl (tysD kc) 11 a (mcell kc a mo') (va_A (ml 11 a (mcell kc a mo)) sz) t) (va_A (ml 11 a (mcell kc a mo)) sz)) 0 0 (va_A (ml 11 a (mcell kc a mo)) sz) := by
  refine Met.ofW (cc := prog_7_method_18_code) (maxL := 4) (ret := (some .int)) (by decide) rfl ?_
  intro p e s m args below meth c s₁ B hml hv
  obtain ⟨rfl, hsz, hP, hK, hD0⟩ := hv
  have hx := B.exec
  have hb := B.bytes
  have hr := B.returns
  have hts := atoms_spec (ws := ws_M_closeAll) B.pre
  have hown : s.vm.findClass "HandleDeskModel" = some m.cls := findClass_of_methodNamed B.named
  have hlocks := B.notSynchronized
  subst hsz
  have hD := hD0.self (sz := s.heap.size)
  generalize hAe : va_A (ml 11 a (mcell kc a mo)) s.heap.size = A at hD ⊢
  have hA : ∀ q : Nat, s.heap.size ≤ q → A q := fun q h => by rw [← hAe]; exact Or.inr h
  have hS : va_S A s.heap s.heap [] := va_S.rf
  have loop : ∀ (n j : Nat) (mo : MK) (H : Heap) (locs : List Loc) (ls : Array Slot), j ≤ 16 → j + n = 16 + 1 → (MN mo ∧ ∃ t, t ≤ j ∧ mo 1 0 = nI t) → lp_M_closeAll pr n j mo = (R', mo') → va_P (dC, dI) vwCl (ml 11 a (mcell kc a mo)) H → va_D A (ml 11 a (mcell kc a mo)) → va_S A s.heap H locs → lv_has ls 4 [(0, .ref (a 0)), (1, .int pr), (2, .int (nI j))] → W p l e rm_M_closeAll s m ([.ref (a 0), .int pr] : List Value).toArray below meth c H locs 0 0 (MQ below (va_Qi (fun r (_ : Unit) => r = R') (fun _ t => ml_E (dC, dI) vwCl (tysD kc) 11 a (mcell kc a mo') A t) A) ([.ref (a 0), .int pr] : List Value).toArray s 0 0 A) (F0 m 21 ls []) := by
    intro n
    induction n with
    | zero =>
      intro j mo H locs ls hj hn
      exact absurd hn (by omega)
    | succ n ih =>
      intro j mo H locs ls hj hn hinv hres hP hD hS hl
      rw [lp_M_closeAll] at hres
      refine lv_iload_n hx hb d_M_closeAll_21 rfl (lv_at hl 2 rfl) ?_
      refine lv_bipush (v := 16) hx hb d_M_closeAll_22 (by decide) ?_
      refine lv_icmp_ge (tgt := 78) hx hb d_M_closeAll_24 (by decide) (fun h_1 => ?_) (fun h_1 => ?_)
      · rw [if_pos h_1] at hres
        refine lv_aload_n hx hb d_M_closeAll_78 rfl (lv_at hl 0 rfl) ?_
        refine ml_get (D := (dC, dI)) hx hb hts in_MC hown hK hP (0) (by decide) (mc_mod kc a mo) rfl 8 (by decide) (hts _ (mC _ wd_349)) (fun _ h9 => h9) (v := .int (mo 1 0)) rfl d_M_closeAll_79 ?_
        obtain ⟨rfl, rfl⟩ := Prod.mk.inj hres
        exact ml_iret hx hb hr hlocks hP hK hD hS d_M_closeAll_82
      · rw [if_neg h_1] at hres
        refine lv_aload_n hx hb d_M_closeAll_27 rfl (lv_at hl 0 rfl) ?_
        refine lv_iload_n hx hb d_M_closeAll_28 rfl (lv_at hl 1 rfl) ?_
        refine lv_iload_n hx hb d_M_closeAll_29 rfl (lv_at hl 2 rfl) ?_
        refine ml_calli (va_runV (As := [.int pr, .int (nI j)]) (rest := []) ⟨hx, hb, hml, hown, hts⟩ (c_M_file l dC dI kc a _ mo pr (nI j) _ rfl) (cwV 2 hts (gd_V mC wd_434 wd_436 ws_17 wd_6 wd_437) rfl rfl rfl hd_M_file ⟨Nat.le_of_ble_eq_true rfl, Nat.le_of_ble_eq_true rfl⟩) ⟨ml_blind, va_recv hK hP (ci := 5) rfl (ml_at (by decide) (mc_mod kc a mo)), ml_pre hP hK hD⟩ rfl rfl hl.1 rfl (lv_room (Nat.le_of_ble_eq_true rfl)) d_M_closeAll_30 ⟨Nat.zero_le _, Nat.zero_le _⟩) hD hS hA (fun H locs hP hD hS => ?_)
        refine lv_istore_n (lv' := [(3, .int (sp_M_file mo pr (nI j))), (0, .ref (a 0)), (1, .int pr), (2, .int (nI j))]) hx hb d_M_closeAll_33 rfl hl (by decide) rfl (fun ls hl => ?_)
        refine lv_iload_n hx hb d_M_closeAll_34 rfl (lv_at hl 0 rfl) ?_
        refine lv_if_lt (tgt := 72) hx hb d_M_closeAll_35 (by decide) (fun h_2 => ?_) (fun h_2 => ?_)
        · rw [if_pos h_2] at hres
          refine lv_iinc (v := nI (j + 1)) (lv' := [(2, .int (nI (j + 1))), (3, .int (sp_M_file mo pr (nI j))), (0, .ref (a 0)), (1, .int pr)]) hx hb d_M_closeAll_72 hl (k := 3) rfl (nI_1 j) (by decide) rfl (fun ls hl => ?_)
          refine lv_goto (tgt := 21) hx hb d_M_closeAll_75 (by decide) ?_
          exact ih (j + 1) mo _ _ ls (lp_adv (b := (16 : Int32)) (B := 16) rfl (by decide) hj (by assumption)) (by omega) (md_ca1 hinv) hres hP hD hS (lv_sub hl [2, 3, 0] rfl)
        · rw [if_neg h_2] at hres
          refine lv_aload_n hx hb d_M_closeAll_38 rfl (lv_at hl 1 rfl) ?_
          refine lv_iload_n hx hb d_M_closeAll_39 rfl (lv_at hl 2 rfl) ?_
          refine lv_iload_n hx hb d_M_closeAll_40 rfl (lv_at hl 3 rfl) ?_
          refine ml_calli (va_runV (As := [.int pr, .int (nI j)]) (rest := []) ⟨hx, hb, hml, hown, hts⟩ (c_M_closes l dC dI kc a _ mo pr (nI j) (by assumption) hinv.1 (sp_M_closes mo pr (nI j)).1 (sp_M_closes mo pr (nI j)).2 (pe _)) (cwV 2 hts (gd_V mC wd_442 wd_444 ws_18 wd_6 wd_445) rfl rfl rfl hd_M_closes ⟨Nat.le_of_ble_eq_true rfl, Nat.le_of_ble_eq_true rfl⟩) ⟨ml_blind, va_recv hK hP (ci := 5) rfl (ml_at (by decide) (mc_mod kc a mo)), ml_pre hP hK hD⟩ rfl rfl hl.1 rfl (lv_room (Nat.le_of_ble_eq_true rfl)) d_M_closeAll_41 ⟨Nat.zero_le _, Nat.zero_le _⟩) hD hS hA (fun H locs hP hD hS => ?_)
          refine lv_if_eq (tgt := 72) hx hb d_M_closeAll_44 (by decide) (fun h_3 => ?_) (fun h_3 => ?_)
          · rw [if_pos h_3] at hres
            refine lv_iinc (v := nI (j + 1)) (lv' := [(2, .int (nI (j + 1))), (3, .int (sp_M_file mo pr (nI j))), (0, .ref (a 0)), (1, .int pr)]) hx hb d_M_closeAll_72 hl (k := 3) rfl (nI_1 j) (by decide) rfl (fun ls hl => ?_)
            refine lv_goto (tgt := 21) hx hb d_M_closeAll_75 (by decide) ?_
            exact ih (j + 1) ((sp_M_closes mo pr (nI j)).2) _ _ ls (lp_adv (b := (16 : Int32)) (B := 16) rfl (by decide) hj (by assumption)) (by omega) (md_ca2 hinv) hres hP hD hS (lv_sub hl [2, 3, 0] rfl)
          · rw [if_neg h_3] at hres
            refine lv_aload_n hx hb d_M_closeAll_47 rfl (lv_at hl 1 rfl) ?_
            refine ml_get (D := (dC, dI)) hx hb hts in_MC hown hK hP (0) (by decide) (mc_mod kc a ((sp_M_closes mo pr (nI j)).2)) rfl 9 (by decide) (hts _ (mC _ wd_350)) (fun _ h9 => h9) (v := .ref (a 8)) rfl d_M_closeAll_48 ?_
            refine lv_aload_n hx hb d_M_closeAll_51 rfl (lv_at hl 1 rfl) ?_
            refine ml_get (D := (dC, dI)) hx hb hts in_MC hown hK hP (0) (by decide) (mc_mod kc a ((sp_M_closes mo pr (nI j)).2)) rfl 8 (by decide) (hts _ (mC _ wd_349)) (fun _ h9 => h9) (v := .int (((sp_M_closes mo pr (nI j)).2) 1 0)) rfl d_M_closeAll_52 ?_
            refine lv_aload_n hx hb d_M_closeAll_55 rfl (lv_at hl 1 rfl) ?_
            refine ml_get (D := (dC, dI)) hx hb hts in_MC hown hK hP (0) (by decide) (mc_mod kc a ((sp_M_closes mo pr (nI j)).2)) rfl 3 (by decide) (hts _ (mC _ wd_344)) (fun _ h9 => h9) (v := .ref (a 3)) rfl d_M_closeAll_56 ?_
            refine lv_iload_n hx hb d_M_closeAll_59 rfl (lv_at hl 0 rfl) ?_
            refine ml_iald hx hb hK hP (3) 0 (by decide) (mc_what kc a ((sp_M_closes mo pr (nI j)).2)) rfl (md_fk hinv.1 (by assumption)) d_M_closeAll_60 ?_
            refine ml_iast hx hb hK hP hD hS (8) 0 (by decide) (mc_left kc a ((sp_M_closes mo pr (nI j)).2)) rfl (md_left hinv.2 hj (by assumption)) (f' := (mcell kc a (u2 ((sp_M_closes mo pr (nI j)).2) 12 (((sp_M_closes mo pr (nI j)).2) 1 0).toNatClampNeg (((sp_M_closes mo pr (nI j)).2) 7 (sp_M_file mo pr (nI j)).toNatClampNeg)))) (mw_left kc a _ (((sp_M_closes mo pr (nI j)).2) 1 0).toNatClampNeg (((sp_M_closes mo pr (nI j)).2) 7 (sp_M_file mo pr (nI j)).toNatClampNeg)) d_M_closeAll_61 (fun H locs hP hD hS => ?_)
            refine lv_aload_n hx hb d_M_closeAll_62 rfl (lv_at hl 1 rfl) ?_
            refine lv_dup hx hb d_M_closeAll_63 rfl ?_
            refine ml_get (D := (dC, dI)) hx hb hts in_MC hown hK hP (0) (by decide) (mc_mod kc a (u2 ((sp_M_closes mo pr (nI j)).2) 12 (((sp_M_closes mo pr (nI j)).2) 1 0).toNatClampNeg (((sp_M_closes mo pr (nI j)).2) 7 (sp_M_file mo pr (nI j)).toNatClampNeg))) rfl 8 (by decide) (hts _ (mC _ wd_349)) (fun _ h9 => h9) (v := .int ((u2 ((sp_M_closes mo pr (nI j)).2) 12 (((sp_M_closes mo pr (nI j)).2) 1 0).toNatClampNeg (((sp_M_closes mo pr (nI j)).2) 7 (sp_M_file mo pr (nI j)).toNatClampNeg)) 1 0)) rfl d_M_closeAll_64 ?_
            refine lv_iconst (v := 1) hx hb d_M_closeAll_67 (by decide) ?_
            refine lv_iadd hx hb d_M_closeAll_68 ?_
            refine ml_put (D := (dC, dI)) hx hb hts in_MC tyM tyM_ok nmM hown hK hP hD hS (0) (by decide) (mc_mod kc a (u2 ((sp_M_closes mo pr (nI j)).2) 12 (((sp_M_closes mo pr (nI j)).2) 1 0).toNatClampNeg (((sp_M_closes mo pr (nI j)).2) 7 (sp_M_file mo pr (nI j)).toNatClampNeg))) rfl 8 (by decide) (hts _ (mC _ wd_349)) (fun _ h9 => h9) rfl (ty := .int) (by decide +kernel) rfl rfl (Nat.le_of_ble_eq_true rfl) (f' := (mcell kc a (u2 (u2 ((sp_M_closes mo pr (nI j)).2) 12 (((sp_M_closes mo pr (nI j)).2) 1 0).toNatClampNeg (((sp_M_closes mo pr (nI j)).2) 7 (sp_M_file mo pr (nI j)).toNatClampNeg)) 1 0 (((u2 ((sp_M_closes mo pr (nI j)).2) 12 (((sp_M_closes mo pr (nI j)).2) 1 0).toNatClampNeg (((sp_M_closes mo pr (nI j)).2) 7 (sp_M_file mo pr (nI j)).toNatClampNeg)) 1 0) + (1 : Int32))))) (mw_1 kc a _ (((u2 ((sp_M_closes mo pr (nI j)).2) 12 (((sp_M_closes mo pr (nI j)).2) 1 0).toNatClampNeg (((sp_M_closes mo pr (nI j)).2) 7 (sp_M_file mo pr (nI j)).toNatClampNeg)) 1 0) + (1 : Int32))) d_M_closeAll_69 (fun H locs hP hD hS => ?_)
            refine lv_iinc (v := nI (j + 1)) (lv' := [(2, .int (nI (j + 1))), (3, .int (sp_M_file mo pr (nI j))), (0, .ref (a 0)), (1, .int pr)]) hx hb d_M_closeAll_72 hl (k := 3) rfl (nI_1 j) (by decide) rfl (fun ls hl => ?_)
            refine lv_goto (tgt := 21) hx hb d_M_closeAll_75 (by decide) ?_
            exact ih (j + 1) (u2 (u2 ((sp_M_closes mo pr (nI j)).2) 12 (((sp_M_closes mo pr (nI j)).2) 1 0).toNatClampNeg (((sp_M_closes mo pr (nI j)).2) 7 (sp_M_file mo pr (nI j)).toNatClampNeg)) 1 0 (((u2 ((sp_M_closes mo pr (nI j)).2) 12 (((sp_M_closes mo pr (nI j)).2) 1 0).toNatClampNeg (((sp_M_closes mo pr (nI j)).2) 7 (sp_M_file mo pr (nI j)).toNatClampNeg)) 1 0) + (1 : Int32))) _ _ ls (lp_adv (b := (16 : Int32)) (B := 16) rfl (by decide) hj (by assumption)) (by omega) (md_ca3 hinv) hres hP hD hS (lv_sub hl [2, 3, 0] rfl)
  have hl := lv_entry ([.ref (a 0), .int pr]) (n := 4) (Nat.le_of_ble_eq_true rfl)
  rw [lg_entry_eq]
  generalize (lg_sl ([.ref (a 0), .int pr]) ++ List.replicate (4 - (lg_sl ([.ref (a 0), .int pr])).length) Slot.unset).toArray = ls at hl ⊢
  have hl : lv_has ls 4 [(0, .ref (a 0)), (1, .int pr)] := hl
  rw [sp_M_closeAll] at hres
  refine lv_aload_n hx hb d_M_closeAll_0 rfl (lv_at hl 0 rfl) ?_
  refine lv_iconst (v := 0) hx hb d_M_closeAll_1 (by decide) ?_
  refine ml_put (D := (dC, dI)) hx hb hts in_MC tyM tyM_ok nmM hown hK hP hD hS (0) (by decide) (mc_mod kc a mo) rfl 0 (by decide) (hts _ (mC _ wd_341)) (fun _ h9 => h9) rfl (ty := .int) (by decide +kernel) rfl rfl (Nat.le_of_ble_eq_true rfl) (f' := (mcell kc a (u2 mo 0 0 (0 : Int32)))) (mw_0 kc a _ (0 : Int32)) d_M_closeAll_2 (fun H locs hP hD hS => ?_)
  refine lv_iload_n hx hb d_M_closeAll_5 rfl (lv_at hl 1 rfl) ?_
  refine ml_calli (va_runS (As := [.int pr]) (rest := []) ⟨hx, hb, hml, hown, hts⟩ (c_M_isPlace l dC dI kc a _ (u2 mo 0 0 (0 : Int32)) pr _ rfl) (cwS 1 hts (gd_S mC wd_391 wd_392 wd_6 wd_393) rfl rfl rfl hd_M_isPlace ⟨Nat.le_of_ble_eq_true rfl, Nat.le_of_ble_eq_true rfl⟩) ⟨ml_blind, ml_pre hP hK hD⟩ rfl rfl hl.1 rfl (lv_room (Nat.le_of_ble_eq_true rfl)) d_M_closeAll_6 ⟨Nat.zero_le _, Nat.zero_le _⟩) hD hS hA (fun H locs hP hD hS => ?_)
  refine lv_if_ne (tgt := 14) hx hb d_M_closeAll_9 (by decide) (fun h_4 => ?_) (fun h_4 => ?_)
  · rw [if_neg h_4] at hres
    refine lv_aload_n hx hb d_M_closeAll_14 rfl (lv_at hl 0 rfl) ?_
    refine lv_iconst (v := 0) hx hb d_M_closeAll_15 (by decide) ?_
    refine ml_put (D := (dC, dI)) hx hb hts in_MC tyM tyM_ok nmM hown hK hP hD hS (0) (by decide) (mc_mod kc a (u2 mo 0 0 (0 : Int32))) rfl 8 (by decide) (hts _ (mC _ wd_349)) (fun _ h9 => h9) rfl (ty := .int) (by decide +kernel) rfl rfl (Nat.le_of_ble_eq_true rfl) (f' := (mcell kc a (u2 (u2 mo 0 0 (0 : Int32)) 1 0 (0 : Int32)))) (mw_1 kc a _ (0 : Int32)) d_M_closeAll_16 (fun H locs hP hD hS => ?_)
    refine lv_iconst (v := 0) hx hb d_M_closeAll_19 (by decide) ?_
    refine lv_istore_n (lv' := [(2, .int (0 : Int32)), (0, .ref (a 0)), (1, .int pr)]) hx hb d_M_closeAll_20 rfl hl (by decide) rfl (fun ls hl => ?_)
    exact loop _ 0 (u2 (u2 mo 0 0 (0 : Int32)) 1 0 (0 : Int32)) _ _ ls (Nat.zero_le _) (by omega) (md_ca0 hM) hres hP hD hS (lv_sub hl [1, 2, 0] rfl)
  · rw [if_pos h_4] at hres
    refine lv_iconst (v := -1) hx hb d_M_closeAll_12 (by decide) ?_
    obtain ⟨rfl, rfl⟩ := Prod.mk.inj hres
    exact ml_iret hx hb hr hlocks hP hK hD hS d_M_closeAll_13
def lp_M_copy (pr : Int32) (fr : Int32) : Nat → Nat → MK → Int32 × MK
  | 0, _, mo => (0, mo)
  | n + 1, j, mo =>
    (if (16 : Int32) ≤ (nI j) then ((sp_M_used mo fr), mo) else (lp_M_copy pr fr n (j + 1) (u2 mo 5 (((16 : Int32) * pr) + (nI j)).toNatClampNeg (mo 5 (((16 : Int32) * fr) + (nI j)).toNatClampNeg))))
def sp_M_copy (mo : MK) (pr : Int32) (fr : Int32) : Int32 × MK :=
  (if (sp_M_isPlace pr) = (0 : Int32) then ((-1 : Int32), u2 mo 0 0 (0 : Int32)) else (if (sp_M_isPlace fr) = (0 : Int32) then ((-1 : Int32), u2 mo 0 0 (0 : Int32)) else (if pr = fr then ((-1 : Int32), u2 mo 0 0 (0 : Int32)) else (if (sp_M_used (u2 mo 0 0 (0 : Int32)) pr) ≤ (0 : Int32) then (lp_M_copy pr fr (16 + 1) 0 (u2 mo 0 0 (0 : Int32))) else ((-1 : Int32), u2 mo 0 0 (0 : Int32))))))
abbrev rm_M_copy : Room := { frames := 1, cells := 0, slots := 0, locals := 23 }
set_option maxHeartbeats 4000000 in
set_option maxRecDepth 100000 in
theorem c_M_copy (l : Launch) (dC : Nat → ClassId) (dI : Nat → Nat → Nat) (kc : Nat → ClassId) (a : Nat → Nat) (sz : Nat) (mo : MK) (pr : Int32) (fr : Int32) (R' : Int32) (mo' : MK) (hres : sp_M_copy mo pr fr = (R', mo')) : Met l y_M_copy ws_M_copy rm_M_copy (va_Pc [.ref (a 0), .int pr, .int fr] (ml_B (dC, dI) vwCl (tysD kc) 11 a (mcell kc a mo) sz)) (va_Qi (fun r (_ : Unit) => r = R') (fun _ t => ml_E (dC, dI) vwCl (tysD kc) 11 a (mcell kc a mo') (va_A (ml 11 a (mcell kc a mo)) sz) t) (va_A (ml 11 a (mcell kc a mo)) sz)) 0 0 (va_A (ml 11 a (mcell kc a mo)) sz) := by
  refine Met.ofW (cc := prog_7_method_20_code) (maxL := 4) (ret := (some .int)) (by decide) rfl ?_
  intro p e s m args below meth c s₁ B hml hv
  obtain ⟨rfl, hsz, hP, hK, hD0⟩ := hv
  have hx := B.exec
  have hb := B.bytes
  have hr := B.returns
  have hts := atoms_spec (ws := ws_M_copy) B.pre
  have hown : s.vm.findClass "HandleDeskModel" = some m.cls := findClass_of_methodNamed B.named
  have hlocks := B.notSynchronized
  subst hsz
  have hD := hD0.self (sz := s.heap.size)
  generalize hAe : va_A (ml 11 a (mcell kc a mo)) s.heap.size = A at hD ⊢
  have hA : ∀ q : Nat, s.heap.size ≤ q → A q := fun q h => by rw [← hAe]; exact Or.inr h
  have hS : va_S A s.heap s.heap [] := va_S.rf
  have loop : ∀ (n j : Nat) (mo : MK) (H : Heap) (locs : List Loc) (ls : Array Slot), j ≤ 16 → j + n = 16 + 1 → (¬ sp_M_isPlace pr = 0) → (¬ sp_M_isPlace fr = 0) → lp_M_copy pr fr n j mo = (R', mo') → va_P (dC, dI) vwCl (ml 11 a (mcell kc a mo)) H → va_D A (ml 11 a (mcell kc a mo)) → va_S A s.heap H locs → lv_has ls 4 [(0, .ref (a 0)), (1, .int pr), (2, .int fr), (3, .int (nI j))] → W p l e rm_M_copy s m ([.ref (a 0), .int pr, .int fr] : List Value).toArray below meth c H locs 0 0 (MQ below (va_Qi (fun r (_ : Unit) => r = R') (fun _ t => ml_E (dC, dI) vwCl (tysD kc) 11 a (mcell kc a mo') A t) A) ([.ref (a 0), .int pr, .int fr] : List Value).toArray s 0 0 A) (F0 m 36 ls []) := by
    intro n
    induction n with
    | zero =>
      intro j mo H locs ls hj hn
      exact absurd hn (by omega)
    | succ n ih =>
      intro j mo H locs ls hj hn hp hp2 hres hP hD hS hl
      rw [lp_M_copy] at hres
      refine lv_iload_n hx hb d_M_copy_36 rfl (lv_at hl 3 rfl) ?_
      refine lv_bipush (v := 16) hx hb d_M_copy_37 (by decide) ?_
      refine lv_icmp_ge (tgt := 70) hx hb d_M_copy_39 (by decide) (fun h_1 => ?_) (fun h_1 => ?_)
      · rw [if_pos h_1] at hres
        refine lv_aload_n hx hb d_M_copy_70 rfl (lv_at hl 0 rfl) ?_
        refine lv_iload_n hx hb d_M_copy_71 rfl (lv_at hl 2 rfl) ?_
        refine ml_calli (va_runV (As := [.int fr]) (rest := []) ⟨hx, hb, hml, hown, hts⟩ (c_M_used l dC dI kc a _ mo fr (by assumption) _ rfl) (cwV 1 hts (gd_V mC wd_426 wd_428 ws_16 wd_6 wd_429) rfl rfl rfl hd_M_used ⟨Nat.le_of_ble_eq_true rfl, Nat.le_of_ble_eq_true rfl⟩) ⟨ml_blind, va_recv hK hP (ci := 5) rfl (ml_at (by decide) (mc_mod kc a mo)), ml_pre hP hK hD⟩ rfl rfl hl.1 rfl (lv_room (Nat.le_of_ble_eq_true rfl)) d_M_copy_72 ⟨Nat.zero_le _, Nat.zero_le _⟩) hD hS hA (fun H locs hP hD hS => ?_)
        obtain ⟨rfl, rfl⟩ := Prod.mk.inj hres
        exact ml_iret hx hb hr hlocks hP hK hD hS d_M_copy_75
      · rw [if_neg h_1] at hres
        refine lv_aload_n hx hb d_M_copy_42 rfl (lv_at hl 0 rfl) ?_
        refine ml_get (D := (dC, dI)) hx hb hts in_MC hown hK hP (0) (by decide) (mc_mod kc a mo) rfl 1 (by decide) (hts _ (mC _ wd_342)) (fun _ h9 => h9) (v := .ref (a 1)) rfl d_M_copy_43 ?_
        refine lv_bipush (v := 16) hx hb d_M_copy_46 (by decide) ?_
        refine lv_iload_n hx hb d_M_copy_48 rfl (lv_at hl 1 rfl) ?_
        refine lv_imul hx hb d_M_copy_49 ?_
        refine lv_iload_n hx hb d_M_copy_50 rfl (lv_at hl 3 rfl) ?_
        refine lv_iadd hx hb d_M_copy_51 ?_
        refine lv_aload_n hx hb d_M_copy_52 rfl (lv_at hl 0 rfl) ?_
        refine ml_get (D := (dC, dI)) hx hb hts in_MC hown hK hP (0) (by decide) (mc_mod kc a mo) rfl 1 (by decide) (hts _ (mC _ wd_342)) (fun _ h9 => h9) (v := .ref (a 1)) rfl d_M_copy_53 ?_
        refine lv_bipush (v := 16) hx hb d_M_copy_56 (by decide) ?_
        refine lv_iload_n hx hb d_M_copy_58 rfl (lv_at hl 2 rfl) ?_
        refine lv_imul hx hb d_M_copy_59 ?_
        refine lv_iload_n hx hb d_M_copy_60 rfl (lv_at hl 3 rfl) ?_
        refine lv_iadd hx hb d_M_copy_61 ?_
        refine ml_iald hx hb hK hP (1) 0 (by decide) (mc_names kc a mo) rfl (md_inj (by assumption) (lp_adv (b := (16 : Int32)) (B := 16) rfl (by decide) hj (by assumption))) d_M_copy_62 ?_
        refine ml_iast hx hb hK hP hD hS (1) 0 (by decide) (mc_names kc a mo) rfl (md_inj (by assumption) (lp_adv (b := (16 : Int32)) (B := 16) rfl (by decide) hj (by assumption))) (f' := (mcell kc a (u2 mo 5 (((16 : Int32) * pr) + (nI j)).toNatClampNeg (mo 5 (((16 : Int32) * fr) + (nI j)).toNatClampNeg)))) (mw_names kc a _ (((16 : Int32) * pr) + (nI j)).toNatClampNeg (mo 5 (((16 : Int32) * fr) + (nI j)).toNatClampNeg)) d_M_copy_63 (fun H locs hP hD hS => ?_)
        refine lv_iinc (v := nI (j + 1)) (lv' := [(3, .int (nI (j + 1))), (0, .ref (a 0)), (1, .int pr), (2, .int fr)]) hx hb d_M_copy_64 hl (k := 3) rfl (nI_1 j) (by decide) rfl (fun ls hl => ?_)
        refine lv_goto (tgt := 36) hx hb d_M_copy_67 (by decide) ?_
        exact ih (j + 1) (u2 mo 5 (((16 : Int32) * pr) + (nI j)).toNatClampNeg (mo 5 (((16 : Int32) * fr) + (nI j)).toNatClampNeg)) _ _ ls (lp_adv (b := (16 : Int32)) (B := 16) rfl (by decide) hj (by assumption)) (by omega) hp hp2 hres hP hD hS (lv_sub hl [1, 2, 3, 0] rfl)
  have hl := lv_entry ([.ref (a 0), .int pr, .int fr]) (n := 4) (Nat.le_of_ble_eq_true rfl)
  rw [lg_entry_eq]
  generalize (lg_sl ([.ref (a 0), .int pr, .int fr]) ++ List.replicate (4 - (lg_sl ([.ref (a 0), .int pr, .int fr])).length) Slot.unset).toArray = ls at hl ⊢
  have hl : lv_has ls 4 [(0, .ref (a 0)), (1, .int pr), (2, .int fr)] := hl
  rw [sp_M_copy] at hres
  refine lv_aload_n hx hb d_M_copy_0 rfl (lv_at hl 0 rfl) ?_
  refine lv_iconst (v := 0) hx hb d_M_copy_1 (by decide) ?_
  refine ml_put (D := (dC, dI)) hx hb hts in_MC tyM tyM_ok nmM hown hK hP hD hS (0) (by decide) (mc_mod kc a mo) rfl 0 (by decide) (hts _ (mC _ wd_341)) (fun _ h9 => h9) rfl (ty := .int) (by decide +kernel) rfl rfl (Nat.le_of_ble_eq_true rfl) (f' := (mcell kc a (u2 mo 0 0 (0 : Int32)))) (mw_0 kc a _ (0 : Int32)) d_M_copy_2 (fun H locs hP hD hS => ?_)
  refine lv_iload_n hx hb d_M_copy_5 rfl (lv_at hl 1 rfl) ?_
  refine ml_calli (va_runS (As := [.int pr]) (rest := []) ⟨hx, hb, hml, hown, hts⟩ (c_M_isPlace l dC dI kc a _ (u2 mo 0 0 (0 : Int32)) pr _ rfl) (cwS 1 hts (gd_S mC wd_391 wd_392 wd_6 wd_393) rfl rfl rfl hd_M_isPlace ⟨Nat.le_of_ble_eq_true rfl, Nat.le_of_ble_eq_true rfl⟩) ⟨ml_blind, ml_pre hP hK hD⟩ rfl rfl hl.1 rfl (lv_room (Nat.le_of_ble_eq_true rfl)) d_M_copy_6 ⟨Nat.zero_le _, Nat.zero_le _⟩) hD hS hA (fun H locs hP hD hS => ?_)
  refine lv_if_eq (tgt := 32) hx hb d_M_copy_9 (by decide) (fun h_2 => ?_) (fun h_2 => ?_)
  · rw [if_pos h_2] at hres
    refine lv_iconst (v := -1) hx hb d_M_copy_32 (by decide) ?_
    obtain ⟨rfl, rfl⟩ := Prod.mk.inj hres
    exact ml_iret hx hb hr hlocks hP hK hD hS d_M_copy_33
  · rw [if_neg h_2] at hres
    refine lv_iload_n hx hb d_M_copy_12 rfl (lv_at hl 2 rfl) ?_
    refine ml_calli (va_runS (As := [.int fr]) (rest := []) ⟨hx, hb, hml, hown, hts⟩ (c_M_isPlace l dC dI kc a _ (u2 mo 0 0 (0 : Int32)) fr _ rfl) (cwS 1 hts (gd_S mC wd_391 wd_392 wd_6 wd_393) rfl rfl rfl hd_M_isPlace ⟨Nat.le_of_ble_eq_true rfl, Nat.le_of_ble_eq_true rfl⟩) ⟨ml_blind, ml_pre hP hK hD⟩ rfl rfl hl.1 rfl (lv_room (Nat.le_of_ble_eq_true rfl)) d_M_copy_13 ⟨Nat.zero_le _, Nat.zero_le _⟩) hD hS hA (fun H locs hP hD hS => ?_)
    refine lv_if_eq (tgt := 32) hx hb d_M_copy_16 (by decide) (fun h_3 => ?_) (fun h_3 => ?_)
    · rw [if_pos h_3] at hres
      refine lv_iconst (v := -1) hx hb d_M_copy_32 (by decide) ?_
      obtain ⟨rfl, rfl⟩ := Prod.mk.inj hres
      exact ml_iret hx hb hr hlocks hP hK hD hS d_M_copy_33
    · rw [if_neg h_3] at hres
      refine lv_iload_n hx hb d_M_copy_19 rfl (lv_at hl 1 rfl) ?_
      refine lv_iload_n hx hb d_M_copy_20 rfl (lv_at hl 2 rfl) ?_
      refine lv_icmp_eq (tgt := 32) hx hb d_M_copy_21 (by decide) (fun h_4 => ?_) (fun h_4 => ?_)
      · rw [if_pos h_4] at hres
        refine lv_iconst (v := -1) hx hb d_M_copy_32 (by decide) ?_
        obtain ⟨rfl, rfl⟩ := Prod.mk.inj hres
        exact ml_iret hx hb hr hlocks hP hK hD hS d_M_copy_33
      · rw [if_neg h_4] at hres
        refine lv_aload_n hx hb d_M_copy_24 rfl (lv_at hl 0 rfl) ?_
        refine lv_iload_n hx hb d_M_copy_25 rfl (lv_at hl 1 rfl) ?_
        refine ml_calli (va_runV (As := [.int pr]) (rest := []) ⟨hx, hb, hml, hown, hts⟩ (c_M_used l dC dI kc a _ (u2 mo 0 0 (0 : Int32)) pr (by assumption) _ rfl) (cwV 1 hts (gd_V mC wd_426 wd_428 ws_16 wd_6 wd_429) rfl rfl rfl hd_M_used ⟨Nat.le_of_ble_eq_true rfl, Nat.le_of_ble_eq_true rfl⟩) ⟨ml_blind, va_recv hK hP (ci := 5) rfl (ml_at (by decide) (mc_mod kc a (u2 mo 0 0 (0 : Int32)))), ml_pre hP hK hD⟩ rfl rfl hl.1 rfl (lv_room (Nat.le_of_ble_eq_true rfl)) d_M_copy_26 ⟨Nat.zero_le _, Nat.zero_le _⟩) hD hS hA (fun H locs hP hD hS => ?_)
        refine lv_if_le (tgt := 34) hx hb d_M_copy_29 (by decide) (fun h_5 => ?_) (fun h_5 => ?_)
        · rw [if_pos h_5] at hres
          refine lv_iconst (v := 0) hx hb d_M_copy_34 (by decide) ?_
          refine lv_istore_n (lv' := [(3, .int (0 : Int32)), (0, .ref (a 0)), (1, .int pr), (2, .int fr)]) hx hb d_M_copy_35 rfl hl (by decide) rfl (fun ls hl => ?_)
          exact loop _ 0 (u2 mo 0 0 (0 : Int32)) _ _ ls (Nat.zero_le _) (by omega) (by assumption) (by assumption) hres hP hD hS (lv_sub hl [1, 2, 3, 0] rfl)
        · rw [if_neg h_5] at hres
          refine lv_iconst (v := -1) hx hb d_M_copy_32 (by decide) ?_
          obtain ⟨rfl, rfl⟩ := Prod.mk.inj hres
          exact ml_iret hx hb hr hlocks hP hK hD hS d_M_copy_33
def sp_M_about (mo : MK) (pr : Int32) (x : Int32) (wh : Int32) : Int32 × MK :=
  (if (0 : Int32) ≤ (sp_M_file (u2 mo 0 0 (0 : Int32)) pr x) then (if wh = (0 : Int32) then ((u2 mo 0 0 (0 : Int32)) 6 (sp_M_file (u2 mo 0 0 (0 : Int32)) pr x).toNatClampNeg, u2 mo 0 0 (0 : Int32)) else (if wh = (1 : Int32) then ((u2 mo 0 0 (0 : Int32)) 7 (sp_M_file (u2 mo 0 0 (0 : Int32)) pr x).toNatClampNeg, u2 mo 0 0 (0 : Int32)) else (if wh = (2 : Int32) then (((u2 mo 0 0 (0 : Int32)) 8 (sp_M_file (u2 mo 0 0 (0 : Int32)) pr x).toNatClampNeg) - ((u2 mo 0 0 (0 : Int32)) 8 (sp_M_file (u2 mo 0 0 (0 : Int32)) pr x).toNatClampNeg) / (2 : Int32) * (2 : Int32), u2 mo 0 0 (0 : Int32)) else (if wh = (3 : Int32) then (((u2 mo 0 0 (0 : Int32)) 8 (sp_M_file (u2 mo 0 0 (0 : Int32)) pr x).toNatClampNeg) / (2 : Int32), u2 mo 0 0 (0 : Int32)) else (if wh = (4 : Int32) then ((u2 mo 0 0 (0 : Int32)) 9 (sp_M_file (u2 mo 0 0 (0 : Int32)) pr x).toNatClampNeg, u2 mo 0 0 (0 : Int32)) else (if wh = (5 : Int32) then ((sp_M_named (u2 mo 0 0 (0 : Int32)) (sp_M_file (u2 mo 0 0 (0 : Int32)) pr x)), u2 mo 0 0 (0 : Int32)) else (if wh = (6 : Int32) then ((sp_M_file (u2 mo 0 0 (0 : Int32)) pr x), u2 mo 0 0 (0 : Int32)) else ((-1 : Int32), u2 mo 0 0 (0 : Int32))))))))) else ((-1 : Int32), u2 mo 0 0 (0 : Int32)))
abbrev rm_M_about : Room := { frames := 2, cells := 0, slots := 0, locals := 42 }
set_option maxHeartbeats 4000000 in
set_option maxRecDepth 100000 in
theorem c_M_about (l : Launch) (dC : Nat → ClassId) (dI : Nat → Nat → Nat) (kc : Nat → ClassId) (a : Nat → Nat) (sz : Nat) (mo : MK) (pr : Int32) (x : Int32) (wh : Int32) (hM : MN mo) (R' : Int32) (mo' : MK) (hres : sp_M_about mo pr x wh = (R', mo')) : Met l y_M_about ws_M_about rm_M_about (va_Pc [.ref (a 0), .int pr, .int x, .int wh] (ml_B (dC, dI) vwCl (tysD kc) 11 a (mcell kc a mo) sz)) (va_Qi (fun r (_ : Unit) => r = R') (fun _ t => ml_E (dC, dI) vwCl (tysD kc) 11 a (mcell kc a mo') (va_A (ml 11 a (mcell kc a mo)) sz) t) (va_A (ml 11 a (mcell kc a mo)) sz)) 0 0 (va_A (ml 11 a (mcell kc a mo)) sz) := by
  refine Met.ofW (cc := prog_7_method_21_code) (maxL := 5) (ret := (some .int)) (by decide) rfl ?_
  intro p e s m args below meth c s₁ B hml hv
  obtain ⟨rfl, hsz, hP, hK, hD0⟩ := hv
  have hx := B.exec
  have hb := B.bytes
  have hr := B.returns
  have hts := atoms_spec (ws := ws_M_about) B.pre
  have hown : s.vm.findClass "HandleDeskModel" = some m.cls := findClass_of_methodNamed B.named
  have hlocks := B.notSynchronized
  subst hsz
  have hD := hD0.self (sz := s.heap.size)
  generalize hAe : va_A (ml 11 a (mcell kc a mo)) s.heap.size = A at hD ⊢
  have hA : ∀ q : Nat, s.heap.size ≤ q → A q := fun q h => by rw [← hAe]; exact Or.inr h
  have hS : va_S A s.heap s.heap [] := va_S.rf
  have hl := lv_entry ([.ref (a 0), .int pr, .int x, .int wh]) (n := 5) (Nat.le_of_ble_eq_true rfl)
  rw [lg_entry_eq]
  generalize (lg_sl ([.ref (a 0), .int pr, .int x, .int wh]) ++ List.replicate (5 - (lg_sl ([.ref (a 0), .int pr, .int x, .int wh])).length) Slot.unset).toArray = ls at hl ⊢
  have hl : lv_has ls 5 [(0, .ref (a 0)), (1, .int pr), (2, .int x), (3, .int wh)] := hl
  rw [sp_M_about] at hres
  refine lv_aload_n hx hb d_M_about_0 rfl (lv_at hl 0 rfl) ?_
  refine lv_iconst (v := 0) hx hb d_M_about_1 (by decide) ?_
  refine ml_put (D := (dC, dI)) hx hb hts in_MC tyM tyM_ok nmM hown hK hP hD hS (0) (by decide) (mc_mod kc a mo) rfl 0 (by decide) (hts _ (mC _ wd_341)) (fun _ h9 => h9) rfl (ty := .int) (by decide +kernel) rfl rfl (Nat.le_of_ble_eq_true rfl) (f' := (mcell kc a (u2 mo 0 0 (0 : Int32)))) (mw_0 kc a _ (0 : Int32)) d_M_about_2 (fun H locs hP hD hS => ?_)
  refine lv_aload_n hx hb d_M_about_5 rfl (lv_at hl 0 rfl) ?_
  refine lv_iload_n hx hb d_M_about_6 rfl (lv_at hl 1 rfl) ?_
  refine lv_iload_n hx hb d_M_about_7 rfl (lv_at hl 2 rfl) ?_
  refine ml_calli (va_runV (As := [.int pr, .int x]) (rest := []) ⟨hx, hb, hml, hown, hts⟩ (c_M_file l dC dI kc a _ (u2 mo 0 0 (0 : Int32)) pr x _ rfl) (cwV 2 hts (gd_V mC wd_434 wd_436 ws_17 wd_6 wd_437) rfl rfl rfl hd_M_file ⟨Nat.le_of_ble_eq_true rfl, Nat.le_of_ble_eq_true rfl⟩) ⟨ml_blind, va_recv hK hP (ci := 5) rfl (ml_at (by decide) (mc_mod kc a (u2 mo 0 0 (0 : Int32)))), ml_pre hP hK hD⟩ rfl rfl hl.1 rfl (lv_room (Nat.le_of_ble_eq_true rfl)) d_M_about_8 ⟨Nat.zero_le _, Nat.zero_le _⟩) hD hS hA (fun H locs hP hD hS => ?_)
  refine lv_istore (lv' := [(4, .int (sp_M_file (u2 mo 0 0 (0 : Int32)) pr x)), (0, .ref (a 0)), (1, .int pr), (2, .int x), (3, .int wh)]) hx hb d_M_about_11 hl (by decide) rfl (fun ls hl => ?_)
  refine lv_iload hx hb d_M_about_13 (lv_at hl 0 rfl) ?_
  refine lv_if_ge (tgt := 20) hx hb d_M_about_15 (by decide) (fun h_1 => ?_) (fun h_1 => ?_)
  · rw [if_pos h_1] at hres
    refine lv_iload_n hx hb d_M_about_20 rfl (lv_at hl 4 rfl) ?_
    by_cases e_2 : wh = (0 : Int32)
    · rw [if_pos e_2] at hres
      refine lv_tableIn (off := 43) (tgt := 64) hx hb d_M_about_21 (by rw [e_2]; decide) (by rw [e_2]; decide) (by rw [e_2]; rfl) (by decide) ?_
      refine lv_aload_n hx hb d_M_about_64 rfl (lv_at hl 1 rfl) ?_
      refine ml_get (D := (dC, dI)) hx hb hts in_MC hown hK hP (0) (by decide) (mc_mod kc a (u2 mo 0 0 (0 : Int32))) rfl 2 (by decide) (hts _ (mC _ wd_343)) (fun _ h9 => h9) (v := .ref (a 2)) rfl d_M_about_65 ?_
      refine lv_iload hx hb d_M_about_68 (lv_at hl 0 rfl) ?_
      refine ml_iald hx hb hK hP (2) 0 (by decide) (mc_kind kc a (u2 mo 0 0 (0 : Int32))) rfl (md_fk (MN_0 hM) (by first | assumption | exact md_nn (by assumption))) d_M_about_70 ?_
      obtain ⟨rfl, rfl⟩ := Prod.mk.inj hres
      exact ml_iret hx hb hr hlocks hP hK hD hS d_M_about_71
    · rw [if_neg e_2] at hres
      by_cases e_3 : wh = (1 : Int32)
      · rw [if_pos e_3] at hres
        refine lv_tableIn (off := 51) (tgt := 72) hx hb d_M_about_21 (by rw [e_3]; decide) (by rw [e_3]; decide) (by rw [e_3]; rfl) (by decide) ?_
        refine lv_aload_n hx hb d_M_about_72 rfl (lv_at hl 1 rfl) ?_
        refine ml_get (D := (dC, dI)) hx hb hts in_MC hown hK hP (0) (by decide) (mc_mod kc a (u2 mo 0 0 (0 : Int32))) rfl 3 (by decide) (hts _ (mC _ wd_344)) (fun _ h9 => h9) (v := .ref (a 3)) rfl d_M_about_73 ?_
        refine lv_iload hx hb d_M_about_76 (lv_at hl 0 rfl) ?_
        refine ml_iald hx hb hK hP (3) 0 (by decide) (mc_what kc a (u2 mo 0 0 (0 : Int32))) rfl (md_fk (MN_0 hM) (by first | assumption | exact md_nn (by assumption))) d_M_about_78 ?_
        obtain ⟨rfl, rfl⟩ := Prod.mk.inj hres
        exact ml_iret hx hb hr hlocks hP hK hD hS d_M_about_79
      · rw [if_neg e_3] at hres
        by_cases e_4 : wh = (2 : Int32)
        · rw [if_pos e_4] at hres
          refine lv_tableIn (off := 59) (tgt := 80) hx hb d_M_about_21 (by rw [e_4]; decide) (by rw [e_4]; decide) (by rw [e_4]; rfl) (by decide) ?_
          refine lv_aload_n hx hb d_M_about_80 rfl (lv_at hl 1 rfl) ?_
          refine ml_get (D := (dC, dI)) hx hb hts in_MC hown hK hP (0) (by decide) (mc_mod kc a (u2 mo 0 0 (0 : Int32))) rfl 4 (by decide) (hts _ (mC _ wd_345)) (fun _ h9 => h9) (v := .ref (a 4)) rfl d_M_about_81 ?_
          refine lv_iload hx hb d_M_about_84 (lv_at hl 0 rfl) ?_
          refine ml_iald hx hb hK hP (4) 0 (by decide) (mc_how kc a (u2 mo 0 0 (0 : Int32))) rfl (md_fk (MN_0 hM) (by first | assumption | exact md_nn (by assumption))) d_M_about_86 ?_
          refine lv_iconst (v := 2) hx hb d_M_about_87 (by decide) ?_
          refine lv_irem hx hb d_M_about_88 (by decide) ?_
          obtain ⟨rfl, rfl⟩ := Prod.mk.inj hres
          exact ml_iret hx hb hr hlocks hP hK hD hS d_M_about_89
        · rw [if_neg e_4] at hres
          by_cases e_5 : wh = (3 : Int32)
          · rw [if_pos e_5] at hres
            refine lv_tableIn (off := 69) (tgt := 90) hx hb d_M_about_21 (by rw [e_5]; decide) (by rw [e_5]; decide) (by rw [e_5]; rfl) (by decide) ?_
            refine lv_aload_n hx hb d_M_about_90 rfl (lv_at hl 1 rfl) ?_
            refine ml_get (D := (dC, dI)) hx hb hts in_MC hown hK hP (0) (by decide) (mc_mod kc a (u2 mo 0 0 (0 : Int32))) rfl 4 (by decide) (hts _ (mC _ wd_345)) (fun _ h9 => h9) (v := .ref (a 4)) rfl d_M_about_91 ?_
            refine lv_iload hx hb d_M_about_94 (lv_at hl 0 rfl) ?_
            refine ml_iald hx hb hK hP (4) 0 (by decide) (mc_how kc a (u2 mo 0 0 (0 : Int32))) rfl (md_fk (MN_0 hM) (by first | assumption | exact md_nn (by assumption))) d_M_about_96 ?_
            refine lv_iconst (v := 2) hx hb d_M_about_97 (by decide) ?_
            refine lv_idiv hx hb d_M_about_98 (by decide) ?_
            obtain ⟨rfl, rfl⟩ := Prod.mk.inj hres
            exact ml_iret hx hb hr hlocks hP hK hD hS d_M_about_99
          · rw [if_neg e_5] at hres
            by_cases e_6 : wh = (4 : Int32)
            · rw [if_pos e_6] at hres
              refine lv_tableIn (off := 79) (tgt := 100) hx hb d_M_about_21 (by rw [e_6]; decide) (by rw [e_6]; decide) (by rw [e_6]; rfl) (by decide) ?_
              refine lv_aload_n hx hb d_M_about_100 rfl (lv_at hl 1 rfl) ?_
              refine ml_get (D := (dC, dI)) hx hb hts in_MC hown hK hP (0) (by decide) (mc_mod kc a (u2 mo 0 0 (0 : Int32))) rfl 5 (by decide) (hts _ (mC _ wd_346)) (fun _ h9 => h9) (v := .ref (a 5)) rfl d_M_about_101 ?_
              refine lv_iload hx hb d_M_about_104 (lv_at hl 0 rfl) ?_
              refine ml_iald hx hb hK hP (5) 0 (by decide) (mc_place kc a (u2 mo 0 0 (0 : Int32))) rfl (md_fk (MN_0 hM) (by first | assumption | exact md_nn (by assumption))) d_M_about_106 ?_
              obtain ⟨rfl, rfl⟩ := Prod.mk.inj hres
              exact ml_iret hx hb hr hlocks hP hK hD hS d_M_about_107
            · rw [if_neg e_6] at hres
              by_cases e_7 : wh = (5 : Int32)
              · rw [if_pos e_7] at hres
                refine lv_tableIn (off := 87) (tgt := 108) hx hb d_M_about_21 (by rw [e_7]; decide) (by rw [e_7]; decide) (by rw [e_7]; rfl) (by decide) ?_
                refine lv_aload_n hx hb d_M_about_108 rfl (lv_at hl 1 rfl) ?_
                refine lv_iload hx hb d_M_about_109 (lv_at hl 0 rfl) ?_
                refine ml_calli (va_runV (As := [.int (sp_M_file (u2 mo 0 0 (0 : Int32)) pr x)]) (rest := []) ⟨hx, hb, hml, hown, hts⟩ (c_M_named l dC dI kc a _ (u2 mo 0 0 (0 : Int32)) (sp_M_file (u2 mo 0 0 (0 : Int32)) pr x) _ rfl) (cwV 1 hts (gd_V mC wd_402 wd_404 ws_11 wd_6 wd_405) rfl rfl rfl hd_M_named ⟨Nat.le_of_ble_eq_true rfl, Nat.le_of_ble_eq_true rfl⟩) ⟨ml_blind, va_recv hK hP (ci := 5) rfl (ml_at (by decide) (mc_mod kc a (u2 mo 0 0 (0 : Int32)))), ml_pre hP hK hD⟩ rfl rfl hl.1 rfl (lv_room (Nat.le_of_ble_eq_true rfl)) d_M_about_111 ⟨Nat.zero_le _, Nat.zero_le _⟩) hD hS hA (fun H locs hP hD hS => ?_)
                obtain ⟨rfl, rfl⟩ := Prod.mk.inj hres
                exact ml_iret hx hb hr hlocks hP hK hD hS d_M_about_114
              · rw [if_neg e_7] at hres
                by_cases e_8 : wh = (6 : Int32)
                · rw [if_pos e_8] at hres
                  refine lv_tableIn (off := 94) (tgt := 115) hx hb d_M_about_21 (by rw [e_8]; decide) (by rw [e_8]; decide) (by rw [e_8]; rfl) (by decide) ?_
                  refine lv_iload hx hb d_M_about_115 (lv_at hl 0 rfl) ?_
                  obtain ⟨rfl, rfl⟩ := Prod.mk.inj hres
                  exact ml_iret hx hb hr hlocks hP hK hD hS d_M_about_117
                · rw [if_neg e_8] at hres
                  have te_2 := tw_ne e_2 0 (by decide)
                  have te_3 := tw_ne e_3 1 (by decide)
                  have te_4 := tw_ne e_4 2 (by decide)
                  have te_5 := tw_ne e_5 3 (by decide)
                  have te_6 := tw_ne e_6 4 (by decide)
                  have te_7 := tw_ne e_7 5 (by decide)
                  have te_8 := tw_ne e_8 6 (by decide)
                  refine lv_tableOut (tgt := 118) hx hb d_M_about_21 (by omega) (by decide) ?_
                  refine lv_iconst (v := -1) hx hb d_M_about_118 (by decide) ?_
                  obtain ⟨rfl, rfl⟩ := Prod.mk.inj hres
                  exact ml_iret hx hb hr hlocks hP hK hD hS d_M_about_119
  · rw [if_neg h_1] at hres
    refine lv_iconst (v := -1) hx hb d_M_about_18 (by decide) ?_
    obtain ⟨rfl, rfl⟩ := Prod.mk.inj hres
    exact ml_iret hx hb hr hlocks hP hK hD hS d_M_about_19
def sp_M_move (mo : MK) (pr : Int32) (x : Int32) (nn : Int32) : Int32 × MK :=
  (if (sp_M_file (u2 mo 0 0 (0 : Int32)) pr x) < (0 : Int32) then ((0 : Int32), u2 mo 0 0 (0 : Int32)) else (if (u2 mo 0 0 (0 : Int32)) 6 (sp_M_file (u2 mo 0 0 (0 : Int32)) pr x).toNatClampNeg = (2 : Int32) then (if (0 : Int32) ≤ nn then ((1 : Int32), u2 (u2 mo 0 0 (0 : Int32)) 9 (sp_M_file (u2 mo 0 0 (0 : Int32)) pr x).toNatClampNeg nn) else ((0 : Int32), u2 mo 0 0 (0 : Int32))) else ((0 : Int32), u2 mo 0 0 (0 : Int32))))
abbrev rm_M_move : Room := { frames := 2, cells := 0, slots := 0, locals := 42 }
set_option maxHeartbeats 4000000 in
set_option maxRecDepth 100000 in
theorem c_M_move (l : Launch) (dC : Nat → ClassId) (dI : Nat → Nat → Nat) (kc : Nat → ClassId) (a : Nat → Nat) (sz : Nat) (mo : MK) (pr : Int32) (x : Int32) (nn : Int32) (hM : MN mo) (R' : Int32) (mo' : MK) (hres : sp_M_move mo pr x nn = (R', mo')) : Met l y_M_move ws_M_move rm_M_move (va_Pc [.ref (a 0), .int pr, .int x, .int nn] (ml_B (dC, dI) vwCl (tysD kc) 11 a (mcell kc a mo) sz)) (va_Qi (fun r (_ : Unit) => r = R') (fun _ t => ml_E (dC, dI) vwCl (tysD kc) 11 a (mcell kc a mo') (va_A (ml 11 a (mcell kc a mo)) sz) t) (va_A (ml 11 a (mcell kc a mo)) sz)) 0 0 (va_A (ml 11 a (mcell kc a mo)) sz) := by
  refine Met.ofW (cc := prog_7_method_22_code) (maxL := 5) (ret := (some .boolean)) (by decide) rfl ?_
  intro p e s m args below meth c s₁ B hml hv
  obtain ⟨rfl, hsz, hP, hK, hD0⟩ := hv
  have hx := B.exec
  have hb := B.bytes
  have hr := B.returns
  have hts := atoms_spec (ws := ws_M_move) B.pre
  have hown : s.vm.findClass "HandleDeskModel" = some m.cls := findClass_of_methodNamed B.named
  have hlocks := B.notSynchronized
  subst hsz
  have hD := hD0.self (sz := s.heap.size)
  generalize hAe : va_A (ml 11 a (mcell kc a mo)) s.heap.size = A at hD ⊢
  have hA : ∀ q : Nat, s.heap.size ≤ q → A q := fun q h => by rw [← hAe]; exact Or.inr h
  have hS : va_S A s.heap s.heap [] := va_S.rf
  have hl := lv_entry ([.ref (a 0), .int pr, .int x, .int nn]) (n := 5) (Nat.le_of_ble_eq_true rfl)
  rw [lg_entry_eq]
  generalize (lg_sl ([.ref (a 0), .int pr, .int x, .int nn]) ++ List.replicate (5 - (lg_sl ([.ref (a 0), .int pr, .int x, .int nn])).length) Slot.unset).toArray = ls at hl ⊢
  have hl : lv_has ls 5 [(0, .ref (a 0)), (1, .int pr), (2, .int x), (3, .int nn)] := hl
  rw [sp_M_move] at hres
  refine lv_aload_n hx hb d_M_move_0 rfl (lv_at hl 0 rfl) ?_
  refine lv_iconst (v := 0) hx hb d_M_move_1 (by decide) ?_
  refine ml_put (D := (dC, dI)) hx hb hts in_MC tyM tyM_ok nmM hown hK hP hD hS (0) (by decide) (mc_mod kc a mo) rfl 0 (by decide) (hts _ (mC _ wd_341)) (fun _ h9 => h9) rfl (ty := .int) (by decide +kernel) rfl rfl (Nat.le_of_ble_eq_true rfl) (f' := (mcell kc a (u2 mo 0 0 (0 : Int32)))) (mw_0 kc a _ (0 : Int32)) d_M_move_2 (fun H locs hP hD hS => ?_)
  refine lv_aload_n hx hb d_M_move_5 rfl (lv_at hl 0 rfl) ?_
  refine lv_iload_n hx hb d_M_move_6 rfl (lv_at hl 1 rfl) ?_
  refine lv_iload_n hx hb d_M_move_7 rfl (lv_at hl 2 rfl) ?_
  refine ml_calli (va_runV (As := [.int pr, .int x]) (rest := []) ⟨hx, hb, hml, hown, hts⟩ (c_M_file l dC dI kc a _ (u2 mo 0 0 (0 : Int32)) pr x _ rfl) (cwV 2 hts (gd_V mC wd_434 wd_436 ws_17 wd_6 wd_437) rfl rfl rfl hd_M_file ⟨Nat.le_of_ble_eq_true rfl, Nat.le_of_ble_eq_true rfl⟩) ⟨ml_blind, va_recv hK hP (ci := 5) rfl (ml_at (by decide) (mc_mod kc a (u2 mo 0 0 (0 : Int32)))), ml_pre hP hK hD⟩ rfl rfl hl.1 rfl (lv_room (Nat.le_of_ble_eq_true rfl)) d_M_move_8 ⟨Nat.zero_le _, Nat.zero_le _⟩) hD hS hA (fun H locs hP hD hS => ?_)
  refine lv_istore (lv' := [(4, .int (sp_M_file (u2 mo 0 0 (0 : Int32)) pr x)), (0, .ref (a 0)), (1, .int pr), (2, .int x), (3, .int nn)]) hx hb d_M_move_11 hl (by decide) rfl (fun ls hl => ?_)
  refine lv_iload hx hb d_M_move_13 (lv_at hl 0 rfl) ?_
  refine lv_if_lt (tgt := 33) hx hb d_M_move_15 (by decide) (fun h_1 => ?_) (fun h_1 => ?_)
  · rw [if_pos h_1] at hres
    refine lv_iconst (v := 0) hx hb d_M_move_33 (by decide) ?_
    obtain ⟨rfl, rfl⟩ := Prod.mk.inj hres
    exact ml_zret hx hb hr (by decide) hlocks hP hK hD hS d_M_move_34
  · rw [if_neg h_1] at hres
    refine lv_aload_n hx hb d_M_move_18 rfl (lv_at hl 1 rfl) ?_
    refine ml_get (D := (dC, dI)) hx hb hts in_MC hown hK hP (0) (by decide) (mc_mod kc a (u2 mo 0 0 (0 : Int32))) rfl 2 (by decide) (hts _ (mC _ wd_343)) (fun _ h9 => h9) (v := .ref (a 2)) rfl d_M_move_19 ?_
    refine lv_iload hx hb d_M_move_22 (lv_at hl 0 rfl) ?_
    refine ml_iald hx hb hK hP (2) 0 (by decide) (mc_kind kc a (u2 mo 0 0 (0 : Int32))) rfl (md_fk (MN_0 hM) (by first | assumption | exact md_nn (by assumption))) d_M_move_24 ?_
    refine lv_iconst (v := 2) hx hb d_M_move_25 (by decide) ?_
    refine lv_icmp_ne (tgt := 33) hx hb d_M_move_26 (by decide) (fun h_2 => ?_) (fun h_2 => ?_)
    · rw [if_neg h_2] at hres
      refine lv_iconst (v := 0) hx hb d_M_move_33 (by decide) ?_
      obtain ⟨rfl, rfl⟩ := Prod.mk.inj hres
      exact ml_zret hx hb hr (by decide) hlocks hP hK hD hS d_M_move_34
    · rw [if_pos h_2] at hres
      refine lv_iload_n hx hb d_M_move_29 rfl (lv_at hl 4 rfl) ?_
      refine lv_if_ge (tgt := 35) hx hb d_M_move_30 (by decide) (fun h_3 => ?_) (fun h_3 => ?_)
      · rw [if_pos h_3] at hres
        refine lv_aload_n hx hb d_M_move_35 rfl (lv_at hl 1 rfl) ?_
        refine ml_get (D := (dC, dI)) hx hb hts in_MC hown hK hP (0) (by decide) (mc_mod kc a (u2 mo 0 0 (0 : Int32))) rfl 5 (by decide) (hts _ (mC _ wd_346)) (fun _ h9 => h9) (v := .ref (a 5)) rfl d_M_move_36 ?_
        refine lv_iload hx hb d_M_move_39 (lv_at hl 0 rfl) ?_
        refine lv_iload_n hx hb d_M_move_41 rfl (lv_at hl 4 rfl) ?_
        refine ml_iast hx hb hK hP hD hS (5) 0 (by decide) (mc_place kc a (u2 mo 0 0 (0 : Int32))) rfl (md_fk (MN_0 hM) (by first | assumption | exact md_nn (by assumption))) (f' := (mcell kc a (u2 (u2 mo 0 0 (0 : Int32)) 9 (sp_M_file (u2 mo 0 0 (0 : Int32)) pr x).toNatClampNeg nn))) (mw_place kc a _ (sp_M_file (u2 mo 0 0 (0 : Int32)) pr x).toNatClampNeg nn) d_M_move_42 (fun H locs hP hD hS => ?_)
        refine lv_iconst (v := 1) hx hb d_M_move_43 (by decide) ?_
        obtain ⟨rfl, rfl⟩ := Prod.mk.inj hres
        exact ml_zret hx hb hr (by decide) hlocks hP hK hD hS d_M_move_44
      · rw [if_neg h_3] at hres
        refine lv_iconst (v := 0) hx hb d_M_move_33 (by decide) ?_
        obtain ⟨rfl, rfl⟩ := Prod.mk.inj hres
        exact ml_zret hx hb hr (by decide) hlocks hP hK hD hS d_M_move_34
def sp_M_put (mo : MK) (pr : Int32) (x : Int32) (bt : Int32) : Int32 × MK :=
  (if (sp_M_file (u2 mo 0 0 (0 : Int32)) pr x) < (0 : Int32) then ((-1 : Int32), u2 mo 0 0 (0 : Int32)) else (if (u2 mo 0 0 (0 : Int32)) 6 (sp_M_file (u2 mo 0 0 (0 : Int32)) pr x).toNatClampNeg = (1 : Int32) then (if (u2 mo 0 0 (0 : Int32)) 8 (sp_M_file (u2 mo 0 0 (0 : Int32)) pr x).toNatClampNeg = (2 : Int32) then (if (0 : Int32) ≤ (sp_M_end (u2 mo 0 0 (0 : Int32)) ((u2 mo 0 0 (0 : Int32)) 7 (sp_M_file (u2 mo 0 0 (0 : Int32)) pr x).toNatClampNeg) (1 : Int32)) then (if (u2 mo 0 0 (0 : Int32)) 10 ((u2 mo 0 0 (0 : Int32)) 7 (sp_M_file (u2 mo 0 0 (0 : Int32)) pr x).toNatClampNeg).toNatClampNeg = (512 : Int32) then ((-3 : Int32), u2 mo 0 0 (0 : Int32)) else ((0 : Int32), u2 (u2 (u2 mo 0 0 (0 : Int32)) 11 (((512 : Int32) * ((u2 mo 0 0 (0 : Int32)) 7 (sp_M_file (u2 mo 0 0 (0 : Int32)) pr x).toNatClampNeg)) + ((u2 mo 0 0 (0 : Int32)) 10 ((u2 mo 0 0 (0 : Int32)) 7 (sp_M_file (u2 mo 0 0 (0 : Int32)) pr x).toNatClampNeg).toNatClampNeg)).toNatClampNeg (vp_nar .byte bt.toInt8.toInt32)) 10 ((u2 mo 0 0 (0 : Int32)) 7 (sp_M_file (u2 mo 0 0 (0 : Int32)) pr x).toNatClampNeg).toNatClampNeg (((u2 (u2 mo 0 0 (0 : Int32)) 11 (((512 : Int32) * ((u2 mo 0 0 (0 : Int32)) 7 (sp_M_file (u2 mo 0 0 (0 : Int32)) pr x).toNatClampNeg)) + ((u2 mo 0 0 (0 : Int32)) 10 ((u2 mo 0 0 (0 : Int32)) 7 (sp_M_file (u2 mo 0 0 (0 : Int32)) pr x).toNatClampNeg).toNatClampNeg)).toNatClampNeg (vp_nar .byte bt.toInt8.toInt32)) 10 ((u2 mo 0 0 (0 : Int32)) 7 (sp_M_file (u2 mo 0 0 (0 : Int32)) pr x).toNatClampNeg).toNatClampNeg) + (1 : Int32)))) else ((-2 : Int32), u2 mo 0 0 (0 : Int32))) else ((-1 : Int32), u2 mo 0 0 (0 : Int32))) else ((-1 : Int32), u2 mo 0 0 (0 : Int32))))
abbrev rm_M_put : Room := { frames := 2, cells := 0, slots := 0, locals := 47 }
set_option maxHeartbeats 4000000 in
set_option maxRecDepth 100000 in
theorem c_M_put (l : Launch) (dC : Nat → ClassId) (dI : Nat → Nat → Nat) (kc : Nat → ClassId) (a : Nat → Nat) (sz : Nat) (mo : MK) (pr : Int32) (x : Int32) (bt : Int32) (hM : MN mo) (hW : MPW mo pr x) (R' : Int32) (mo' : MK) (hres : sp_M_put mo pr x bt = (R', mo')) : Met l y_M_put ws_M_put rm_M_put (va_Pc [.ref (a 0), .int pr, .int x, .int bt] (ml_B (dC, dI) vwCl (tysD kc) 11 a (mcell kc a mo) sz)) (va_Qi (fun r (_ : Unit) => r = R') (fun _ t => ml_E (dC, dI) vwCl (tysD kc) 11 a (mcell kc a mo') (va_A (ml 11 a (mcell kc a mo)) sz) t) (va_A (ml 11 a (mcell kc a mo)) sz)) 0 0 (va_A (ml 11 a (mcell kc a mo)) sz) := by
  refine Met.ofW (cc := prog_7_method_23_code) (maxL := 6) (ret := (some .int)) (by decide) rfl ?_
  intro p e s m args below meth c s₁ B hml hv
  obtain ⟨rfl, hsz, hP, hK, hD0⟩ := hv
  have hx := B.exec
  have hb := B.bytes
  have hr := B.returns
  have hts := atoms_spec (ws := ws_M_put) B.pre
  have hown : s.vm.findClass "HandleDeskModel" = some m.cls := findClass_of_methodNamed B.named
  have hlocks := B.notSynchronized
  subst hsz
  have hD := hD0.self (sz := s.heap.size)
  generalize hAe : va_A (ml 11 a (mcell kc a mo)) s.heap.size = A at hD ⊢
  have hA : ∀ q : Nat, s.heap.size ≤ q → A q := fun q h => by rw [← hAe]; exact Or.inr h
  have hS : va_S A s.heap s.heap [] := va_S.rf
  have hl := lv_entry ([.ref (a 0), .int pr, .int x, .int bt]) (n := 6) (Nat.le_of_ble_eq_true rfl)
  rw [lg_entry_eq]
  generalize (lg_sl ([.ref (a 0), .int pr, .int x, .int bt]) ++ List.replicate (6 - (lg_sl ([.ref (a 0), .int pr, .int x, .int bt])).length) Slot.unset).toArray = ls at hl ⊢
  have hl : lv_has ls 6 [(0, .ref (a 0)), (1, .int pr), (2, .int x), (3, .int bt)] := hl
  rw [sp_M_put] at hres
  refine lv_aload_n hx hb d_M_put_0 rfl (lv_at hl 0 rfl) ?_
  refine lv_iconst (v := 0) hx hb d_M_put_1 (by decide) ?_
  refine ml_put (D := (dC, dI)) hx hb hts in_MC tyM tyM_ok nmM hown hK hP hD hS (0) (by decide) (mc_mod kc a mo) rfl 0 (by decide) (hts _ (mC _ wd_341)) (fun _ h9 => h9) rfl (ty := .int) (by decide +kernel) rfl rfl (Nat.le_of_ble_eq_true rfl) (f' := (mcell kc a (u2 mo 0 0 (0 : Int32)))) (mw_0 kc a _ (0 : Int32)) d_M_put_2 (fun H locs hP hD hS => ?_)
  refine lv_aload_n hx hb d_M_put_5 rfl (lv_at hl 0 rfl) ?_
  refine lv_iload_n hx hb d_M_put_6 rfl (lv_at hl 1 rfl) ?_
  refine lv_iload_n hx hb d_M_put_7 rfl (lv_at hl 2 rfl) ?_
  refine ml_calli (va_runV (As := [.int pr, .int x]) (rest := []) ⟨hx, hb, hml, hown, hts⟩ (c_M_file l dC dI kc a _ (u2 mo 0 0 (0 : Int32)) pr x _ rfl) (cwV 2 hts (gd_V mC wd_434 wd_436 ws_17 wd_6 wd_437) rfl rfl rfl hd_M_file ⟨Nat.le_of_ble_eq_true rfl, Nat.le_of_ble_eq_true rfl⟩) ⟨ml_blind, va_recv hK hP (ci := 5) rfl (ml_at (by decide) (mc_mod kc a (u2 mo 0 0 (0 : Int32)))), ml_pre hP hK hD⟩ rfl rfl hl.1 rfl (lv_room (Nat.le_of_ble_eq_true rfl)) d_M_put_8 ⟨Nat.zero_le _, Nat.zero_le _⟩) hD hS hA (fun H locs hP hD hS => ?_)
  refine lv_istore (lv' := [(4, .int (sp_M_file (u2 mo 0 0 (0 : Int32)) pr x)), (0, .ref (a 0)), (1, .int pr), (2, .int x), (3, .int bt)]) hx hb d_M_put_11 hl (by decide) rfl (fun ls hl => ?_)
  refine lv_iload hx hb d_M_put_13 (lv_at hl 0 rfl) ?_
  refine lv_if_lt (tgt := 40) hx hb d_M_put_15 (by decide) (fun h_1 => ?_) (fun h_1 => ?_)
  · rw [if_pos h_1] at hres
    refine lv_iconst (v := -1) hx hb d_M_put_40 (by decide) ?_
    obtain ⟨rfl, rfl⟩ := Prod.mk.inj hres
    exact ml_iret hx hb hr hlocks hP hK hD hS d_M_put_41
  · rw [if_neg h_1] at hres
    refine lv_aload_n hx hb d_M_put_18 rfl (lv_at hl 1 rfl) ?_
    refine ml_get (D := (dC, dI)) hx hb hts in_MC hown hK hP (0) (by decide) (mc_mod kc a (u2 mo 0 0 (0 : Int32))) rfl 2 (by decide) (hts _ (mC _ wd_343)) (fun _ h9 => h9) (v := .ref (a 2)) rfl d_M_put_19 ?_
    refine lv_iload hx hb d_M_put_22 (lv_at hl 0 rfl) ?_
    refine ml_iald hx hb hK hP (2) 0 (by decide) (mc_kind kc a (u2 mo 0 0 (0 : Int32))) rfl (md_fk (MN_0 hM) (by first | assumption | exact md_nn (by assumption))) d_M_put_24 ?_
    refine lv_iconst (v := 1) hx hb d_M_put_25 (by decide) ?_
    refine lv_icmp_ne (tgt := 40) hx hb d_M_put_26 (by decide) (fun h_2 => ?_) (fun h_2 => ?_)
    · rw [if_neg h_2] at hres
      refine lv_iconst (v := -1) hx hb d_M_put_40 (by decide) ?_
      obtain ⟨rfl, rfl⟩ := Prod.mk.inj hres
      exact ml_iret hx hb hr hlocks hP hK hD hS d_M_put_41
    · rw [if_pos h_2] at hres
      refine lv_aload_n hx hb d_M_put_29 rfl (lv_at hl 1 rfl) ?_
      refine ml_get (D := (dC, dI)) hx hb hts in_MC hown hK hP (0) (by decide) (mc_mod kc a (u2 mo 0 0 (0 : Int32))) rfl 4 (by decide) (hts _ (mC _ wd_345)) (fun _ h9 => h9) (v := .ref (a 4)) rfl d_M_put_30 ?_
      refine lv_iload hx hb d_M_put_33 (lv_at hl 0 rfl) ?_
      refine ml_iald hx hb hK hP (4) 0 (by decide) (mc_how kc a (u2 mo 0 0 (0 : Int32))) rfl (md_fk (MN_0 hM) (by first | assumption | exact md_nn (by assumption))) d_M_put_35 ?_
      refine lv_iconst (v := 2) hx hb d_M_put_36 (by decide) ?_
      refine lv_icmp_eq (tgt := 42) hx hb d_M_put_37 (by decide) (fun h_3 => ?_) (fun h_3 => ?_)
      · rw [if_pos h_3] at hres
        refine lv_aload_n hx hb d_M_put_42 rfl (lv_at hl 1 rfl) ?_
        refine ml_get (D := (dC, dI)) hx hb hts in_MC hown hK hP (0) (by decide) (mc_mod kc a (u2 mo 0 0 (0 : Int32))) rfl 3 (by decide) (hts _ (mC _ wd_344)) (fun _ h9 => h9) (v := .ref (a 3)) rfl d_M_put_43 ?_
        refine lv_iload hx hb d_M_put_46 (lv_at hl 0 rfl) ?_
        refine ml_iald hx hb hK hP (3) 0 (by decide) (mc_what kc a (u2 mo 0 0 (0 : Int32))) rfl (md_fk (MN_0 hM) (by first | assumption | exact md_nn (by assumption))) d_M_put_48 ?_
        refine lv_istore (lv' := [(5, .int ((u2 mo 0 0 (0 : Int32)) 7 (sp_M_file (u2 mo 0 0 (0 : Int32)) pr x).toNatClampNeg)), (4, .int (sp_M_file (u2 mo 0 0 (0 : Int32)) pr x)), (0, .ref (a 0)), (1, .int pr), (2, .int x), (3, .int bt)]) hx hb d_M_put_49 hl (by decide) rfl (fun ls hl => ?_)
        refine lv_aload_n hx hb d_M_put_51 rfl (lv_at hl 2 rfl) ?_
        refine lv_iload hx hb d_M_put_52 (lv_at hl 0 rfl) ?_
        refine lv_iconst (v := 1) hx hb d_M_put_54 (by decide) ?_
        refine ml_calli (va_runV (As := [.int ((u2 mo 0 0 (0 : Int32)) 7 (sp_M_file (u2 mo 0 0 (0 : Int32)) pr x).toNatClampNeg), .int (1 : Int32)]) (rest := []) ⟨hx, hb, hml, hown, hts⟩ (c_M_end l dC dI kc a _ (u2 mo 0 0 (0 : Int32)) ((u2 mo 0 0 (0 : Int32)) 7 (sp_M_file (u2 mo 0 0 (0 : Int32)) pr x).toNatClampNeg) (1 : Int32) _ rfl) (cwV 2 hts (gd_V mC wd_422 wd_424 ws_15 wd_6 wd_425) rfl rfl rfl hd_M_end ⟨Nat.le_of_ble_eq_true rfl, Nat.le_of_ble_eq_true rfl⟩) ⟨ml_blind, va_recv hK hP (ci := 5) rfl (ml_at (by decide) (mc_mod kc a (u2 mo 0 0 (0 : Int32)))), ml_pre hP hK hD⟩ rfl rfl hl.1 rfl (lv_room (Nat.le_of_ble_eq_true rfl)) d_M_put_55 ⟨Nat.zero_le _, Nat.zero_le _⟩) hD hS hA (fun H locs hP hD hS => ?_)
        refine lv_if_ge (tgt := 64) hx hb d_M_put_58 (by decide) (fun h_4 => ?_) (fun h_4 => ?_)
        · rw [if_pos h_4] at hres
          refine lv_aload_n hx hb d_M_put_64 rfl (lv_at hl 2 rfl) ?_
          refine ml_get (D := (dC, dI)) hx hb hts in_MC hown hK hP (0) (by decide) (mc_mod kc a (u2 mo 0 0 (0 : Int32))) rfl 6 (by decide) (hts _ (mC _ wd_347)) (fun _ h9 => h9) (v := .ref (a 6)) rfl d_M_put_65 ?_
          refine lv_iload hx hb d_M_put_68 (lv_at hl 0 rfl) ?_
          refine ml_iald hx hb hK hP (6) 0 (by decide) (mc_many kc a (u2 mo 0 0 (0 : Int32))) rfl (md_pk hW (by assumption) (by assumption)) d_M_put_70 ?_
          refine lv_sipush (v := 512) hx hb d_M_put_71 (by decide) ?_
          refine lv_icmp_ne (tgt := 80) hx hb d_M_put_74 (by decide) (fun h_5 => ?_) (fun h_5 => ?_)
          · rw [if_neg h_5] at hres
            refine lv_aload_n hx hb d_M_put_80 rfl (lv_at hl 2 rfl) ?_
            refine ml_get (D := (dC, dI)) hx hb hts in_MC hown hK hP (0) (by decide) (mc_mod kc a (u2 mo 0 0 (0 : Int32))) rfl 7 (by decide) (hts _ (mC _ wd_348)) (fun _ h9 => h9) (v := .ref (a 7)) rfl d_M_put_81 ?_
            refine lv_sipush (v := 512) hx hb d_M_put_84 (by decide) ?_
            refine lv_iload hx hb d_M_put_87 (lv_at hl 0 rfl) ?_
            refine lv_imul hx hb d_M_put_89 ?_
            refine lv_aload_n hx hb d_M_put_90 rfl (lv_at hl 2 rfl) ?_
            refine ml_get (D := (dC, dI)) hx hb hts in_MC hown hK hP (0) (by decide) (mc_mod kc a (u2 mo 0 0 (0 : Int32))) rfl 6 (by decide) (hts _ (mC _ wd_347)) (fun _ h9 => h9) (v := .ref (a 6)) rfl d_M_put_91 ?_
            refine lv_iload hx hb d_M_put_94 (lv_at hl 0 rfl) ?_
            refine ml_iald hx hb hK hP (6) 0 (by decide) (mc_many kc a (u2 mo 0 0 (0 : Int32))) rfl (md_pk hW (by assumption) (by assumption)) d_M_put_96 ?_
            refine lv_iadd hx hb d_M_put_97 ?_
            refine lv_iload_n hx hb d_M_put_98 rfl (lv_at hl 5 rfl) ?_
            refine lv_i2b (v := bt.toInt8.toInt32) hx hb d_M_put_99 rfl ?_
            refine ml_bast hx hb hK hP hD hS (7) 1 (by decide) (mc_queue kc a (u2 mo 0 0 (0 : Int32))) rfl (md_pq hW (by assumption) (by assumption) (by assumption)) (f' := (mcell kc a (u2 (u2 mo 0 0 (0 : Int32)) 11 (((512 : Int32) * ((u2 mo 0 0 (0 : Int32)) 7 (sp_M_file (u2 mo 0 0 (0 : Int32)) pr x).toNatClampNeg)) + ((u2 mo 0 0 (0 : Int32)) 10 ((u2 mo 0 0 (0 : Int32)) 7 (sp_M_file (u2 mo 0 0 (0 : Int32)) pr x).toNatClampNeg).toNatClampNeg)).toNatClampNeg (vp_nar .byte bt.toInt8.toInt32)))) (mw_queue kc a _ (((512 : Int32) * ((u2 mo 0 0 (0 : Int32)) 7 (sp_M_file (u2 mo 0 0 (0 : Int32)) pr x).toNatClampNeg)) + ((u2 mo 0 0 (0 : Int32)) 10 ((u2 mo 0 0 (0 : Int32)) 7 (sp_M_file (u2 mo 0 0 (0 : Int32)) pr x).toNatClampNeg).toNatClampNeg)).toNatClampNeg (vp_nar .byte bt.toInt8.toInt32)) d_M_put_100 (fun H locs hP hD hS => ?_)
            refine lv_aload_n hx hb d_M_put_101 rfl (lv_at hl 2 rfl) ?_
            refine ml_get (D := (dC, dI)) hx hb hts in_MC hown hK hP (0) (by decide) (mc_mod kc a (u2 (u2 mo 0 0 (0 : Int32)) 11 (((512 : Int32) * ((u2 mo 0 0 (0 : Int32)) 7 (sp_M_file (u2 mo 0 0 (0 : Int32)) pr x).toNatClampNeg)) + ((u2 mo 0 0 (0 : Int32)) 10 ((u2 mo 0 0 (0 : Int32)) 7 (sp_M_file (u2 mo 0 0 (0 : Int32)) pr x).toNatClampNeg).toNatClampNeg)).toNatClampNeg (vp_nar .byte bt.toInt8.toInt32))) rfl 6 (by decide) (hts _ (mC _ wd_347)) (fun _ h9 => h9) (v := .ref (a 6)) rfl d_M_put_102 ?_
            refine lv_iload hx hb d_M_put_105 (lv_at hl 0 rfl) ?_
            refine lv_dup2_11 hx hb d_M_put_107 rfl rfl ?_
            refine ml_iald hx hb hK hP (6) 0 (by decide) (mc_many kc a (u2 (u2 mo 0 0 (0 : Int32)) 11 (((512 : Int32) * ((u2 mo 0 0 (0 : Int32)) 7 (sp_M_file (u2 mo 0 0 (0 : Int32)) pr x).toNatClampNeg)) + ((u2 mo 0 0 (0 : Int32)) 10 ((u2 mo 0 0 (0 : Int32)) 7 (sp_M_file (u2 mo 0 0 (0 : Int32)) pr x).toNatClampNeg).toNatClampNeg)).toNatClampNeg (vp_nar .byte bt.toInt8.toInt32))) rfl (md_pk hW (by assumption) (by assumption)) d_M_put_108 ?_
            refine lv_iconst (v := 1) hx hb d_M_put_109 (by decide) ?_
            refine lv_iadd hx hb d_M_put_110 ?_
            refine ml_iast hx hb hK hP hD hS (6) 0 (by decide) (mc_many kc a (u2 (u2 mo 0 0 (0 : Int32)) 11 (((512 : Int32) * ((u2 mo 0 0 (0 : Int32)) 7 (sp_M_file (u2 mo 0 0 (0 : Int32)) pr x).toNatClampNeg)) + ((u2 mo 0 0 (0 : Int32)) 10 ((u2 mo 0 0 (0 : Int32)) 7 (sp_M_file (u2 mo 0 0 (0 : Int32)) pr x).toNatClampNeg).toNatClampNeg)).toNatClampNeg (vp_nar .byte bt.toInt8.toInt32))) rfl (md_pk hW (by assumption) (by assumption)) (f' := (mcell kc a (u2 (u2 (u2 mo 0 0 (0 : Int32)) 11 (((512 : Int32) * ((u2 mo 0 0 (0 : Int32)) 7 (sp_M_file (u2 mo 0 0 (0 : Int32)) pr x).toNatClampNeg)) + ((u2 mo 0 0 (0 : Int32)) 10 ((u2 mo 0 0 (0 : Int32)) 7 (sp_M_file (u2 mo 0 0 (0 : Int32)) pr x).toNatClampNeg).toNatClampNeg)).toNatClampNeg (vp_nar .byte bt.toInt8.toInt32)) 10 ((u2 mo 0 0 (0 : Int32)) 7 (sp_M_file (u2 mo 0 0 (0 : Int32)) pr x).toNatClampNeg).toNatClampNeg (((u2 (u2 mo 0 0 (0 : Int32)) 11 (((512 : Int32) * ((u2 mo 0 0 (0 : Int32)) 7 (sp_M_file (u2 mo 0 0 (0 : Int32)) pr x).toNatClampNeg)) + ((u2 mo 0 0 (0 : Int32)) 10 ((u2 mo 0 0 (0 : Int32)) 7 (sp_M_file (u2 mo 0 0 (0 : Int32)) pr x).toNatClampNeg).toNatClampNeg)).toNatClampNeg (vp_nar .byte bt.toInt8.toInt32)) 10 ((u2 mo 0 0 (0 : Int32)) 7 (sp_M_file (u2 mo 0 0 (0 : Int32)) pr x).toNatClampNeg).toNatClampNeg) + (1 : Int32))))) (mw_many kc a _ ((u2 mo 0 0 (0 : Int32)) 7 (sp_M_file (u2 mo 0 0 (0 : Int32)) pr x).toNatClampNeg).toNatClampNeg (((u2 (u2 mo 0 0 (0 : Int32)) 11 (((512 : Int32) * ((u2 mo 0 0 (0 : Int32)) 7 (sp_M_file (u2 mo 0 0 (0 : Int32)) pr x).toNatClampNeg)) + ((u2 mo 0 0 (0 : Int32)) 10 ((u2 mo 0 0 (0 : Int32)) 7 (sp_M_file (u2 mo 0 0 (0 : Int32)) pr x).toNatClampNeg).toNatClampNeg)).toNatClampNeg (vp_nar .byte bt.toInt8.toInt32)) 10 ((u2 mo 0 0 (0 : Int32)) 7 (sp_M_file (u2 mo 0 0 (0 : Int32)) pr x).toNatClampNeg).toNatClampNeg) + (1 : Int32))) d_M_put_111 (fun H locs hP hD hS => ?_)
            refine lv_iconst (v := 0) hx hb d_M_put_112 (by decide) ?_
            obtain ⟨rfl, rfl⟩ := Prod.mk.inj hres
            exact ml_iret hx hb hr hlocks hP hK hD hS d_M_put_113
          · rw [if_pos h_5] at hres
            refine lv_bipush (v := -3) hx hb d_M_put_77 (by decide) ?_
            obtain ⟨rfl, rfl⟩ := Prod.mk.inj hres
            exact ml_iret hx hb hr hlocks hP hK hD hS d_M_put_79
        · rw [if_neg h_4] at hres
          refine lv_bipush (v := -2) hx hb d_M_put_61 (by decide) ?_
          obtain ⟨rfl, rfl⟩ := Prod.mk.inj hres
          exact ml_iret hx hb hr hlocks hP hK hD hS d_M_put_63
      · rw [if_neg h_3] at hres
        refine lv_iconst (v := -1) hx hb d_M_put_40 (by decide) ?_
        obtain ⟨rfl, rfl⟩ := Prod.mk.inj hres
        exact ml_iret hx hb hr hlocks hP hK hD hS d_M_put_41
def lp_M_take (pr : Int32) (x : Int32) : Nat → Nat → Int32 → Int32 → MK → Int32 × MK
  | 0, _, _, _, mo => (0, mo)
  | n + 1, j, kx, bb, mo =>
    (if (mo 10 kx.toNatClampNeg) ≤ (nI j) then (bb, mo) else (lp_M_take pr x n (j + 1) kx bb (u2 mo 11 (((512 : Int32) * kx) + (nI j)).toNatClampNeg (vp_nar .byte (mo 11 ((((512 : Int32) * kx) + (nI j)) + (1 : Int32)).toNatClampNeg)))))
def sp_M_take (mo : MK) (pr : Int32) (x : Int32) : Int32 × MK :=
  (if (sp_M_file (u2 mo 0 0 (0 : Int32)) pr x) < (0 : Int32) then ((-1 : Int32), u2 mo 0 0 (0 : Int32)) else (if (u2 mo 0 0 (0 : Int32)) 6 (sp_M_file (u2 mo 0 0 (0 : Int32)) pr x).toNatClampNeg = (1 : Int32) then (if (u2 mo 0 0 (0 : Int32)) 8 (sp_M_file (u2 mo 0 0 (0 : Int32)) pr x).toNatClampNeg = (1 : Int32) then (if (u2 mo 0 0 (0 : Int32)) 10 ((u2 mo 0 0 (0 : Int32)) 7 (sp_M_file (u2 mo 0 0 (0 : Int32)) pr x).toNatClampNeg).toNatClampNeg = (0 : Int32) then (if (0 : Int32) ≤ (sp_M_end (u2 mo 0 0 (0 : Int32)) ((u2 mo 0 0 (0 : Int32)) 7 (sp_M_file (u2 mo 0 0 (0 : Int32)) pr x).toNatClampNeg) (2 : Int32)) then ((-3 : Int32), u2 mo 0 0 (0 : Int32)) else ((-4 : Int32), u2 mo 0 0 (0 : Int32))) else (lp_M_take pr x (511 + 1) 0 ((u2 mo 0 0 (0 : Int32)) 7 (sp_M_file (u2 mo 0 0 (0 : Int32)) pr x).toNatClampNeg) (((u2 mo 0 0 (0 : Int32)) 11 ((512 : Int32) * ((u2 mo 0 0 (0 : Int32)) 7 (sp_M_file (u2 mo 0 0 (0 : Int32)) pr x).toNatClampNeg)).toNatClampNeg) &&& (255 : Int32)) (u2 (u2 mo 0 0 (0 : Int32)) 10 ((u2 mo 0 0 (0 : Int32)) 7 (sp_M_file (u2 mo 0 0 (0 : Int32)) pr x).toNatClampNeg).toNatClampNeg (((u2 mo 0 0 (0 : Int32)) 10 ((u2 mo 0 0 (0 : Int32)) 7 (sp_M_file (u2 mo 0 0 (0 : Int32)) pr x).toNatClampNeg).toNatClampNeg) - (1 : Int32))))) else ((-1 : Int32), u2 mo 0 0 (0 : Int32))) else ((-1 : Int32), u2 mo 0 0 (0 : Int32))))
abbrev rm_M_take : Room := { frames := 2, cells := 0, slots := 0, locals := 47 }
set_option maxHeartbeats 4000000 in
set_option maxRecDepth 100000 in
theorem c_M_take (l : Launch) (dC : Nat → ClassId) (dI : Nat → Nat → Nat) (kc : Nat → ClassId) (a : Nat → Nat) (sz : Nat) (mo : MK) (pr : Int32) (x : Int32) (hM : MN mo) (hW : MPW mo pr x) (R' : Int32) (mo' : MK) (hres : sp_M_take mo pr x = (R', mo')) : Met l y_M_take ws_M_take rm_M_take (va_Pc [.ref (a 0), .int pr, .int x] (ml_B (dC, dI) vwCl (tysD kc) 11 a (mcell kc a mo) sz)) (va_Qi (fun r (_ : Unit) => r = R') (fun _ t => ml_E (dC, dI) vwCl (tysD kc) 11 a (mcell kc a mo') (va_A (ml 11 a (mcell kc a mo)) sz) t) (va_A (ml 11 a (mcell kc a mo)) sz)) 0 0 (va_A (ml 11 a (mcell kc a mo)) sz) := by
  refine Met.ofW (cc := prog_7_method_24_code) (maxL := 7) (ret := (some .int)) (by decide) rfl ?_
  intro p e s m args below meth c s₁ B hml hv
  obtain ⟨rfl, hsz, hP, hK, hD0⟩ := hv
  have hx := B.exec
  have hb := B.bytes
  have hr := B.returns
  have hts := atoms_spec (ws := ws_M_take) B.pre
  have hown : s.vm.findClass "HandleDeskModel" = some m.cls := findClass_of_methodNamed B.named
  have hlocks := B.notSynchronized
  subst hsz
  have hD := hD0.self (sz := s.heap.size)
  generalize hAe : va_A (ml 11 a (mcell kc a mo)) s.heap.size = A at hD ⊢
  have hA : ∀ q : Nat, s.heap.size ≤ q → A q := fun q h => by rw [← hAe]; exact Or.inr h
  have hS : va_S A s.heap s.heap [] := va_S.rf
  have loop : ∀ (n j : Nat) (kx : Int32) (bb : Int32) (mo : MK) (H : Heap) (locs : List Loc) (ls : Array Slot), j ≤ 511 → j + n = 511 + 1 → (∃ kb t, kb < 8 ∧ t ≤ 511 ∧ kx = nI kb ∧ mo 10 kb = nI t) → lp_M_take pr x n j kx bb mo = (R', mo') → va_P (dC, dI) vwCl (ml 11 a (mcell kc a mo)) H → va_D A (ml 11 a (mcell kc a mo)) → va_S A s.heap H locs → lv_has ls 7 [(0, .ref (a 0)), (4, .int kx), (5, .int bb), (6, .int (nI j))] → W p l e rm_M_take s m ([.ref (a 0), .int pr, .int x] : List Value).toArray below meth c H locs 0 0 (MQ below (va_Qi (fun r (_ : Unit) => r = R') (fun _ t => ml_E (dC, dI) vwCl (tysD kc) 11 a (mcell kc a mo') A t) A) ([.ref (a 0), .int pr, .int x] : List Value).toArray s 0 0 A) (F0 m 105 ls []) := by
    intro n
    induction n with
    | zero =>
      intro j kx bb mo H locs ls hj hn
      exact absurd hn (by omega)
    | succ n ih =>
      intro j kx bb mo H locs ls hj hn hinv hres hP hD hS hl
      rw [lp_M_take] at hres
      refine lv_iload hx hb d_M_take_105 (lv_at hl 3 rfl) ?_
      refine lv_aload_n hx hb d_M_take_107 rfl (lv_at hl 0 rfl) ?_
      refine ml_get (D := (dC, dI)) hx hb hts in_MC hown hK hP (0) (by decide) (mc_mod kc a mo) rfl 6 (by decide) (hts _ (mC _ wd_347)) (fun _ h9 => h9) (v := .ref (a 6)) rfl d_M_take_108 ?_
      refine lv_iload hx hb d_M_take_111 (lv_at hl 1 rfl) ?_
      refine ml_iald hx hb hK hP (6) 0 (by decide) (mc_many kc a mo) rfl (md_tk hinv) d_M_take_113 ?_
      refine lv_icmp_ge (tgt := 153) hx hb d_M_take_114 (by decide) (fun h_1 => ?_) (fun h_1 => ?_)
      · rw [if_pos h_1] at hres
        refine lv_iload hx hb d_M_take_153 (lv_at hl 2 rfl) ?_
        obtain ⟨rfl, rfl⟩ := Prod.mk.inj hres
        exact ml_iret hx hb hr hlocks hP hK hD hS d_M_take_155
      · rw [if_neg h_1] at hres
        refine lv_aload_n hx hb d_M_take_117 rfl (lv_at hl 0 rfl) ?_
        refine ml_get (D := (dC, dI)) hx hb hts in_MC hown hK hP (0) (by decide) (mc_mod kc a mo) rfl 7 (by decide) (hts _ (mC _ wd_348)) (fun _ h9 => h9) (v := .ref (a 7)) rfl d_M_take_118 ?_
        refine lv_sipush (v := 512) hx hb d_M_take_121 (by decide) ?_
        refine lv_iload hx hb d_M_take_124 (lv_at hl 1 rfl) ?_
        refine lv_imul hx hb d_M_take_126 ?_
        refine lv_iload hx hb d_M_take_127 (lv_at hl 3 rfl) ?_
        refine lv_iadd hx hb d_M_take_129 ?_
        refine lv_aload_n hx hb d_M_take_130 rfl (lv_at hl 0 rfl) ?_
        refine ml_get (D := (dC, dI)) hx hb hts in_MC hown hK hP (0) (by decide) (mc_mod kc a mo) rfl 7 (by decide) (hts _ (mC _ wd_348)) (fun _ h9 => h9) (v := .ref (a 7)) rfl d_M_take_131 ?_
        refine lv_sipush (v := 512) hx hb d_M_take_134 (by decide) ?_
        refine lv_iload hx hb d_M_take_137 (lv_at hl 1 rfl) ?_
        refine lv_imul hx hb d_M_take_139 ?_
        refine lv_iload hx hb d_M_take_140 (lv_at hl 3 rfl) ?_
        refine lv_iadd hx hb d_M_take_142 ?_
        refine lv_iconst (v := 1) hx hb d_M_take_143 (by decide) ?_
        refine lv_iadd hx hb d_M_take_144 ?_
        refine ml_bald hx hb hK hP (7) 1 (by decide) (mc_queue kc a mo) rfl (md_tq1 hinv (by assumption) hj) d_M_take_145 ?_
        refine ml_bast hx hb hK hP hD hS (7) 1 (by decide) (mc_queue kc a mo) rfl (md_tq2 hinv (by assumption) hj) (f' := (mcell kc a (u2 mo 11 (((512 : Int32) * kx) + (nI j)).toNatClampNeg (vp_nar .byte (mo 11 ((((512 : Int32) * kx) + (nI j)) + (1 : Int32)).toNatClampNeg))))) (mw_queue kc a _ (((512 : Int32) * kx) + (nI j)).toNatClampNeg (vp_nar .byte (mo 11 ((((512 : Int32) * kx) + (nI j)) + (1 : Int32)).toNatClampNeg))) d_M_take_146 (fun H locs hP hD hS => ?_)
        refine lv_iinc (v := nI (j + 1)) (lv' := [(6, .int (nI (j + 1))), (0, .ref (a 0)), (4, .int kx), (5, .int bb)]) hx hb d_M_take_147 hl (k := 3) rfl (nI_1 j) (by decide) rfl (fun ls hl => ?_)
        refine lv_goto (tgt := 105) hx hb d_M_take_150 (by decide) ?_
        exact ih (j + 1) kx bb (u2 mo 11 (((512 : Int32) * kx) + (nI j)).toNatClampNeg (vp_nar .byte (mo 11 ((((512 : Int32) * kx) + (nI j)) + (1 : Int32)).toNatClampNeg))) _ _ ls (md_tadv hinv (by assumption) hj) (by omega) (md_tinv hinv) hres hP hD hS (lv_sub hl [1, 2, 3, 0] rfl)
  have hl := lv_entry ([.ref (a 0), .int pr, .int x]) (n := 7) (Nat.le_of_ble_eq_true rfl)
  rw [lg_entry_eq]
  generalize (lg_sl ([.ref (a 0), .int pr, .int x]) ++ List.replicate (7 - (lg_sl ([.ref (a 0), .int pr, .int x])).length) Slot.unset).toArray = ls at hl ⊢
  have hl : lv_has ls 7 [(0, .ref (a 0)), (1, .int pr), (2, .int x)] := hl
  rw [sp_M_take] at hres
  refine lv_aload_n hx hb d_M_take_0 rfl (lv_at hl 0 rfl) ?_
  refine lv_iconst (v := 0) hx hb d_M_take_1 (by decide) ?_
  refine ml_put (D := (dC, dI)) hx hb hts in_MC tyM tyM_ok nmM hown hK hP hD hS (0) (by decide) (mc_mod kc a mo) rfl 0 (by decide) (hts _ (mC _ wd_341)) (fun _ h9 => h9) rfl (ty := .int) (by decide +kernel) rfl rfl (Nat.le_of_ble_eq_true rfl) (f' := (mcell kc a (u2 mo 0 0 (0 : Int32)))) (mw_0 kc a _ (0 : Int32)) d_M_take_2 (fun H locs hP hD hS => ?_)
  refine lv_aload_n hx hb d_M_take_5 rfl (lv_at hl 0 rfl) ?_
  refine lv_iload_n hx hb d_M_take_6 rfl (lv_at hl 1 rfl) ?_
  refine lv_iload_n hx hb d_M_take_7 rfl (lv_at hl 2 rfl) ?_
  refine ml_calli (va_runV (As := [.int pr, .int x]) (rest := []) ⟨hx, hb, hml, hown, hts⟩ (c_M_file l dC dI kc a _ (u2 mo 0 0 (0 : Int32)) pr x _ rfl) (cwV 2 hts (gd_V mC wd_434 wd_436 ws_17 wd_6 wd_437) rfl rfl rfl hd_M_file ⟨Nat.le_of_ble_eq_true rfl, Nat.le_of_ble_eq_true rfl⟩) ⟨ml_blind, va_recv hK hP (ci := 5) rfl (ml_at (by decide) (mc_mod kc a (u2 mo 0 0 (0 : Int32)))), ml_pre hP hK hD⟩ rfl rfl hl.1 rfl (lv_room (Nat.le_of_ble_eq_true rfl)) d_M_take_8 ⟨Nat.zero_le _, Nat.zero_le _⟩) hD hS hA (fun H locs hP hD hS => ?_)
  refine lv_istore_n (lv' := [(3, .int (sp_M_file (u2 mo 0 0 (0 : Int32)) pr x)), (0, .ref (a 0)), (1, .int pr), (2, .int x)]) hx hb d_M_take_11 rfl hl (by decide) rfl (fun ls hl => ?_)
  refine lv_iload_n hx hb d_M_take_12 rfl (lv_at hl 0 rfl) ?_
  refine lv_if_lt (tgt := 36) hx hb d_M_take_13 (by decide) (fun h_2 => ?_) (fun h_2 => ?_)
  · rw [if_pos h_2] at hres
    refine lv_iconst (v := -1) hx hb d_M_take_36 (by decide) ?_
    obtain ⟨rfl, rfl⟩ := Prod.mk.inj hres
    exact ml_iret hx hb hr hlocks hP hK hD hS d_M_take_37
  · rw [if_neg h_2] at hres
    refine lv_aload_n hx hb d_M_take_16 rfl (lv_at hl 1 rfl) ?_
    refine ml_get (D := (dC, dI)) hx hb hts in_MC hown hK hP (0) (by decide) (mc_mod kc a (u2 mo 0 0 (0 : Int32))) rfl 2 (by decide) (hts _ (mC _ wd_343)) (fun _ h9 => h9) (v := .ref (a 2)) rfl d_M_take_17 ?_
    refine lv_iload_n hx hb d_M_take_20 rfl (lv_at hl 0 rfl) ?_
    refine ml_iald hx hb hK hP (2) 0 (by decide) (mc_kind kc a (u2 mo 0 0 (0 : Int32))) rfl (md_fk (MN_0 hM) (by first | assumption | exact md_nn (by assumption))) d_M_take_21 ?_
    refine lv_iconst (v := 1) hx hb d_M_take_22 (by decide) ?_
    refine lv_icmp_ne (tgt := 36) hx hb d_M_take_23 (by decide) (fun h_3 => ?_) (fun h_3 => ?_)
    · rw [if_neg h_3] at hres
      refine lv_iconst (v := -1) hx hb d_M_take_36 (by decide) ?_
      obtain ⟨rfl, rfl⟩ := Prod.mk.inj hres
      exact ml_iret hx hb hr hlocks hP hK hD hS d_M_take_37
    · rw [if_pos h_3] at hres
      refine lv_aload_n hx hb d_M_take_26 rfl (lv_at hl 1 rfl) ?_
      refine ml_get (D := (dC, dI)) hx hb hts in_MC hown hK hP (0) (by decide) (mc_mod kc a (u2 mo 0 0 (0 : Int32))) rfl 4 (by decide) (hts _ (mC _ wd_345)) (fun _ h9 => h9) (v := .ref (a 4)) rfl d_M_take_27 ?_
      refine lv_iload_n hx hb d_M_take_30 rfl (lv_at hl 0 rfl) ?_
      refine ml_iald hx hb hK hP (4) 0 (by decide) (mc_how kc a (u2 mo 0 0 (0 : Int32))) rfl (md_fk (MN_0 hM) (by first | assumption | exact md_nn (by assumption))) d_M_take_31 ?_
      refine lv_iconst (v := 1) hx hb d_M_take_32 (by decide) ?_
      refine lv_icmp_eq (tgt := 38) hx hb d_M_take_33 (by decide) (fun h_4 => ?_) (fun h_4 => ?_)
      · rw [if_pos h_4] at hres
        refine lv_aload_n hx hb d_M_take_38 rfl (lv_at hl 1 rfl) ?_
        refine ml_get (D := (dC, dI)) hx hb hts in_MC hown hK hP (0) (by decide) (mc_mod kc a (u2 mo 0 0 (0 : Int32))) rfl 3 (by decide) (hts _ (mC _ wd_344)) (fun _ h9 => h9) (v := .ref (a 3)) rfl d_M_take_39 ?_
        refine lv_iload_n hx hb d_M_take_42 rfl (lv_at hl 0 rfl) ?_
        refine ml_iald hx hb hK hP (3) 0 (by decide) (mc_what kc a (u2 mo 0 0 (0 : Int32))) rfl (md_fk (MN_0 hM) (by first | assumption | exact md_nn (by assumption))) d_M_take_43 ?_
        refine lv_istore (lv' := [(4, .int ((u2 mo 0 0 (0 : Int32)) 7 (sp_M_file (u2 mo 0 0 (0 : Int32)) pr x).toNatClampNeg)), (3, .int (sp_M_file (u2 mo 0 0 (0 : Int32)) pr x)), (0, .ref (a 0)), (1, .int pr), (2, .int x)]) hx hb d_M_take_44 hl (by decide) rfl (fun ls hl => ?_)
        refine lv_aload_n hx hb d_M_take_46 rfl (lv_at hl 2 rfl) ?_
        refine ml_get (D := (dC, dI)) hx hb hts in_MC hown hK hP (0) (by decide) (mc_mod kc a (u2 mo 0 0 (0 : Int32))) rfl 6 (by decide) (hts _ (mC _ wd_347)) (fun _ h9 => h9) (v := .ref (a 6)) rfl d_M_take_47 ?_
        refine lv_iload hx hb d_M_take_50 (lv_at hl 0 rfl) ?_
        refine ml_iald hx hb hK hP (6) 0 (by decide) (mc_many kc a (u2 mo 0 0 (0 : Int32))) rfl (md_pk hW (by assumption) (by assumption)) d_M_take_52 ?_
        refine lv_if_ne (tgt := 74) hx hb d_M_take_53 (by decide) (fun h_5 => ?_) (fun h_5 => ?_)
        · rw [if_neg h_5] at hres
          refine lv_aload_n hx hb d_M_take_74 rfl (lv_at hl 2 rfl) ?_
          refine ml_get (D := (dC, dI)) hx hb hts in_MC hown hK hP (0) (by decide) (mc_mod kc a (u2 mo 0 0 (0 : Int32))) rfl 7 (by decide) (hts _ (mC _ wd_348)) (fun _ h9 => h9) (v := .ref (a 7)) rfl d_M_take_75 ?_
          refine lv_sipush (v := 512) hx hb d_M_take_78 (by decide) ?_
          refine lv_iload hx hb d_M_take_81 (lv_at hl 0 rfl) ?_
          refine lv_imul hx hb d_M_take_83 ?_
          refine ml_bald hx hb hK hP (7) 1 (by decide) (mc_queue kc a (u2 mo 0 0 (0 : Int32))) rfl (md_tq0 hW (by assumption) (by assumption)) d_M_take_84 ?_
          refine lv_sipush (v := 255) hx hb d_M_take_85 (by decide) ?_
          refine lv_iand hx hb d_M_take_88 ?_
          refine lv_istore (lv' := [(5, .int (((u2 mo 0 0 (0 : Int32)) 11 ((512 : Int32) * ((u2 mo 0 0 (0 : Int32)) 7 (sp_M_file (u2 mo 0 0 (0 : Int32)) pr x).toNatClampNeg)).toNatClampNeg) &&& (255 : Int32))), (4, .int ((u2 mo 0 0 (0 : Int32)) 7 (sp_M_file (u2 mo 0 0 (0 : Int32)) pr x).toNatClampNeg)), (3, .int (sp_M_file (u2 mo 0 0 (0 : Int32)) pr x)), (0, .ref (a 0)), (1, .int pr), (2, .int x)]) hx hb d_M_take_89 hl (by decide) rfl (fun ls hl => ?_)
          refine lv_aload_n hx hb d_M_take_91 rfl (lv_at hl 3 rfl) ?_
          refine ml_get (D := (dC, dI)) hx hb hts in_MC hown hK hP (0) (by decide) (mc_mod kc a (u2 mo 0 0 (0 : Int32))) rfl 6 (by decide) (hts _ (mC _ wd_347)) (fun _ h9 => h9) (v := .ref (a 6)) rfl d_M_take_92 ?_
          refine lv_iload hx hb d_M_take_95 (lv_at hl 1 rfl) ?_
          refine lv_dup2_11 hx hb d_M_take_97 rfl rfl ?_
          refine ml_iald hx hb hK hP (6) 0 (by decide) (mc_many kc a (u2 mo 0 0 (0 : Int32))) rfl (md_pk hW (by assumption) (by assumption)) d_M_take_98 ?_
          refine lv_iconst (v := 1) hx hb d_M_take_99 (by decide) ?_
          refine lv_isub hx hb d_M_take_100 ?_
          refine ml_iast hx hb hK hP hD hS (6) 0 (by decide) (mc_many kc a (u2 mo 0 0 (0 : Int32))) rfl (md_pk hW (by assumption) (by assumption)) (f' := (mcell kc a (u2 (u2 mo 0 0 (0 : Int32)) 10 ((u2 mo 0 0 (0 : Int32)) 7 (sp_M_file (u2 mo 0 0 (0 : Int32)) pr x).toNatClampNeg).toNatClampNeg (((u2 mo 0 0 (0 : Int32)) 10 ((u2 mo 0 0 (0 : Int32)) 7 (sp_M_file (u2 mo 0 0 (0 : Int32)) pr x).toNatClampNeg).toNatClampNeg) - (1 : Int32))))) (mw_many kc a _ ((u2 mo 0 0 (0 : Int32)) 7 (sp_M_file (u2 mo 0 0 (0 : Int32)) pr x).toNatClampNeg).toNatClampNeg (((u2 mo 0 0 (0 : Int32)) 10 ((u2 mo 0 0 (0 : Int32)) 7 (sp_M_file (u2 mo 0 0 (0 : Int32)) pr x).toNatClampNeg).toNatClampNeg) - (1 : Int32))) d_M_take_101 (fun H locs hP hD hS => ?_)
          refine lv_iconst (v := 0) hx hb d_M_take_102 (by decide) ?_
          refine lv_istore (lv' := [(6, .int (0 : Int32)), (5, .int (((u2 mo 0 0 (0 : Int32)) 11 ((512 : Int32) * ((u2 mo 0 0 (0 : Int32)) 7 (sp_M_file (u2 mo 0 0 (0 : Int32)) pr x).toNatClampNeg)).toNatClampNeg) &&& (255 : Int32))), (4, .int ((u2 mo 0 0 (0 : Int32)) 7 (sp_M_file (u2 mo 0 0 (0 : Int32)) pr x).toNatClampNeg)), (3, .int (sp_M_file (u2 mo 0 0 (0 : Int32)) pr x)), (0, .ref (a 0)), (1, .int pr), (2, .int x)]) hx hb d_M_take_103 hl (by decide) rfl (fun ls hl => ?_)
          exact loop _ 0 ((u2 mo 0 0 (0 : Int32)) 7 (sp_M_file (u2 mo 0 0 (0 : Int32)) pr x).toNatClampNeg) (((u2 mo 0 0 (0 : Int32)) 11 ((512 : Int32) * ((u2 mo 0 0 (0 : Int32)) 7 (sp_M_file (u2 mo 0 0 (0 : Int32)) pr x).toNatClampNeg)).toNatClampNeg) &&& (255 : Int32)) (u2 (u2 mo 0 0 (0 : Int32)) 10 ((u2 mo 0 0 (0 : Int32)) 7 (sp_M_file (u2 mo 0 0 (0 : Int32)) pr x).toNatClampNeg).toNatClampNeg (((u2 mo 0 0 (0 : Int32)) 10 ((u2 mo 0 0 (0 : Int32)) 7 (sp_M_file (u2 mo 0 0 (0 : Int32)) pr x).toNatClampNeg).toNatClampNeg) - (1 : Int32))) _ _ ls (Nat.zero_le _) (by omega) (md_tin0 hW (by assumption) (by assumption) (by assumption)) hres hP hD hS (lv_sub hl [4, 2, 1, 0] rfl)
        · rw [if_pos h_5] at hres
          refine lv_aload_n hx hb d_M_take_56 rfl (lv_at hl 2 rfl) ?_
          refine lv_iload hx hb d_M_take_57 (lv_at hl 0 rfl) ?_
          refine lv_iconst (v := 2) hx hb d_M_take_59 (by decide) ?_
          refine ml_calli (va_runV (As := [.int ((u2 mo 0 0 (0 : Int32)) 7 (sp_M_file (u2 mo 0 0 (0 : Int32)) pr x).toNatClampNeg), .int (2 : Int32)]) (rest := []) ⟨hx, hb, hml, hown, hts⟩ (c_M_end l dC dI kc a _ (u2 mo 0 0 (0 : Int32)) ((u2 mo 0 0 (0 : Int32)) 7 (sp_M_file (u2 mo 0 0 (0 : Int32)) pr x).toNatClampNeg) (2 : Int32) _ rfl) (cwV 2 hts (gd_V mC wd_422 wd_424 ws_15 wd_6 wd_425) rfl rfl rfl hd_M_end ⟨Nat.le_of_ble_eq_true rfl, Nat.le_of_ble_eq_true rfl⟩) ⟨ml_blind, va_recv hK hP (ci := 5) rfl (ml_at (by decide) (mc_mod kc a (u2 mo 0 0 (0 : Int32)))), ml_pre hP hK hD⟩ rfl rfl hl.1 rfl (lv_room (Nat.le_of_ble_eq_true rfl)) d_M_take_60 ⟨Nat.zero_le _, Nat.zero_le _⟩) hD hS hA (fun H locs hP hD hS => ?_)
          refine lv_if_ge (tgt := 71) hx hb d_M_take_63 (by decide) (fun h_6 => ?_) (fun h_6 => ?_)
          · rw [if_pos h_6] at hres
            refine lv_bipush (v := -3) hx hb d_M_take_71 (by decide) ?_
            obtain ⟨rfl, rfl⟩ := Prod.mk.inj hres
            exact ml_iret hx hb hr hlocks hP hK hD hS d_M_take_73
          · rw [if_neg h_6] at hres
            refine lv_bipush (v := -4) hx hb d_M_take_66 (by decide) ?_
            refine lv_goto (tgt := 73) hx hb d_M_take_68 (by decide) ?_
            obtain ⟨rfl, rfl⟩ := Prod.mk.inj hres
            exact ml_iret hx hb hr hlocks hP hK hD hS d_M_take_73
      · rw [if_neg h_4] at hres
        refine lv_iconst (v := -1) hx hb d_M_take_36 (by decide) ?_
        obtain ⟨rfl, rfl⟩ := Prod.mk.inj hres
        exact ml_iret hx hb hr hlocks hP hK hD hS d_M_take_37
def sp_M_ends (mo : MK) (kx : Int32) (wh : Int32) : Int32 × MK :=
  (if kx < (0 : Int32) then ((-1 : Int32), u2 mo 0 0 (0 : Int32)) else (if (7 : Int32) < kx then ((-1 : Int32), u2 mo 0 0 (0 : Int32)) else (if (sp_M_isPipe (u2 mo 0 0 (0 : Int32)) kx) = (0 : Int32) then ((-1 : Int32), u2 mo 0 0 (0 : Int32)) else (if wh < (0 : Int32) then ((-1 : Int32), u2 mo 0 0 (0 : Int32)) else (if wh ≤ (2 : Int32) then (if wh = (0 : Int32) then ((u2 mo 0 0 (0 : Int32)) 10 kx.toNatClampNeg, u2 mo 0 0 (0 : Int32)) else (if (sp_M_end (u2 mo 0 0 (0 : Int32)) kx wh) < (0 : Int32) then ((0 : Int32), u2 mo 0 0 (0 : Int32)) else ((1 : Int32), u2 mo 0 0 (0 : Int32)))) else ((-1 : Int32), u2 mo 0 0 (0 : Int32)))))))
abbrev rm_M_ends : Room := { frames := 3, cells := 0, slots := 0, locals := 68 }
set_option maxHeartbeats 4000000 in
set_option maxRecDepth 100000 in
theorem c_M_ends (l : Launch) (dC : Nat → ClassId) (dI : Nat → Nat → Nat) (kc : Nat → ClassId) (a : Nat → Nat) (sz : Nat) (mo : MK) (kx : Int32) (wh : Int32) (R' : Int32) (mo' : MK) (hres : sp_M_ends mo kx wh = (R', mo')) : Met l y_M_ends ws_M_ends rm_M_ends (va_Pc [.ref (a 0), .int kx, .int wh] (ml_B (dC, dI) vwCl (tysD kc) 11 a (mcell kc a mo) sz)) (va_Qi (fun r (_ : Unit) => r = R') (fun _ t => ml_E (dC, dI) vwCl (tysD kc) 11 a (mcell kc a mo') (va_A (ml 11 a (mcell kc a mo)) sz) t) (va_A (ml 11 a (mcell kc a mo)) sz)) 0 0 (va_A (ml 11 a (mcell kc a mo)) sz) := by
  refine Met.ofW (cc := prog_7_method_25_code) (maxL := 3) (ret := (some .int)) (by decide) rfl ?_
  intro p e s m args below meth c s₁ B hml hv
  obtain ⟨rfl, hsz, hP, hK, hD0⟩ := hv
  have hx := B.exec
  have hb := B.bytes
  have hr := B.returns
  have hts := atoms_spec (ws := ws_M_ends) B.pre
  have hown : s.vm.findClass "HandleDeskModel" = some m.cls := findClass_of_methodNamed B.named
  have hlocks := B.notSynchronized
  subst hsz
  have hD := hD0.self (sz := s.heap.size)
  generalize hAe : va_A (ml 11 a (mcell kc a mo)) s.heap.size = A at hD ⊢
  have hA : ∀ q : Nat, s.heap.size ≤ q → A q := fun q h => by rw [← hAe]; exact Or.inr h
  have hS : va_S A s.heap s.heap [] := va_S.rf
  have hl := lv_entry ([.ref (a 0), .int kx, .int wh]) (n := 3) (Nat.le_of_ble_eq_true rfl)
  rw [lg_entry_eq]
  generalize (lg_sl ([.ref (a 0), .int kx, .int wh]) ++ List.replicate (3 - (lg_sl ([.ref (a 0), .int kx, .int wh])).length) Slot.unset).toArray = ls at hl ⊢
  have hl : lv_has ls 3 [(0, .ref (a 0)), (1, .int kx), (2, .int wh)] := hl
  rw [sp_M_ends] at hres
  refine lv_aload_n hx hb d_M_ends_0 rfl (lv_at hl 0 rfl) ?_
  refine lv_iconst (v := 0) hx hb d_M_ends_1 (by decide) ?_
  refine ml_put (D := (dC, dI)) hx hb hts in_MC tyM tyM_ok nmM hown hK hP hD hS (0) (by decide) (mc_mod kc a mo) rfl 0 (by decide) (hts _ (mC _ wd_341)) (fun _ h9 => h9) rfl (ty := .int) (by decide +kernel) rfl rfl (Nat.le_of_ble_eq_true rfl) (f' := (mcell kc a (u2 mo 0 0 (0 : Int32)))) (mw_0 kc a _ (0 : Int32)) d_M_ends_2 (fun H locs hP hD hS => ?_)
  refine lv_iload_n hx hb d_M_ends_5 rfl (lv_at hl 1 rfl) ?_
  refine lv_if_lt (tgt := 32) hx hb d_M_ends_6 (by decide) (fun h_1 => ?_) (fun h_1 => ?_)
  · rw [if_pos h_1] at hres
    refine lv_iconst (v := -1) hx hb d_M_ends_32 (by decide) ?_
    obtain ⟨rfl, rfl⟩ := Prod.mk.inj hres
    exact ml_iret hx hb hr hlocks hP hK hD hS d_M_ends_33
  · rw [if_neg h_1] at hres
    refine lv_iload_n hx hb d_M_ends_9 rfl (lv_at hl 1 rfl) ?_
    refine lv_bipush (v := 7) hx hb d_M_ends_10 (by decide) ?_
    refine lv_icmp_gt (tgt := 32) hx hb d_M_ends_12 (by decide) (fun h_2 => ?_) (fun h_2 => ?_)
    · rw [if_pos h_2] at hres
      refine lv_iconst (v := -1) hx hb d_M_ends_32 (by decide) ?_
      obtain ⟨rfl, rfl⟩ := Prod.mk.inj hres
      exact ml_iret hx hb hr hlocks hP hK hD hS d_M_ends_33
    · rw [if_neg h_2] at hres
      refine lv_aload_n hx hb d_M_ends_15 rfl (lv_at hl 0 rfl) ?_
      refine lv_iload_n hx hb d_M_ends_16 rfl (lv_at hl 1 rfl) ?_
      refine ml_calli (va_runV (As := [.int kx]) (rest := []) ⟨hx, hb, hml, hown, hts⟩ (c_M_isPipe l dC dI kc a _ (u2 mo 0 0 (0 : Int32)) kx _ rfl) (cwV 1 hts (gd_V mC wd_418 wd_420 ws_14 wd_6 wd_421) rfl rfl rfl hd_M_isPipe ⟨Nat.le_of_ble_eq_true rfl, Nat.le_of_ble_eq_true rfl⟩) ⟨ml_blind, va_recv hK hP (ci := 5) rfl (ml_at (by decide) (mc_mod kc a (u2 mo 0 0 (0 : Int32)))), ml_pre hP hK hD⟩ rfl rfl hl.1 rfl (lv_room (Nat.le_of_ble_eq_true rfl)) d_M_ends_17 ⟨Nat.zero_le _, Nat.zero_le _⟩) hD hS hA (fun H locs hP hD hS => ?_)
      refine lv_if_eq (tgt := 32) hx hb d_M_ends_20 (by decide) (fun h_3 => ?_) (fun h_3 => ?_)
      · rw [if_pos h_3] at hres
        refine lv_iconst (v := -1) hx hb d_M_ends_32 (by decide) ?_
        obtain ⟨rfl, rfl⟩ := Prod.mk.inj hres
        exact ml_iret hx hb hr hlocks hP hK hD hS d_M_ends_33
      · rw [if_neg h_3] at hres
        refine lv_iload_n hx hb d_M_ends_23 rfl (lv_at hl 2 rfl) ?_
        refine lv_if_lt (tgt := 32) hx hb d_M_ends_24 (by decide) (fun h_4 => ?_) (fun h_4 => ?_)
        · rw [if_pos h_4] at hres
          refine lv_iconst (v := -1) hx hb d_M_ends_32 (by decide) ?_
          obtain ⟨rfl, rfl⟩ := Prod.mk.inj hres
          exact ml_iret hx hb hr hlocks hP hK hD hS d_M_ends_33
        · rw [if_neg h_4] at hres
          refine lv_iload_n hx hb d_M_ends_27 rfl (lv_at hl 2 rfl) ?_
          refine lv_iconst (v := 2) hx hb d_M_ends_28 (by decide) ?_
          refine lv_icmp_le (tgt := 34) hx hb d_M_ends_29 (by decide) (fun h_5 => ?_) (fun h_5 => ?_)
          · rw [if_pos h_5] at hres
            refine lv_iload_n hx hb d_M_ends_34 rfl (lv_at hl 2 rfl) ?_
            refine lv_if_ne (tgt := 47) hx hb d_M_ends_35 (by decide) (fun h_6 => ?_) (fun h_6 => ?_)
            · rw [if_neg h_6] at hres
              refine lv_aload_n hx hb d_M_ends_47 rfl (lv_at hl 0 rfl) ?_
              refine lv_iload_n hx hb d_M_ends_48 rfl (lv_at hl 1 rfl) ?_
              refine lv_iload_n hx hb d_M_ends_49 rfl (lv_at hl 2 rfl) ?_
              refine ml_calli (va_runV (As := [.int kx, .int wh]) (rest := []) ⟨hx, hb, hml, hown, hts⟩ (c_M_end l dC dI kc a _ (u2 mo 0 0 (0 : Int32)) kx wh _ rfl) (cwV 2 hts (gd_V mC wd_422 wd_424 ws_15 wd_6 wd_425) rfl rfl rfl hd_M_end ⟨Nat.le_of_ble_eq_true rfl, Nat.le_of_ble_eq_true rfl⟩) ⟨ml_blind, va_recv hK hP (ci := 5) rfl (ml_at (by decide) (mc_mod kc a (u2 mo 0 0 (0 : Int32)))), ml_pre hP hK hD⟩ rfl rfl hl.1 rfl (lv_room (Nat.le_of_ble_eq_true rfl)) d_M_ends_50 ⟨Nat.zero_le _, Nat.zero_le _⟩) hD hS hA (fun H locs hP hD hS => ?_)
              refine lv_if_lt (tgt := 60) hx hb d_M_ends_53 (by decide) (fun h_7 => ?_) (fun h_7 => ?_)
              · rw [if_pos h_7] at hres
                refine lv_iconst (v := 0) hx hb d_M_ends_60 (by decide) ?_
                obtain ⟨rfl, rfl⟩ := Prod.mk.inj hres
                exact ml_iret hx hb hr hlocks hP hK hD hS d_M_ends_61
              · rw [if_neg h_7] at hres
                refine lv_iconst (v := 1) hx hb d_M_ends_56 (by decide) ?_
                refine lv_goto (tgt := 61) hx hb d_M_ends_57 (by decide) ?_
                obtain ⟨rfl, rfl⟩ := Prod.mk.inj hres
                exact ml_iret hx hb hr hlocks hP hK hD hS d_M_ends_61
            · rw [if_pos h_6] at hres
              refine lv_aload_n hx hb d_M_ends_38 rfl (lv_at hl 0 rfl) ?_
              refine ml_get (D := (dC, dI)) hx hb hts in_MC hown hK hP (0) (by decide) (mc_mod kc a (u2 mo 0 0 (0 : Int32))) rfl 6 (by decide) (hts _ (mC _ wd_347)) (fun _ h9 => h9) (v := .ref (a 6)) rfl d_M_ends_39 ?_
              refine lv_iload_n hx hb d_M_ends_42 rfl (lv_at hl 1 rfl) ?_
              refine ml_iald hx hb hK hP (6) 0 (by decide) (mc_many kc a (u2 mo 0 0 (0 : Int32))) rfl (md_e8 (by assumption) (by assumption)) d_M_ends_43 ?_
              refine lv_goto (tgt := 61) hx hb d_M_ends_44 (by decide) ?_
              obtain ⟨rfl, rfl⟩ := Prod.mk.inj hres
              exact ml_iret hx hb hr hlocks hP hK hD hS d_M_ends_61
          · rw [if_neg h_5] at hres
            refine lv_iconst (v := -1) hx hb d_M_ends_32 (by decide) ?_
            obtain ⟨rfl, rfl⟩ := Prod.mk.inj hres
            exact ml_iret hx hb hr hlocks hP hK hD hS d_M_ends_33
