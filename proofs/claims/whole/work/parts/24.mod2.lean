def sp_M_open (mo : MK) (pr : Int32) (so : Int32) (ino : Int32) (wy : Int32) : Int32 × MK :=
  (if (sp_M_isPlace pr) = (0 : Int32) then ((-1 : Int32), u2 mo 0 0 (0 : Int32)) else (if so < (2 : Int32) then ((-1 : Int32), u2 mo 0 0 (0 : Int32)) else (if (3 : Int32) < so then ((-1 : Int32), u2 mo 0 0 (0 : Int32)) else (if wy < (1 : Int32) then ((-1 : Int32), u2 mo 0 0 (0 : Int32)) else (if (3 : Int32) < wy then ((-1 : Int32), u2 mo 0 0 (0 : Int32)) else (if (sp_M_vacant (u2 mo 0 0 (0 : Int32)) pr) = (16 : Int32) then ((-1 : Int32), u2 mo 0 0 (0 : Int32)) else (if (sp_M_files (u2 mo 0 0 (0 : Int32))) = (32 : Int32) then ((-1 : Int32), u2 mo 0 0 (0 : Int32)) else (if so = (2 : Int32) then ((sp_M_makes (u2 mo 0 0 (0 : Int32)) pr (sp_M_vacant (u2 mo 0 0 (0 : Int32)) pr) so ino wy).1, (sp_M_makes (u2 mo 0 0 (0 : Int32)) pr (sp_M_vacant (u2 mo 0 0 (0 : Int32)) pr) so ino wy).2) else ((sp_M_makes (u2 mo 0 0 (0 : Int32)) pr (sp_M_vacant (u2 mo 0 0 (0 : Int32)) pr) so (0 : Int32) wy).1, (sp_M_makes (u2 mo 0 0 (0 : Int32)) pr (sp_M_vacant (u2 mo 0 0 (0 : Int32)) pr) so (0 : Int32) wy).2)))))))))
abbrev rm_M_open : Room := { frames := 3, cells := 0, slots := 0, locals := 70 }
set_option maxHeartbeats 4000000 in
set_option maxRecDepth 100000 in
theorem c_M_open (l : Launch) (dC : Nat → ClassId) (dI : Nat → Nat → Nat) (kc : Nat → ClassId) (a : Nat → Nat) (sz : Nat) (mo : MK) (pr : Int32) (so : Int32) (ino : Int32) (wy : Int32) (R' : Int32) (mo' : MK) (hres : sp_M_open mo pr so ino wy = (R', mo')) : Met l y_M_open ws_M_open rm_M_open (va_Pc [.ref (a 0), .int pr, .int so, .int ino, .int wy] (ml_B (dC, dI) vwCl (tysD kc) 11 a (mcell kc a mo) sz)) (va_Qi (fun r (_ : Unit) => r = R') (fun _ t => ml_E (dC, dI) vwCl (tysD kc) 11 a (mcell kc a mo') (va_A (ml 11 a (mcell kc a mo)) sz) t) (va_A (ml 11 a (mcell kc a mo)) sz)) 0 0 (va_A (ml 11 a (mcell kc a mo)) sz) := by
  refine Met.ofW (cc := prog_7_method_13_code) (maxL := 5) (ret := (some .int)) (by decide) rfl ?_
  intro p e s m args below meth c s₁ B hml hv
  obtain ⟨rfl, hsz, hP, hK, hD0⟩ := hv
  have hx := B.exec
  have hb := B.bytes
  have hr := B.returns
  have hts := atoms_spec (ws := ws_M_open) B.pre
  have hown : s.vm.findClass "HandleDeskModel" = some m.cls := findClass_of_methodNamed B.named
  have hlocks := B.notSynchronized
  subst hsz
  have hD := hD0.self (sz := s.heap.size)
  generalize hAe : va_A (ml 11 a (mcell kc a mo)) s.heap.size = A at hD ⊢
  have hA : ∀ q : Nat, s.heap.size ≤ q → A q := fun q h => by rw [← hAe]; exact Or.inr h
  have hS : va_S A s.heap s.heap [] := va_S.rf
  have hl := lv_entry ([.ref (a 0), .int pr, .int so, .int ino, .int wy]) (n := 5) (Nat.le_of_ble_eq_true rfl)
  rw [lg_entry_eq]
  generalize (lg_sl ([.ref (a 0), .int pr, .int so, .int ino, .int wy]) ++ List.replicate (5 - (lg_sl ([.ref (a 0), .int pr, .int so, .int ino, .int wy])).length) Slot.unset).toArray = ls at hl ⊢
  have hl : lv_has ls 5 [(0, .ref (a 0)), (1, .int pr), (2, .int so), (3, .int ino), (4, .int wy)] := hl
  rw [sp_M_open] at hres
  refine lv_aload_n hx hb d_M_open_0 rfl (lv_at hl 0 rfl) ?_
  refine lv_iconst (v := 0) hx hb d_M_open_1 (by decide) ?_
  refine ml_put (D := (dC, dI)) hx hb hts in_MC tyM tyM_ok nmM hown hK hP hD hS (0) (by decide) (mc_mod kc a mo) rfl 0 (by decide) (hts _ (mC _ wd_341)) (fun _ h9 => h9) rfl (ty := .int) (by decide +kernel) rfl rfl (Nat.le_of_ble_eq_true rfl) (f' := (mcell kc a (u2 mo 0 0 (0 : Int32)))) (mw_0 kc a _ (0 : Int32)) d_M_open_2 (fun H locs hP hD hS => ?_)
  refine lv_iload_n hx hb d_M_open_5 rfl (lv_at hl 1 rfl) ?_
  refine ml_calli (va_runS (As := [.int pr]) (rest := []) ⟨hx, hb, hml, hown, hts⟩ (c_M_isPlace l dC dI kc a _ (u2 mo 0 0 (0 : Int32)) pr _ rfl) (cwS 1 hts (gd_S mC wd_391 wd_392 wd_6 wd_393) rfl rfl rfl hd_M_isPlace ⟨Nat.le_of_ble_eq_true rfl, Nat.le_of_ble_eq_true rfl⟩) ⟨ml_blind, ml_pre hP hK hD⟩ rfl rfl hl.1 rfl (lv_room (Nat.le_of_ble_eq_true rfl)) d_M_open_6 ⟨Nat.zero_le _, Nat.zero_le _⟩) hD hS hA (fun H locs hP hD hS => ?_)
  refine lv_if_eq (tgt := 53) hx hb d_M_open_9 (by decide) (fun h_1 => ?_) (fun h_1 => ?_)
  · rw [if_pos h_1] at hres
    refine lv_iconst (v := -1) hx hb d_M_open_53 (by decide) ?_
    obtain ⟨rfl, rfl⟩ := Prod.mk.inj hres
    exact ml_iret hx hb hr hlocks hP hK hD hS d_M_open_54
  · rw [if_neg h_1] at hres
    refine lv_iload_n hx hb d_M_open_12 rfl (lv_at hl 2 rfl) ?_
    refine lv_iconst (v := 2) hx hb d_M_open_13 (by decide) ?_
    refine lv_icmp_lt (tgt := 53) hx hb d_M_open_14 (by decide) (fun h_2 => ?_) (fun h_2 => ?_)
    · rw [if_pos h_2] at hres
      refine lv_iconst (v := -1) hx hb d_M_open_53 (by decide) ?_
      obtain ⟨rfl, rfl⟩ := Prod.mk.inj hres
      exact ml_iret hx hb hr hlocks hP hK hD hS d_M_open_54
    · rw [if_neg h_2] at hres
      refine lv_iload_n hx hb d_M_open_17 rfl (lv_at hl 2 rfl) ?_
      refine lv_iconst (v := 3) hx hb d_M_open_18 (by decide) ?_
      refine lv_icmp_gt (tgt := 53) hx hb d_M_open_19 (by decide) (fun h_3 => ?_) (fun h_3 => ?_)
      · rw [if_pos h_3] at hres
        refine lv_iconst (v := -1) hx hb d_M_open_53 (by decide) ?_
        obtain ⟨rfl, rfl⟩ := Prod.mk.inj hres
        exact ml_iret hx hb hr hlocks hP hK hD hS d_M_open_54
      · rw [if_neg h_3] at hres
        refine lv_iload hx hb d_M_open_22 (lv_at hl 4 rfl) ?_
        refine lv_iconst (v := 1) hx hb d_M_open_24 (by decide) ?_
        refine lv_icmp_lt (tgt := 53) hx hb d_M_open_25 (by decide) (fun h_4 => ?_) (fun h_4 => ?_)
        · rw [if_pos h_4] at hres
          refine lv_iconst (v := -1) hx hb d_M_open_53 (by decide) ?_
          obtain ⟨rfl, rfl⟩ := Prod.mk.inj hres
          exact ml_iret hx hb hr hlocks hP hK hD hS d_M_open_54
        · rw [if_neg h_4] at hres
          refine lv_iload hx hb d_M_open_28 (lv_at hl 4 rfl) ?_
          refine lv_iconst (v := 3) hx hb d_M_open_30 (by decide) ?_
          refine lv_icmp_gt (tgt := 53) hx hb d_M_open_31 (by decide) (fun h_5 => ?_) (fun h_5 => ?_)
          · rw [if_pos h_5] at hres
            refine lv_iconst (v := -1) hx hb d_M_open_53 (by decide) ?_
            obtain ⟨rfl, rfl⟩ := Prod.mk.inj hres
            exact ml_iret hx hb hr hlocks hP hK hD hS d_M_open_54
          · rw [if_neg h_5] at hres
            refine lv_aload_n hx hb d_M_open_34 rfl (lv_at hl 0 rfl) ?_
            refine lv_iload_n hx hb d_M_open_35 rfl (lv_at hl 1 rfl) ?_
            refine ml_calli (va_runV (As := [.int pr]) (rest := []) ⟨hx, hb, hml, hown, hts⟩ (c_M_vacant l dC dI kc a _ (u2 mo 0 0 (0 : Int32)) pr (by assumption) _ rfl) (cwV 1 hts (gd_V mC wd_394 wd_396 ws_9 wd_6 wd_397) rfl rfl rfl hd_M_vacant ⟨Nat.le_of_ble_eq_true rfl, Nat.le_of_ble_eq_true rfl⟩) ⟨ml_blind, va_recv hK hP (ci := 5) rfl (ml_at (by decide) (mc_mod kc a (u2 mo 0 0 (0 : Int32)))), ml_pre hP hK hD⟩ rfl rfl hl.1 rfl (lv_room (Nat.le_of_ble_eq_true rfl)) d_M_open_36 ⟨Nat.zero_le _, Nat.zero_le _⟩) hD hS hA (fun H locs hP hD hS => ?_)
            refine lv_bipush (v := 16) hx hb d_M_open_39 (by decide) ?_
            refine lv_icmp_eq (tgt := 53) hx hb d_M_open_41 (by decide) (fun h_6 => ?_) (fun h_6 => ?_)
            · rw [if_pos h_6] at hres
              refine lv_iconst (v := -1) hx hb d_M_open_53 (by decide) ?_
              obtain ⟨rfl, rfl⟩ := Prod.mk.inj hres
              exact ml_iret hx hb hr hlocks hP hK hD hS d_M_open_54
            · rw [if_neg h_6] at hres
              refine lv_aload_n hx hb d_M_open_44 rfl (lv_at hl 0 rfl) ?_
              refine ml_calli (va_runV (As := []) (rest := []) ⟨hx, hb, hml, hown, hts⟩ (c_M_files l dC dI kc a _ (u2 mo 0 0 (0 : Int32)) _ rfl) (cwV 0 hts (gd_V mC wd_398 wd_400 ws_10 wd_6 wd_401) rfl rfl rfl hd_M_files ⟨Nat.le_of_ble_eq_true rfl, Nat.le_of_ble_eq_true rfl⟩) ⟨ml_blind, va_recv hK hP (ci := 5) rfl (ml_at (by decide) (mc_mod kc a (u2 mo 0 0 (0 : Int32)))), ml_pre hP hK hD⟩ rfl rfl hl.1 rfl (lv_room (Nat.le_of_ble_eq_true rfl)) d_M_open_45 ⟨Nat.zero_le _, Nat.zero_le _⟩) hD hS hA (fun H locs hP hD hS => ?_)
              refine lv_bipush (v := 32) hx hb d_M_open_48 (by decide) ?_
              refine lv_icmp_ne (tgt := 55) hx hb d_M_open_50 (by decide) (fun h_7 => ?_) (fun h_7 => ?_)
              · rw [if_neg h_7] at hres
                refine lv_aload_n hx hb d_M_open_55 rfl (lv_at hl 0 rfl) ?_
                refine lv_iload_n hx hb d_M_open_56 rfl (lv_at hl 1 rfl) ?_
                refine lv_aload_n hx hb d_M_open_57 rfl (lv_at hl 0 rfl) ?_
                refine lv_iload_n hx hb d_M_open_58 rfl (lv_at hl 1 rfl) ?_
                refine ml_calli (va_runV (As := [.int pr]) (rest := [.int pr, .ref (a 0)]) ⟨hx, hb, hml, hown, hts⟩ (c_M_vacant l dC dI kc a _ (u2 mo 0 0 (0 : Int32)) pr (by assumption) _ rfl) (cwV 1 hts (gd_V mC wd_394 wd_396 ws_9 wd_6 wd_397) rfl rfl rfl hd_M_vacant ⟨Nat.le_of_ble_eq_true rfl, Nat.le_of_ble_eq_true rfl⟩) ⟨ml_blind, va_recv hK hP (ci := 5) rfl (ml_at (by decide) (mc_mod kc a (u2 mo 0 0 (0 : Int32)))), ml_pre hP hK hD⟩ rfl rfl hl.1 rfl (lv_room (Nat.le_of_ble_eq_true rfl)) d_M_open_59 ⟨Nat.zero_le _, Nat.zero_le _⟩) hD hS hA (fun H locs hP hD hS => ?_)
                refine lv_iload_n hx hb d_M_open_62 rfl (lv_at hl 2 rfl) ?_
                refine lv_iload_n hx hb d_M_open_63 rfl (lv_at hl 2 rfl) ?_
                refine lv_iconst (v := 2) hx hb d_M_open_64 (by decide) ?_
                refine lv_icmp_ne (tgt := 72) hx hb d_M_open_65 (by decide) (fun h_8 => ?_) (fun h_8 => ?_)
                · rw [if_neg h_8] at hres
                  refine lv_iconst (v := 0) hx hb d_M_open_72 (by decide) ?_
                  refine lv_iload hx hb d_M_open_73 (lv_at hl 4 rfl) ?_
                  refine ml_calli (va_runV (As := [.int pr, .int (sp_M_vacant (u2 mo 0 0 (0 : Int32)) pr), .int so, .int (0 : Int32), .int wy]) (rest := []) ⟨hx, hb, hml, hown, hts⟩ (c_M_makes l dC dI kc a _ (u2 mo 0 0 (0 : Int32)) pr (sp_M_vacant (u2 mo 0 0 (0 : Int32)) pr) so (0 : Int32) wy (md_vac (by assumption) (by assumption)) (md_ff (by assumption)) (sp_M_makes (u2 mo 0 0 (0 : Int32)) pr (sp_M_vacant (u2 mo 0 0 (0 : Int32)) pr) so (0 : Int32) wy).1 (sp_M_makes (u2 mo 0 0 (0 : Int32)) pr (sp_M_vacant (u2 mo 0 0 (0 : Int32)) pr) so (0 : Int32) wy).2 (pe _)) (cwV 5 hts (gd_V mC wd_406 wd_408 ws_12 wd_6 wd_409) rfl rfl rfl hd_M_makes ⟨Nat.le_of_ble_eq_true rfl, Nat.le_of_ble_eq_true rfl⟩) ⟨ml_blind, va_recv hK hP (ci := 5) rfl (ml_at (by decide) (mc_mod kc a (u2 mo 0 0 (0 : Int32)))), ml_pre hP hK hD⟩ rfl rfl hl.1 rfl (lv_room (Nat.le_of_ble_eq_true rfl)) d_M_open_75 ⟨Nat.zero_le _, Nat.zero_le _⟩) hD hS hA (fun H locs hP hD hS => ?_)
                  obtain ⟨rfl, rfl⟩ := Prod.mk.inj hres
                  exact ml_iret hx hb hr hlocks hP hK hD hS d_M_open_78
                · rw [if_pos h_8] at hres
                  refine lv_iload_n hx hb d_M_open_68 rfl (lv_at hl 3 rfl) ?_
                  refine lv_goto (tgt := 73) hx hb d_M_open_69 (by decide) ?_
                  refine lv_iload hx hb d_M_open_73 (lv_at hl 4 rfl) ?_
                  refine ml_calli (va_runV (As := [.int pr, .int (sp_M_vacant (u2 mo 0 0 (0 : Int32)) pr), .int so, .int ino, .int wy]) (rest := []) ⟨hx, hb, hml, hown, hts⟩ (c_M_makes l dC dI kc a _ (u2 mo 0 0 (0 : Int32)) pr (sp_M_vacant (u2 mo 0 0 (0 : Int32)) pr) so ino wy (md_vac (by assumption) (by assumption)) (md_ff (by assumption)) (sp_M_makes (u2 mo 0 0 (0 : Int32)) pr (sp_M_vacant (u2 mo 0 0 (0 : Int32)) pr) so ino wy).1 (sp_M_makes (u2 mo 0 0 (0 : Int32)) pr (sp_M_vacant (u2 mo 0 0 (0 : Int32)) pr) so ino wy).2 (pe _)) (cwV 5 hts (gd_V mC wd_406 wd_408 ws_12 wd_6 wd_409) rfl rfl rfl hd_M_makes ⟨Nat.le_of_ble_eq_true rfl, Nat.le_of_ble_eq_true rfl⟩) ⟨ml_blind, va_recv hK hP (ci := 5) rfl (ml_at (by decide) (mc_mod kc a (u2 mo 0 0 (0 : Int32)))), ml_pre hP hK hD⟩ rfl rfl hl.1 rfl (lv_room (Nat.le_of_ble_eq_true rfl)) d_M_open_75 ⟨Nat.zero_le _, Nat.zero_le _⟩) hD hS hA (fun H locs hP hD hS => ?_)
                  obtain ⟨rfl, rfl⟩ := Prod.mk.inj hres
                  exact ml_iret hx hb hr hlocks hP hK hD hS d_M_open_78
              · rw [if_pos h_7] at hres
                refine lv_iconst (v := -1) hx hb d_M_open_53 (by decide) ?_
                obtain ⟨rfl, rfl⟩ := Prod.mk.inj hres
                exact ml_iret hx hb hr hlocks hP hK hD hS d_M_open_54
def lp_M_pipe (pr : Int32) : Nat → Nat → MK → Int32 × MK
  | 0, _, mo => (0, mo)
  | n + 1, j, mo =>
    (if (8 : Int32) ≤ (nI j) then (if (sp_M_isPlace pr) = (0 : Int32) then ((-1 : Int32), mo) else (if (14 : Int32) < (sp_M_used mo pr) then ((-1 : Int32), mo) else (if (30 : Int32) < (sp_M_files mo) then ((-1 : Int32), mo) else (if nI j = (8 : Int32) then ((-1 : Int32), mo) else (((sp_M_makes (u2 mo 10 (nI j).toNatClampNeg (0 : Int32)) pr (sp_M_vacant (u2 mo 10 (nI j).toNatClampNeg (0 : Int32)) pr) (1 : Int32) (nI j) (1 : Int32)).1) + ((16 : Int32) * ((sp_M_makes ((sp_M_makes (u2 mo 10 (nI j).toNatClampNeg (0 : Int32)) pr (sp_M_vacant (u2 mo 10 (nI j).toNatClampNeg (0 : Int32)) pr) (1 : Int32) (nI j) (1 : Int32)).2) pr (sp_M_vacant ((sp_M_makes (u2 mo 10 (nI j).toNatClampNeg (0 : Int32)) pr (sp_M_vacant (u2 mo 10 (nI j).toNatClampNeg (0 : Int32)) pr) (1 : Int32) (nI j) (1 : Int32)).2) pr) (1 : Int32) (nI j) (2 : Int32)).1)), (sp_M_makes ((sp_M_makes (u2 mo 10 (nI j).toNatClampNeg (0 : Int32)) pr (sp_M_vacant (u2 mo 10 (nI j).toNatClampNeg (0 : Int32)) pr) (1 : Int32) (nI j) (1 : Int32)).2) pr (sp_M_vacant ((sp_M_makes (u2 mo 10 (nI j).toNatClampNeg (0 : Int32)) pr (sp_M_vacant (u2 mo 10 (nI j).toNatClampNeg (0 : Int32)) pr) (1 : Int32) (nI j) (1 : Int32)).2) pr) (1 : Int32) (nI j) (2 : Int32)).2))))) else (if (sp_M_isPipe mo (nI j)) = (0 : Int32) then (if (sp_M_isPlace pr) = (0 : Int32) then ((-1 : Int32), mo) else (if (14 : Int32) < (sp_M_used mo pr) then ((-1 : Int32), mo) else (if (30 : Int32) < (sp_M_files mo) then ((-1 : Int32), mo) else (if nI j = (8 : Int32) then ((-1 : Int32), mo) else (((sp_M_makes (u2 mo 10 (nI j).toNatClampNeg (0 : Int32)) pr (sp_M_vacant (u2 mo 10 (nI j).toNatClampNeg (0 : Int32)) pr) (1 : Int32) (nI j) (1 : Int32)).1) + ((16 : Int32) * ((sp_M_makes ((sp_M_makes (u2 mo 10 (nI j).toNatClampNeg (0 : Int32)) pr (sp_M_vacant (u2 mo 10 (nI j).toNatClampNeg (0 : Int32)) pr) (1 : Int32) (nI j) (1 : Int32)).2) pr (sp_M_vacant ((sp_M_makes (u2 mo 10 (nI j).toNatClampNeg (0 : Int32)) pr (sp_M_vacant (u2 mo 10 (nI j).toNatClampNeg (0 : Int32)) pr) (1 : Int32) (nI j) (1 : Int32)).2) pr) (1 : Int32) (nI j) (2 : Int32)).1)), (sp_M_makes ((sp_M_makes (u2 mo 10 (nI j).toNatClampNeg (0 : Int32)) pr (sp_M_vacant (u2 mo 10 (nI j).toNatClampNeg (0 : Int32)) pr) (1 : Int32) (nI j) (1 : Int32)).2) pr (sp_M_vacant ((sp_M_makes (u2 mo 10 (nI j).toNatClampNeg (0 : Int32)) pr (sp_M_vacant (u2 mo 10 (nI j).toNatClampNeg (0 : Int32)) pr) (1 : Int32) (nI j) (1 : Int32)).2) pr) (1 : Int32) (nI j) (2 : Int32)).2))))) else (lp_M_pipe pr n (j + 1) mo)))
def sp_M_pipe (mo : MK) (pr : Int32) : Int32 × MK :=
  (lp_M_pipe pr (8 + 1) 0 (u2 mo 0 0 (0 : Int32)))
abbrev rm_M_pipe : Room := { frames := 3, cells := 0, slots := 0, locals := 70 }
set_option maxHeartbeats 4000000 in
set_option maxRecDepth 100000 in
theorem c_M_pipe (l : Launch) (dC : Nat → ClassId) (dI : Nat → Nat → Nat) (kc : Nat → ClassId) (a : Nat → Nat) (sz : Nat) (mo : MK) (pr : Int32) (R' : Int32) (mo' : MK) (hres : sp_M_pipe mo pr = (R', mo')) : Met l y_M_pipe ws_M_pipe rm_M_pipe (va_Pc [.ref (a 0), .int pr] (ml_B (dC, dI) vwCl (tysD kc) 11 a (mcell kc a mo) sz)) (va_Qi (fun r (_ : Unit) => r = R') (fun _ t => ml_E (dC, dI) vwCl (tysD kc) 11 a (mcell kc a mo') (va_A (ml 11 a (mcell kc a mo)) sz) t) (va_A (ml 11 a (mcell kc a mo)) sz)) 0 0 (va_A (ml 11 a (mcell kc a mo)) sz) := by
  refine Met.ofW (cc := prog_7_method_14_code) (maxL := 5) (ret := (some .int)) (by decide) rfl ?_
  intro p e s m args below meth c s₁ B hml hv
  obtain ⟨rfl, hsz, hP, hK, hD0⟩ := hv
  have hx := B.exec
  have hb := B.bytes
  have hr := B.returns
  have hts := atoms_spec (ws := ws_M_pipe) B.pre
  have hown : s.vm.findClass "HandleDeskModel" = some m.cls := findClass_of_methodNamed B.named
  have hlocks := B.notSynchronized
  subst hsz
  have hD := hD0.self (sz := s.heap.size)
  generalize hAe : va_A (ml 11 a (mcell kc a mo)) s.heap.size = A at hD ⊢
  have hA : ∀ q : Nat, s.heap.size ≤ q → A q := fun q h => by rw [← hAe]; exact Or.inr h
  have hS : va_S A s.heap s.heap [] := va_S.rf
  have loop : ∀ (n j : Nat) (mo : MK) (H : Heap) (locs : List Loc) (ls : Array Slot), j ≤ 8 → j + n = 8 + 1 → lp_M_pipe pr n j mo = (R', mo') → va_P (dC, dI) vwCl (ml 11 a (mcell kc a mo)) H → va_D A (ml 11 a (mcell kc a mo)) → va_S A s.heap H locs → lv_has ls 5 [(0, .ref (a 0)), (1, .int pr), (2, .int (nI j))] → W p l e rm_M_pipe s m ([.ref (a 0), .int pr] : List Value).toArray below meth c H locs 0 0 (MQ below (va_Qi (fun r (_ : Unit) => r = R') (fun _ t => ml_E (dC, dI) vwCl (tysD kc) 11 a (mcell kc a mo') A t) A) ([.ref (a 0), .int pr] : List Value).toArray s 0 0 A) (F0 m 7 ls []) := by
    intro n
    induction n with
    | zero =>
      intro j mo H locs ls hj hn
      exact absurd hn (by omega)
    | succ n ih =>
      intro j mo H locs ls hj hn  hres hP hD hS hl
      rw [lp_M_pipe] at hres
      refine lv_iload_n hx hb d_M_pipe_7 rfl (lv_at hl 2 rfl) ?_
      refine lv_bipush (v := 8) hx hb d_M_pipe_8 (by decide) ?_
      refine lv_icmp_ge (tgt := 27) hx hb d_M_pipe_10 (by decide) (fun h_1 => ?_) (fun h_1 => ?_)
      · rw [if_pos h_1] at hres
        refine lv_iload_n hx hb d_M_pipe_27 rfl (lv_at hl 1 rfl) ?_
        refine ml_calli (va_runS (As := [.int pr]) (rest := []) ⟨hx, hb, hml, hown, hts⟩ (c_M_isPlace l dC dI kc a _ mo pr _ rfl) (cwS 1 hts (gd_S mC wd_391 wd_392 wd_6 wd_393) rfl rfl rfl hd_M_isPlace ⟨Nat.le_of_ble_eq_true rfl, Nat.le_of_ble_eq_true rfl⟩) ⟨ml_blind, ml_pre hP hK hD⟩ rfl rfl hl.1 rfl (lv_room (Nat.le_of_ble_eq_true rfl)) d_M_pipe_28 ⟨Nat.zero_le _, Nat.zero_le _⟩) hD hS hA (fun H locs hP hD hS => ?_)
        refine lv_if_eq (tgt := 59) hx hb d_M_pipe_31 (by decide) (fun h_2 => ?_) (fun h_2 => ?_)
        · rw [if_pos h_2] at hres
          refine lv_iconst (v := -1) hx hb d_M_pipe_59 (by decide) ?_
          obtain ⟨rfl, rfl⟩ := Prod.mk.inj hres
          exact ml_iret hx hb hr hlocks hP hK hD hS d_M_pipe_60
        · rw [if_neg h_2] at hres
          refine lv_aload_n hx hb d_M_pipe_34 rfl (lv_at hl 0 rfl) ?_
          refine lv_iload_n hx hb d_M_pipe_35 rfl (lv_at hl 1 rfl) ?_
          refine ml_calli (va_runV (As := [.int pr]) (rest := []) ⟨hx, hb, hml, hown, hts⟩ (c_M_used l dC dI kc a _ mo pr (by assumption) _ rfl) (cwV 1 hts (gd_V mC wd_426 wd_428 ws_16 wd_6 wd_429) rfl rfl rfl hd_M_used ⟨Nat.le_of_ble_eq_true rfl, Nat.le_of_ble_eq_true rfl⟩) ⟨ml_blind, va_recv hK hP (ci := 5) rfl (ml_at (by decide) (mc_mod kc a mo)), ml_pre hP hK hD⟩ rfl rfl hl.1 rfl (lv_room (Nat.le_of_ble_eq_true rfl)) d_M_pipe_36 ⟨Nat.zero_le _, Nat.zero_le _⟩) hD hS hA (fun H locs hP hD hS => ?_)
          refine lv_bipush (v := 14) hx hb d_M_pipe_39 (by decide) ?_
          refine lv_icmp_gt (tgt := 59) hx hb d_M_pipe_41 (by decide) (fun h_3 => ?_) (fun h_3 => ?_)
          · rw [if_pos h_3] at hres
            refine lv_iconst (v := -1) hx hb d_M_pipe_59 (by decide) ?_
            obtain ⟨rfl, rfl⟩ := Prod.mk.inj hres
            exact ml_iret hx hb hr hlocks hP hK hD hS d_M_pipe_60
          · rw [if_neg h_3] at hres
            refine lv_aload_n hx hb d_M_pipe_44 rfl (lv_at hl 0 rfl) ?_
            refine ml_calli (va_runV (As := []) (rest := []) ⟨hx, hb, hml, hown, hts⟩ (c_M_files l dC dI kc a _ mo _ rfl) (cwV 0 hts (gd_V mC wd_398 wd_400 ws_10 wd_6 wd_401) rfl rfl rfl hd_M_files ⟨Nat.le_of_ble_eq_true rfl, Nat.le_of_ble_eq_true rfl⟩) ⟨ml_blind, va_recv hK hP (ci := 5) rfl (ml_at (by decide) (mc_mod kc a mo)), ml_pre hP hK hD⟩ rfl rfl hl.1 rfl (lv_room (Nat.le_of_ble_eq_true rfl)) d_M_pipe_45 ⟨Nat.zero_le _, Nat.zero_le _⟩) hD hS hA (fun H locs hP hD hS => ?_)
            refine lv_bipush (v := 30) hx hb d_M_pipe_48 (by decide) ?_
            refine lv_icmp_gt (tgt := 59) hx hb d_M_pipe_50 (by decide) (fun h_4 => ?_) (fun h_4 => ?_)
            · rw [if_pos h_4] at hres
              refine lv_iconst (v := -1) hx hb d_M_pipe_59 (by decide) ?_
              obtain ⟨rfl, rfl⟩ := Prod.mk.inj hres
              exact ml_iret hx hb hr hlocks hP hK hD hS d_M_pipe_60
            · rw [if_neg h_4] at hres
              refine lv_iload_n hx hb d_M_pipe_53 rfl (lv_at hl 2 rfl) ?_
              refine lv_bipush (v := 8) hx hb d_M_pipe_54 (by decide) ?_
              refine lv_icmp_ne (tgt := 61) hx hb d_M_pipe_56 (by decide) (fun h_5 => ?_) (fun h_5 => ?_)
              · rw [if_neg h_5] at hres
                refine lv_aload_n hx hb d_M_pipe_61 rfl (lv_at hl 0 rfl) ?_
                refine ml_get (D := (dC, dI)) hx hb hts in_MC hown hK hP (0) (by decide) (mc_mod kc a mo) rfl 6 (by decide) (hts _ (mC _ wd_347)) (fun _ h9 => h9) (v := .ref (a 6)) rfl d_M_pipe_62 ?_
                refine lv_iload_n hx hb d_M_pipe_65 rfl (lv_at hl 2 rfl) ?_
                refine lv_iconst (v := 0) hx hb d_M_pipe_66 (by decide) ?_
                refine ml_iast hx hb hK hP hD hS (6) 0 (by decide) (mc_many kc a mo) rfl (md_k8 hj (by assumption)) (f' := (mcell kc a (u2 mo 10 (nI j).toNatClampNeg (0 : Int32)))) (mw_many kc a _ (nI j).toNatClampNeg (0 : Int32)) d_M_pipe_67 (fun H locs hP hD hS => ?_)
                refine lv_aload_n hx hb d_M_pipe_68 rfl (lv_at hl 0 rfl) ?_
                refine lv_iload_n hx hb d_M_pipe_69 rfl (lv_at hl 1 rfl) ?_
                refine lv_aload_n hx hb d_M_pipe_70 rfl (lv_at hl 0 rfl) ?_
                refine lv_iload_n hx hb d_M_pipe_71 rfl (lv_at hl 1 rfl) ?_
                refine ml_calli (va_runV (As := [.int pr]) (rest := [.int pr, .ref (a 0)]) ⟨hx, hb, hml, hown, hts⟩ (c_M_vacant l dC dI kc a _ (u2 mo 10 (nI j).toNatClampNeg (0 : Int32)) pr (by assumption) _ rfl) (cwV 1 hts (gd_V mC wd_394 wd_396 ws_9 wd_6 wd_397) rfl rfl rfl hd_M_vacant ⟨Nat.le_of_ble_eq_true rfl, Nat.le_of_ble_eq_true rfl⟩) ⟨ml_blind, va_recv hK hP (ci := 5) rfl (ml_at (by decide) (mc_mod kc a (u2 mo 10 (nI j).toNatClampNeg (0 : Int32)))), ml_pre hP hK hD⟩ rfl rfl hl.1 rfl (lv_room (Nat.le_of_ble_eq_true rfl)) d_M_pipe_72 ⟨Nat.zero_le _, Nat.zero_le _⟩) hD hS hA (fun H locs hP hD hS => ?_)
                refine lv_iconst (v := 1) hx hb d_M_pipe_75 (by decide) ?_
                refine lv_iload_n hx hb d_M_pipe_76 rfl (lv_at hl 2 rfl) ?_
                refine lv_iconst (v := 1) hx hb d_M_pipe_77 (by decide) ?_
                refine ml_calli (va_runV (As := [.int pr, .int (sp_M_vacant (u2 mo 10 (nI j).toNatClampNeg (0 : Int32)) pr), .int (1 : Int32), .int (nI j), .int (1 : Int32)]) (rest := []) ⟨hx, hb, hml, hown, hts⟩ (c_M_makes l dC dI kc a _ (u2 mo 10 (nI j).toNatClampNeg (0 : Int32)) pr (sp_M_vacant (u2 mo 10 (nI j).toNatClampNeg (0 : Int32)) pr) (1 : Int32) (nI j) (1 : Int32) (md_p1v (by assumption) (by assumption)) (md_p1f (by assumption)) (sp_M_makes (u2 mo 10 (nI j).toNatClampNeg (0 : Int32)) pr (sp_M_vacant (u2 mo 10 (nI j).toNatClampNeg (0 : Int32)) pr) (1 : Int32) (nI j) (1 : Int32)).1 (sp_M_makes (u2 mo 10 (nI j).toNatClampNeg (0 : Int32)) pr (sp_M_vacant (u2 mo 10 (nI j).toNatClampNeg (0 : Int32)) pr) (1 : Int32) (nI j) (1 : Int32)).2 (pe _)) (cwV 5 hts (gd_V mC wd_406 wd_408 ws_12 wd_6 wd_409) rfl rfl rfl hd_M_makes ⟨Nat.le_of_ble_eq_true rfl, Nat.le_of_ble_eq_true rfl⟩) ⟨ml_blind, va_recv hK hP (ci := 5) rfl (ml_at (by decide) (mc_mod kc a (u2 mo 10 (nI j).toNatClampNeg (0 : Int32)))), ml_pre hP hK hD⟩ rfl rfl hl.1 rfl (lv_room (Nat.le_of_ble_eq_true rfl)) d_M_pipe_78 ⟨Nat.zero_le _, Nat.zero_le _⟩) hD hS hA (fun H locs hP hD hS => ?_)
                refine lv_istore_n (lv' := [(3, .int ((sp_M_makes (u2 mo 10 (nI j).toNatClampNeg (0 : Int32)) pr (sp_M_vacant (u2 mo 10 (nI j).toNatClampNeg (0 : Int32)) pr) (1 : Int32) (nI j) (1 : Int32)).1)), (0, .ref (a 0)), (1, .int pr), (2, .int (nI j))]) hx hb d_M_pipe_81 rfl hl (by decide) rfl (fun ls hl => ?_)
                refine lv_aload_n hx hb d_M_pipe_82 rfl (lv_at hl 1 rfl) ?_
                refine lv_iload_n hx hb d_M_pipe_83 rfl (lv_at hl 2 rfl) ?_
                refine lv_aload_n hx hb d_M_pipe_84 rfl (lv_at hl 1 rfl) ?_
                refine lv_iload_n hx hb d_M_pipe_85 rfl (lv_at hl 2 rfl) ?_
                refine ml_calli (va_runV (As := [.int pr]) (rest := [.int pr, .ref (a 0)]) ⟨hx, hb, hml, hown, hts⟩ (c_M_vacant l dC dI kc a _ ((sp_M_makes (u2 mo 10 (nI j).toNatClampNeg (0 : Int32)) pr (sp_M_vacant (u2 mo 10 (nI j).toNatClampNeg (0 : Int32)) pr) (1 : Int32) (nI j) (1 : Int32)).2) pr (by assumption) _ rfl) (cwV 1 hts (gd_V mC wd_394 wd_396 ws_9 wd_6 wd_397) rfl rfl rfl hd_M_vacant ⟨Nat.le_of_ble_eq_true rfl, Nat.le_of_ble_eq_true rfl⟩) ⟨ml_blind, va_recv hK hP (ci := 5) rfl (ml_at (by decide) (mc_mod kc a ((sp_M_makes (u2 mo 10 (nI j).toNatClampNeg (0 : Int32)) pr (sp_M_vacant (u2 mo 10 (nI j).toNatClampNeg (0 : Int32)) pr) (1 : Int32) (nI j) (1 : Int32)).2))), ml_pre hP hK hD⟩ rfl rfl hl.1 rfl (lv_room (Nat.le_of_ble_eq_true rfl)) d_M_pipe_86 ⟨Nat.zero_le _, Nat.zero_le _⟩) hD hS hA (fun H locs hP hD hS => ?_)
                refine lv_iconst (v := 1) hx hb d_M_pipe_89 (by decide) ?_
                refine lv_iload_n hx hb d_M_pipe_90 rfl (lv_at hl 3 rfl) ?_
                refine lv_iconst (v := 2) hx hb d_M_pipe_91 (by decide) ?_
                refine ml_calli (va_runV (As := [.int pr, .int (sp_M_vacant ((sp_M_makes (u2 mo 10 (nI j).toNatClampNeg (0 : Int32)) pr (sp_M_vacant (u2 mo 10 (nI j).toNatClampNeg (0 : Int32)) pr) (1 : Int32) (nI j) (1 : Int32)).2) pr), .int (1 : Int32), .int (nI j), .int (2 : Int32)]) (rest := []) ⟨hx, hb, hml, hown, hts⟩ (c_M_makes l dC dI kc a _ ((sp_M_makes (u2 mo 10 (nI j).toNatClampNeg (0 : Int32)) pr (sp_M_vacant (u2 mo 10 (nI j).toNatClampNeg (0 : Int32)) pr) (1 : Int32) (nI j) (1 : Int32)).2) pr (sp_M_vacant ((sp_M_makes (u2 mo 10 (nI j).toNatClampNeg (0 : Int32)) pr (sp_M_vacant (u2 mo 10 (nI j).toNatClampNeg (0 : Int32)) pr) (1 : Int32) (nI j) (1 : Int32)).2) pr) (1 : Int32) (nI j) (2 : Int32) (md_p2v (by assumption) (by assumption)) (md_p2f (by assumption) (by assumption) (by assumption)) (sp_M_makes ((sp_M_makes (u2 mo 10 (nI j).toNatClampNeg (0 : Int32)) pr (sp_M_vacant (u2 mo 10 (nI j).toNatClampNeg (0 : Int32)) pr) (1 : Int32) (nI j) (1 : Int32)).2) pr (sp_M_vacant ((sp_M_makes (u2 mo 10 (nI j).toNatClampNeg (0 : Int32)) pr (sp_M_vacant (u2 mo 10 (nI j).toNatClampNeg (0 : Int32)) pr) (1 : Int32) (nI j) (1 : Int32)).2) pr) (1 : Int32) (nI j) (2 : Int32)).1 (sp_M_makes ((sp_M_makes (u2 mo 10 (nI j).toNatClampNeg (0 : Int32)) pr (sp_M_vacant (u2 mo 10 (nI j).toNatClampNeg (0 : Int32)) pr) (1 : Int32) (nI j) (1 : Int32)).2) pr (sp_M_vacant ((sp_M_makes (u2 mo 10 (nI j).toNatClampNeg (0 : Int32)) pr (sp_M_vacant (u2 mo 10 (nI j).toNatClampNeg (0 : Int32)) pr) (1 : Int32) (nI j) (1 : Int32)).2) pr) (1 : Int32) (nI j) (2 : Int32)).2 (pe _)) (cwV 5 hts (gd_V mC wd_406 wd_408 ws_12 wd_6 wd_409) rfl rfl rfl hd_M_makes ⟨Nat.le_of_ble_eq_true rfl, Nat.le_of_ble_eq_true rfl⟩) ⟨ml_blind, va_recv hK hP (ci := 5) rfl (ml_at (by decide) (mc_mod kc a ((sp_M_makes (u2 mo 10 (nI j).toNatClampNeg (0 : Int32)) pr (sp_M_vacant (u2 mo 10 (nI j).toNatClampNeg (0 : Int32)) pr) (1 : Int32) (nI j) (1 : Int32)).2))), ml_pre hP hK hD⟩ rfl rfl hl.1 rfl (lv_room (Nat.le_of_ble_eq_true rfl)) d_M_pipe_92 ⟨Nat.zero_le _, Nat.zero_le _⟩) hD hS hA (fun H locs hP hD hS => ?_)
                refine lv_istore (lv' := [(4, .int ((sp_M_makes ((sp_M_makes (u2 mo 10 (nI j).toNatClampNeg (0 : Int32)) pr (sp_M_vacant (u2 mo 10 (nI j).toNatClampNeg (0 : Int32)) pr) (1 : Int32) (nI j) (1 : Int32)).2) pr (sp_M_vacant ((sp_M_makes (u2 mo 10 (nI j).toNatClampNeg (0 : Int32)) pr (sp_M_vacant (u2 mo 10 (nI j).toNatClampNeg (0 : Int32)) pr) (1 : Int32) (nI j) (1 : Int32)).2) pr) (1 : Int32) (nI j) (2 : Int32)).1)), (3, .int ((sp_M_makes (u2 mo 10 (nI j).toNatClampNeg (0 : Int32)) pr (sp_M_vacant (u2 mo 10 (nI j).toNatClampNeg (0 : Int32)) pr) (1 : Int32) (nI j) (1 : Int32)).1)), (0, .ref (a 0)), (1, .int pr), (2, .int (nI j))]) hx hb d_M_pipe_95 hl (by decide) rfl (fun ls hl => ?_)
                refine lv_iload_n hx hb d_M_pipe_97 rfl (lv_at hl 1 rfl) ?_
                refine lv_bipush (v := 16) hx hb d_M_pipe_98 (by decide) ?_
                refine lv_iload hx hb d_M_pipe_100 (lv_at hl 0 rfl) ?_
                refine lv_imul hx hb d_M_pipe_102 ?_
                refine lv_iadd hx hb d_M_pipe_103 ?_
                obtain ⟨rfl, rfl⟩ := Prod.mk.inj hres
                exact ml_iret hx hb hr hlocks hP hK hD hS d_M_pipe_104
              · rw [if_pos h_5] at hres
                refine lv_iconst (v := -1) hx hb d_M_pipe_59 (by decide) ?_
                obtain ⟨rfl, rfl⟩ := Prod.mk.inj hres
                exact ml_iret hx hb hr hlocks hP hK hD hS d_M_pipe_60
      · rw [if_neg h_1] at hres
        refine lv_aload_n hx hb d_M_pipe_13 rfl (lv_at hl 0 rfl) ?_
        refine lv_iload_n hx hb d_M_pipe_14 rfl (lv_at hl 2 rfl) ?_
        refine ml_calli (va_runV (As := [.int (nI j)]) (rest := []) ⟨hx, hb, hml, hown, hts⟩ (c_M_isPipe l dC dI kc a _ mo (nI j) _ rfl) (cwV 1 hts (gd_V mC wd_418 wd_420 ws_14 wd_6 wd_421) rfl rfl rfl hd_M_isPipe ⟨Nat.le_of_ble_eq_true rfl, Nat.le_of_ble_eq_true rfl⟩) ⟨ml_blind, va_recv hK hP (ci := 5) rfl (ml_at (by decide) (mc_mod kc a mo)), ml_pre hP hK hD⟩ rfl rfl hl.1 rfl (lv_room (Nat.le_of_ble_eq_true rfl)) d_M_pipe_15 ⟨Nat.zero_le _, Nat.zero_le _⟩) hD hS hA (fun H locs hP hD hS => ?_)
        refine lv_if_eq (tgt := 27) hx hb d_M_pipe_18 (by decide) (fun h_6 => ?_) (fun h_6 => ?_)
        · rw [if_pos h_6] at hres
          refine lv_iload_n hx hb d_M_pipe_27 rfl (lv_at hl 1 rfl) ?_
          refine ml_calli (va_runS (As := [.int pr]) (rest := []) ⟨hx, hb, hml, hown, hts⟩ (c_M_isPlace l dC dI kc a _ mo pr _ rfl) (cwS 1 hts (gd_S mC wd_391 wd_392 wd_6 wd_393) rfl rfl rfl hd_M_isPlace ⟨Nat.le_of_ble_eq_true rfl, Nat.le_of_ble_eq_true rfl⟩) ⟨ml_blind, ml_pre hP hK hD⟩ rfl rfl hl.1 rfl (lv_room (Nat.le_of_ble_eq_true rfl)) d_M_pipe_28 ⟨Nat.zero_le _, Nat.zero_le _⟩) hD hS hA (fun H locs hP hD hS => ?_)
          refine lv_if_eq (tgt := 59) hx hb d_M_pipe_31 (by decide) (fun h_7 => ?_) (fun h_7 => ?_)
          · rw [if_pos h_7] at hres
            refine lv_iconst (v := -1) hx hb d_M_pipe_59 (by decide) ?_
            obtain ⟨rfl, rfl⟩ := Prod.mk.inj hres
            exact ml_iret hx hb hr hlocks hP hK hD hS d_M_pipe_60
          · rw [if_neg h_7] at hres
            refine lv_aload_n hx hb d_M_pipe_34 rfl (lv_at hl 0 rfl) ?_
            refine lv_iload_n hx hb d_M_pipe_35 rfl (lv_at hl 1 rfl) ?_
            refine ml_calli (va_runV (As := [.int pr]) (rest := []) ⟨hx, hb, hml, hown, hts⟩ (c_M_used l dC dI kc a _ mo pr (by assumption) _ rfl) (cwV 1 hts (gd_V mC wd_426 wd_428 ws_16 wd_6 wd_429) rfl rfl rfl hd_M_used ⟨Nat.le_of_ble_eq_true rfl, Nat.le_of_ble_eq_true rfl⟩) ⟨ml_blind, va_recv hK hP (ci := 5) rfl (ml_at (by decide) (mc_mod kc a mo)), ml_pre hP hK hD⟩ rfl rfl hl.1 rfl (lv_room (Nat.le_of_ble_eq_true rfl)) d_M_pipe_36 ⟨Nat.zero_le _, Nat.zero_le _⟩) hD hS hA (fun H locs hP hD hS => ?_)
            refine lv_bipush (v := 14) hx hb d_M_pipe_39 (by decide) ?_
            refine lv_icmp_gt (tgt := 59) hx hb d_M_pipe_41 (by decide) (fun h_8 => ?_) (fun h_8 => ?_)
            · rw [if_pos h_8] at hres
              refine lv_iconst (v := -1) hx hb d_M_pipe_59 (by decide) ?_
              obtain ⟨rfl, rfl⟩ := Prod.mk.inj hres
              exact ml_iret hx hb hr hlocks hP hK hD hS d_M_pipe_60
            · rw [if_neg h_8] at hres
              refine lv_aload_n hx hb d_M_pipe_44 rfl (lv_at hl 0 rfl) ?_
              refine ml_calli (va_runV (As := []) (rest := []) ⟨hx, hb, hml, hown, hts⟩ (c_M_files l dC dI kc a _ mo _ rfl) (cwV 0 hts (gd_V mC wd_398 wd_400 ws_10 wd_6 wd_401) rfl rfl rfl hd_M_files ⟨Nat.le_of_ble_eq_true rfl, Nat.le_of_ble_eq_true rfl⟩) ⟨ml_blind, va_recv hK hP (ci := 5) rfl (ml_at (by decide) (mc_mod kc a mo)), ml_pre hP hK hD⟩ rfl rfl hl.1 rfl (lv_room (Nat.le_of_ble_eq_true rfl)) d_M_pipe_45 ⟨Nat.zero_le _, Nat.zero_le _⟩) hD hS hA (fun H locs hP hD hS => ?_)
              refine lv_bipush (v := 30) hx hb d_M_pipe_48 (by decide) ?_
              refine lv_icmp_gt (tgt := 59) hx hb d_M_pipe_50 (by decide) (fun h_9 => ?_) (fun h_9 => ?_)
              · rw [if_pos h_9] at hres
                refine lv_iconst (v := -1) hx hb d_M_pipe_59 (by decide) ?_
                obtain ⟨rfl, rfl⟩ := Prod.mk.inj hres
                exact ml_iret hx hb hr hlocks hP hK hD hS d_M_pipe_60
              · rw [if_neg h_9] at hres
                refine lv_iload_n hx hb d_M_pipe_53 rfl (lv_at hl 2 rfl) ?_
                refine lv_bipush (v := 8) hx hb d_M_pipe_54 (by decide) ?_
                refine lv_icmp_ne (tgt := 61) hx hb d_M_pipe_56 (by decide) (fun h_10 => ?_) (fun h_10 => ?_)
                · rw [if_neg h_10] at hres
                  refine lv_aload_n hx hb d_M_pipe_61 rfl (lv_at hl 0 rfl) ?_
                  refine ml_get (D := (dC, dI)) hx hb hts in_MC hown hK hP (0) (by decide) (mc_mod kc a mo) rfl 6 (by decide) (hts _ (mC _ wd_347)) (fun _ h9 => h9) (v := .ref (a 6)) rfl d_M_pipe_62 ?_
                  refine lv_iload_n hx hb d_M_pipe_65 rfl (lv_at hl 2 rfl) ?_
                  refine lv_iconst (v := 0) hx hb d_M_pipe_66 (by decide) ?_
                  refine ml_iast hx hb hK hP hD hS (6) 0 (by decide) (mc_many kc a mo) rfl (md_k8 hj (by assumption)) (f' := (mcell kc a (u2 mo 10 (nI j).toNatClampNeg (0 : Int32)))) (mw_many kc a _ (nI j).toNatClampNeg (0 : Int32)) d_M_pipe_67 (fun H locs hP hD hS => ?_)
                  refine lv_aload_n hx hb d_M_pipe_68 rfl (lv_at hl 0 rfl) ?_
                  refine lv_iload_n hx hb d_M_pipe_69 rfl (lv_at hl 1 rfl) ?_
                  refine lv_aload_n hx hb d_M_pipe_70 rfl (lv_at hl 0 rfl) ?_
                  refine lv_iload_n hx hb d_M_pipe_71 rfl (lv_at hl 1 rfl) ?_
                  refine ml_calli (va_runV (As := [.int pr]) (rest := [.int pr, .ref (a 0)]) ⟨hx, hb, hml, hown, hts⟩ (c_M_vacant l dC dI kc a _ (u2 mo 10 (nI j).toNatClampNeg (0 : Int32)) pr (by assumption) _ rfl) (cwV 1 hts (gd_V mC wd_394 wd_396 ws_9 wd_6 wd_397) rfl rfl rfl hd_M_vacant ⟨Nat.le_of_ble_eq_true rfl, Nat.le_of_ble_eq_true rfl⟩) ⟨ml_blind, va_recv hK hP (ci := 5) rfl (ml_at (by decide) (mc_mod kc a (u2 mo 10 (nI j).toNatClampNeg (0 : Int32)))), ml_pre hP hK hD⟩ rfl rfl hl.1 rfl (lv_room (Nat.le_of_ble_eq_true rfl)) d_M_pipe_72 ⟨Nat.zero_le _, Nat.zero_le _⟩) hD hS hA (fun H locs hP hD hS => ?_)
                  refine lv_iconst (v := 1) hx hb d_M_pipe_75 (by decide) ?_
                  refine lv_iload_n hx hb d_M_pipe_76 rfl (lv_at hl 2 rfl) ?_
                  refine lv_iconst (v := 1) hx hb d_M_pipe_77 (by decide) ?_
                  refine ml_calli (va_runV (As := [.int pr, .int (sp_M_vacant (u2 mo 10 (nI j).toNatClampNeg (0 : Int32)) pr), .int (1 : Int32), .int (nI j), .int (1 : Int32)]) (rest := []) ⟨hx, hb, hml, hown, hts⟩ (c_M_makes l dC dI kc a _ (u2 mo 10 (nI j).toNatClampNeg (0 : Int32)) pr (sp_M_vacant (u2 mo 10 (nI j).toNatClampNeg (0 : Int32)) pr) (1 : Int32) (nI j) (1 : Int32) (md_p1v (by assumption) (by assumption)) (md_p1f (by assumption)) (sp_M_makes (u2 mo 10 (nI j).toNatClampNeg (0 : Int32)) pr (sp_M_vacant (u2 mo 10 (nI j).toNatClampNeg (0 : Int32)) pr) (1 : Int32) (nI j) (1 : Int32)).1 (sp_M_makes (u2 mo 10 (nI j).toNatClampNeg (0 : Int32)) pr (sp_M_vacant (u2 mo 10 (nI j).toNatClampNeg (0 : Int32)) pr) (1 : Int32) (nI j) (1 : Int32)).2 (pe _)) (cwV 5 hts (gd_V mC wd_406 wd_408 ws_12 wd_6 wd_409) rfl rfl rfl hd_M_makes ⟨Nat.le_of_ble_eq_true rfl, Nat.le_of_ble_eq_true rfl⟩) ⟨ml_blind, va_recv hK hP (ci := 5) rfl (ml_at (by decide) (mc_mod kc a (u2 mo 10 (nI j).toNatClampNeg (0 : Int32)))), ml_pre hP hK hD⟩ rfl rfl hl.1 rfl (lv_room (Nat.le_of_ble_eq_true rfl)) d_M_pipe_78 ⟨Nat.zero_le _, Nat.zero_le _⟩) hD hS hA (fun H locs hP hD hS => ?_)
                  refine lv_istore_n (lv' := [(3, .int ((sp_M_makes (u2 mo 10 (nI j).toNatClampNeg (0 : Int32)) pr (sp_M_vacant (u2 mo 10 (nI j).toNatClampNeg (0 : Int32)) pr) (1 : Int32) (nI j) (1 : Int32)).1)), (0, .ref (a 0)), (1, .int pr), (2, .int (nI j))]) hx hb d_M_pipe_81 rfl hl (by decide) rfl (fun ls hl => ?_)
                  refine lv_aload_n hx hb d_M_pipe_82 rfl (lv_at hl 1 rfl) ?_
                  refine lv_iload_n hx hb d_M_pipe_83 rfl (lv_at hl 2 rfl) ?_
                  refine lv_aload_n hx hb d_M_pipe_84 rfl (lv_at hl 1 rfl) ?_
                  refine lv_iload_n hx hb d_M_pipe_85 rfl (lv_at hl 2 rfl) ?_
                  refine ml_calli (va_runV (As := [.int pr]) (rest := [.int pr, .ref (a 0)]) ⟨hx, hb, hml, hown, hts⟩ (c_M_vacant l dC dI kc a _ ((sp_M_makes (u2 mo 10 (nI j).toNatClampNeg (0 : Int32)) pr (sp_M_vacant (u2 mo 10 (nI j).toNatClampNeg (0 : Int32)) pr) (1 : Int32) (nI j) (1 : Int32)).2) pr (by assumption) _ rfl) (cwV 1 hts (gd_V mC wd_394 wd_396 ws_9 wd_6 wd_397) rfl rfl rfl hd_M_vacant ⟨Nat.le_of_ble_eq_true rfl, Nat.le_of_ble_eq_true rfl⟩) ⟨ml_blind, va_recv hK hP (ci := 5) rfl (ml_at (by decide) (mc_mod kc a ((sp_M_makes (u2 mo 10 (nI j).toNatClampNeg (0 : Int32)) pr (sp_M_vacant (u2 mo 10 (nI j).toNatClampNeg (0 : Int32)) pr) (1 : Int32) (nI j) (1 : Int32)).2))), ml_pre hP hK hD⟩ rfl rfl hl.1 rfl (lv_room (Nat.le_of_ble_eq_true rfl)) d_M_pipe_86 ⟨Nat.zero_le _, Nat.zero_le _⟩) hD hS hA (fun H locs hP hD hS => ?_)
                  refine lv_iconst (v := 1) hx hb d_M_pipe_89 (by decide) ?_
                  refine lv_iload_n hx hb d_M_pipe_90 rfl (lv_at hl 3 rfl) ?_
                  refine lv_iconst (v := 2) hx hb d_M_pipe_91 (by decide) ?_
                  refine ml_calli (va_runV (As := [.int pr, .int (sp_M_vacant ((sp_M_makes (u2 mo 10 (nI j).toNatClampNeg (0 : Int32)) pr (sp_M_vacant (u2 mo 10 (nI j).toNatClampNeg (0 : Int32)) pr) (1 : Int32) (nI j) (1 : Int32)).2) pr), .int (1 : Int32), .int (nI j), .int (2 : Int32)]) (rest := []) ⟨hx, hb, hml, hown, hts⟩ (c_M_makes l dC dI kc a _ ((sp_M_makes (u2 mo 10 (nI j).toNatClampNeg (0 : Int32)) pr (sp_M_vacant (u2 mo 10 (nI j).toNatClampNeg (0 : Int32)) pr) (1 : Int32) (nI j) (1 : Int32)).2) pr (sp_M_vacant ((sp_M_makes (u2 mo 10 (nI j).toNatClampNeg (0 : Int32)) pr (sp_M_vacant (u2 mo 10 (nI j).toNatClampNeg (0 : Int32)) pr) (1 : Int32) (nI j) (1 : Int32)).2) pr) (1 : Int32) (nI j) (2 : Int32) (md_p2v (by assumption) (by assumption)) (md_p2f (by assumption) (by assumption) (by assumption)) (sp_M_makes ((sp_M_makes (u2 mo 10 (nI j).toNatClampNeg (0 : Int32)) pr (sp_M_vacant (u2 mo 10 (nI j).toNatClampNeg (0 : Int32)) pr) (1 : Int32) (nI j) (1 : Int32)).2) pr (sp_M_vacant ((sp_M_makes (u2 mo 10 (nI j).toNatClampNeg (0 : Int32)) pr (sp_M_vacant (u2 mo 10 (nI j).toNatClampNeg (0 : Int32)) pr) (1 : Int32) (nI j) (1 : Int32)).2) pr) (1 : Int32) (nI j) (2 : Int32)).1 (sp_M_makes ((sp_M_makes (u2 mo 10 (nI j).toNatClampNeg (0 : Int32)) pr (sp_M_vacant (u2 mo 10 (nI j).toNatClampNeg (0 : Int32)) pr) (1 : Int32) (nI j) (1 : Int32)).2) pr (sp_M_vacant ((sp_M_makes (u2 mo 10 (nI j).toNatClampNeg (0 : Int32)) pr (sp_M_vacant (u2 mo 10 (nI j).toNatClampNeg (0 : Int32)) pr) (1 : Int32) (nI j) (1 : Int32)).2) pr) (1 : Int32) (nI j) (2 : Int32)).2 (pe _)) (cwV 5 hts (gd_V mC wd_406 wd_408 ws_12 wd_6 wd_409) rfl rfl rfl hd_M_makes ⟨Nat.le_of_ble_eq_true rfl, Nat.le_of_ble_eq_true rfl⟩) ⟨ml_blind, va_recv hK hP (ci := 5) rfl (ml_at (by decide) (mc_mod kc a ((sp_M_makes (u2 mo 10 (nI j).toNatClampNeg (0 : Int32)) pr (sp_M_vacant (u2 mo 10 (nI j).toNatClampNeg (0 : Int32)) pr) (1 : Int32) (nI j) (1 : Int32)).2))), ml_pre hP hK hD⟩ rfl rfl hl.1 rfl (lv_room (Nat.le_of_ble_eq_true rfl)) d_M_pipe_92 ⟨Nat.zero_le _, Nat.zero_le _⟩) hD hS hA (fun H locs hP hD hS => ?_)
                  refine lv_istore (lv' := [(4, .int ((sp_M_makes ((sp_M_makes (u2 mo 10 (nI j).toNatClampNeg (0 : Int32)) pr (sp_M_vacant (u2 mo 10 (nI j).toNatClampNeg (0 : Int32)) pr) (1 : Int32) (nI j) (1 : Int32)).2) pr (sp_M_vacant ((sp_M_makes (u2 mo 10 (nI j).toNatClampNeg (0 : Int32)) pr (sp_M_vacant (u2 mo 10 (nI j).toNatClampNeg (0 : Int32)) pr) (1 : Int32) (nI j) (1 : Int32)).2) pr) (1 : Int32) (nI j) (2 : Int32)).1)), (3, .int ((sp_M_makes (u2 mo 10 (nI j).toNatClampNeg (0 : Int32)) pr (sp_M_vacant (u2 mo 10 (nI j).toNatClampNeg (0 : Int32)) pr) (1 : Int32) (nI j) (1 : Int32)).1)), (0, .ref (a 0)), (1, .int pr), (2, .int (nI j))]) hx hb d_M_pipe_95 hl (by decide) rfl (fun ls hl => ?_)
                  refine lv_iload_n hx hb d_M_pipe_97 rfl (lv_at hl 1 rfl) ?_
                  refine lv_bipush (v := 16) hx hb d_M_pipe_98 (by decide) ?_
                  refine lv_iload hx hb d_M_pipe_100 (lv_at hl 0 rfl) ?_
                  refine lv_imul hx hb d_M_pipe_102 ?_
                  refine lv_iadd hx hb d_M_pipe_103 ?_
                  obtain ⟨rfl, rfl⟩ := Prod.mk.inj hres
                  exact ml_iret hx hb hr hlocks hP hK hD hS d_M_pipe_104
                · rw [if_pos h_10] at hres
                  refine lv_iconst (v := -1) hx hb d_M_pipe_59 (by decide) ?_
                  obtain ⟨rfl, rfl⟩ := Prod.mk.inj hres
                  exact ml_iret hx hb hr hlocks hP hK hD hS d_M_pipe_60
        · rw [if_neg h_6] at hres
          refine lv_iinc (v := nI (j + 1)) (lv' := [(2, .int (nI (j + 1))), (0, .ref (a 0)), (1, .int pr)]) hx hb d_M_pipe_21 hl (k := 2) rfl (nI_1 j) (by decide) rfl (fun ls hl => ?_)
          refine lv_goto (tgt := 7) hx hb d_M_pipe_24 (by decide) ?_
          exact ih (j + 1) mo _ _ ls (lp_adv (b := (8 : Int32)) (B := 8) rfl (by decide) hj (by assumption)) (by omega) hres hP hD hS (lv_sub hl [1, 2, 0] rfl)
  have hl := lv_entry ([.ref (a 0), .int pr]) (n := 5) (Nat.le_of_ble_eq_true rfl)
  rw [lg_entry_eq]
  generalize (lg_sl ([.ref (a 0), .int pr]) ++ List.replicate (5 - (lg_sl ([.ref (a 0), .int pr])).length) Slot.unset).toArray = ls at hl ⊢
  have hl : lv_has ls 5 [(0, .ref (a 0)), (1, .int pr)] := hl
  rw [sp_M_pipe] at hres
  refine lv_aload_n hx hb d_M_pipe_0 rfl (lv_at hl 0 rfl) ?_
  refine lv_iconst (v := 0) hx hb d_M_pipe_1 (by decide) ?_
  refine ml_put (D := (dC, dI)) hx hb hts in_MC tyM tyM_ok nmM hown hK hP hD hS (0) (by decide) (mc_mod kc a mo) rfl 0 (by decide) (hts _ (mC _ wd_341)) (fun _ h9 => h9) rfl (ty := .int) (by decide +kernel) rfl rfl (Nat.le_of_ble_eq_true rfl) (f' := (mcell kc a (u2 mo 0 0 (0 : Int32)))) (mw_0 kc a _ (0 : Int32)) d_M_pipe_2 (fun H locs hP hD hS => ?_)
  refine lv_iconst (v := 0) hx hb d_M_pipe_5 (by decide) ?_
  refine lv_istore_n (lv' := [(2, .int (0 : Int32)), (0, .ref (a 0)), (1, .int pr)]) hx hb d_M_pipe_6 rfl hl (by decide) rfl (fun ls hl => ?_)
  exact loop _ 0 (u2 mo 0 0 (0 : Int32)) _ _ ls (Nat.zero_le _) (by omega) hres hP hD hS (lv_sub hl [1, 2, 0] rfl)
def sp_M_again (mo : MK) (pr : Int32) (x : Int32) : Int32 × MK :=
  (if (sp_M_file (u2 mo 0 0 (0 : Int32)) pr x) < (0 : Int32) then ((-1 : Int32), u2 mo 0 0 (0 : Int32)) else (if (sp_M_vacant (u2 mo 0 0 (0 : Int32)) pr) = (16 : Int32) then ((-1 : Int32), u2 mo 0 0 (0 : Int32)) else ((sp_M_vacant (u2 mo 0 0 (0 : Int32)) pr), u2 (u2 mo 0 0 (0 : Int32)) 5 (((16 : Int32) * pr) + (sp_M_vacant (u2 mo 0 0 (0 : Int32)) pr)).toNatClampNeg ((sp_M_file (u2 mo 0 0 (0 : Int32)) pr x) + (1 : Int32)))))
abbrev rm_M_again : Room := { frames := 2, cells := 0, slots := 0, locals := 42 }
set_option maxHeartbeats 4000000 in
set_option maxRecDepth 100000 in
theorem c_M_again (l : Launch) (dC : Nat → ClassId) (dI : Nat → Nat → Nat) (kc : Nat → ClassId) (a : Nat → Nat) (sz : Nat) (mo : MK) (pr : Int32) (x : Int32) (R' : Int32) (mo' : MK) (hres : sp_M_again mo pr x = (R', mo')) : Met l y_M_again ws_M_again rm_M_again (va_Pc [.ref (a 0), .int pr, .int x] (ml_B (dC, dI) vwCl (tysD kc) 11 a (mcell kc a mo) sz)) (va_Qi (fun r (_ : Unit) => r = R') (fun _ t => ml_E (dC, dI) vwCl (tysD kc) 11 a (mcell kc a mo') (va_A (ml 11 a (mcell kc a mo)) sz) t) (va_A (ml 11 a (mcell kc a mo)) sz)) 0 0 (va_A (ml 11 a (mcell kc a mo)) sz) := by
  refine Met.ofW (cc := prog_7_method_15_code) (maxL := 5) (ret := (some .int)) (by decide) rfl ?_
  intro p e s m args below meth c s₁ B hml hv
  obtain ⟨rfl, hsz, hP, hK, hD0⟩ := hv
  have hx := B.exec
  have hb := B.bytes
  have hr := B.returns
  have hts := atoms_spec (ws := ws_M_again) B.pre
  have hown : s.vm.findClass "HandleDeskModel" = some m.cls := findClass_of_methodNamed B.named
  have hlocks := B.notSynchronized
  subst hsz
  have hD := hD0.self (sz := s.heap.size)
  generalize hAe : va_A (ml 11 a (mcell kc a mo)) s.heap.size = A at hD ⊢
  have hA : ∀ q : Nat, s.heap.size ≤ q → A q := fun q h => by rw [← hAe]; exact Or.inr h
  have hS : va_S A s.heap s.heap [] := va_S.rf
  have hl := lv_entry ([.ref (a 0), .int pr, .int x]) (n := 5) (Nat.le_of_ble_eq_true rfl)
  rw [lg_entry_eq]
  generalize (lg_sl ([.ref (a 0), .int pr, .int x]) ++ List.replicate (5 - (lg_sl ([.ref (a 0), .int pr, .int x])).length) Slot.unset).toArray = ls at hl ⊢
  have hl : lv_has ls 5 [(0, .ref (a 0)), (1, .int pr), (2, .int x)] := hl
  rw [sp_M_again] at hres
  refine lv_aload_n hx hb d_M_again_0 rfl (lv_at hl 0 rfl) ?_
  refine lv_iconst (v := 0) hx hb d_M_again_1 (by decide) ?_
  refine ml_put (D := (dC, dI)) hx hb hts in_MC tyM tyM_ok nmM hown hK hP hD hS (0) (by decide) (mc_mod kc a mo) rfl 0 (by decide) (hts _ (mC _ wd_341)) (fun _ h9 => h9) rfl (ty := .int) (by decide +kernel) rfl rfl (Nat.le_of_ble_eq_true rfl) (f' := (mcell kc a (u2 mo 0 0 (0 : Int32)))) (mw_0 kc a _ (0 : Int32)) d_M_again_2 (fun H locs hP hD hS => ?_)
  refine lv_aload_n hx hb d_M_again_5 rfl (lv_at hl 0 rfl) ?_
  refine lv_iload_n hx hb d_M_again_6 rfl (lv_at hl 1 rfl) ?_
  refine lv_iload_n hx hb d_M_again_7 rfl (lv_at hl 2 rfl) ?_
  refine ml_calli (va_runV (As := [.int pr, .int x]) (rest := []) ⟨hx, hb, hml, hown, hts⟩ (c_M_file l dC dI kc a _ (u2 mo 0 0 (0 : Int32)) pr x _ rfl) (cwV 2 hts (gd_V mC wd_434 wd_436 ws_17 wd_6 wd_437) rfl rfl rfl hd_M_file ⟨Nat.le_of_ble_eq_true rfl, Nat.le_of_ble_eq_true rfl⟩) ⟨ml_blind, va_recv hK hP (ci := 5) rfl (ml_at (by decide) (mc_mod kc a (u2 mo 0 0 (0 : Int32)))), ml_pre hP hK hD⟩ rfl rfl hl.1 rfl (lv_room (Nat.le_of_ble_eq_true rfl)) d_M_again_8 ⟨Nat.zero_le _, Nat.zero_le _⟩) hD hS hA (fun H locs hP hD hS => ?_)
  refine lv_istore_n (lv' := [(3, .int (sp_M_file (u2 mo 0 0 (0 : Int32)) pr x)), (0, .ref (a 0)), (1, .int pr), (2, .int x)]) hx hb d_M_again_11 rfl hl (by decide) rfl (fun ls hl => ?_)
  refine lv_iload_n hx hb d_M_again_12 rfl (lv_at hl 0 rfl) ?_
  refine lv_if_lt (tgt := 26) hx hb d_M_again_13 (by decide) (fun h_1 => ?_) (fun h_1 => ?_)
  · rw [if_pos h_1] at hres
    refine lv_iconst (v := -1) hx hb d_M_again_26 (by decide) ?_
    obtain ⟨rfl, rfl⟩ := Prod.mk.inj hres
    exact ml_iret hx hb hr hlocks hP hK hD hS d_M_again_27
  · rw [if_neg h_1] at hres
    refine lv_aload_n hx hb d_M_again_16 rfl (lv_at hl 1 rfl) ?_
    refine lv_iload_n hx hb d_M_again_17 rfl (lv_at hl 2 rfl) ?_
    refine ml_calli (va_runV (As := [.int pr]) (rest := []) ⟨hx, hb, hml, hown, hts⟩ (c_M_vacant l dC dI kc a _ (u2 mo 0 0 (0 : Int32)) pr (md_fp (by assumption)) _ rfl) (cwV 1 hts (gd_V mC wd_394 wd_396 ws_9 wd_6 wd_397) rfl rfl rfl hd_M_vacant ⟨Nat.le_of_ble_eq_true rfl, Nat.le_of_ble_eq_true rfl⟩) ⟨ml_blind, va_recv hK hP (ci := 5) rfl (ml_at (by decide) (mc_mod kc a (u2 mo 0 0 (0 : Int32)))), ml_pre hP hK hD⟩ rfl rfl hl.1 rfl (lv_room (Nat.le_of_ble_eq_true rfl)) d_M_again_18 ⟨Nat.zero_le _, Nat.zero_le _⟩) hD hS hA (fun H locs hP hD hS => ?_)
    refine lv_bipush (v := 16) hx hb d_M_again_21 (by decide) ?_
    refine lv_icmp_ne (tgt := 28) hx hb d_M_again_23 (by decide) (fun h_2 => ?_) (fun h_2 => ?_)
    · rw [if_neg h_2] at hres
      refine lv_aload_n hx hb d_M_again_28 rfl (lv_at hl 1 rfl) ?_
      refine lv_iload_n hx hb d_M_again_29 rfl (lv_at hl 2 rfl) ?_
      refine ml_calli (va_runV (As := [.int pr]) (rest := []) ⟨hx, hb, hml, hown, hts⟩ (c_M_vacant l dC dI kc a _ (u2 mo 0 0 (0 : Int32)) pr (md_fp (by assumption)) _ rfl) (cwV 1 hts (gd_V mC wd_394 wd_396 ws_9 wd_6 wd_397) rfl rfl rfl hd_M_vacant ⟨Nat.le_of_ble_eq_true rfl, Nat.le_of_ble_eq_true rfl⟩) ⟨ml_blind, va_recv hK hP (ci := 5) rfl (ml_at (by decide) (mc_mod kc a (u2 mo 0 0 (0 : Int32)))), ml_pre hP hK hD⟩ rfl rfl hl.1 rfl (lv_room (Nat.le_of_ble_eq_true rfl)) d_M_again_30 ⟨Nat.zero_le _, Nat.zero_le _⟩) hD hS hA (fun H locs hP hD hS => ?_)
      refine lv_istore (lv' := [(4, .int (sp_M_vacant (u2 mo 0 0 (0 : Int32)) pr)), (3, .int (sp_M_file (u2 mo 0 0 (0 : Int32)) pr x)), (0, .ref (a 0)), (1, .int pr), (2, .int x)]) hx hb d_M_again_33 hl (by decide) rfl (fun ls hl => ?_)
      refine lv_aload_n hx hb d_M_again_35 rfl (lv_at hl 2 rfl) ?_
      refine ml_get (D := (dC, dI)) hx hb hts in_MC hown hK hP (0) (by decide) (mc_mod kc a (u2 mo 0 0 (0 : Int32))) rfl 1 (by decide) (hts _ (mC _ wd_342)) (fun _ h9 => h9) (v := .ref (a 1)) rfl d_M_again_36 ?_
      refine lv_bipush (v := 16) hx hb d_M_again_39 (by decide) ?_
      refine lv_iload_n hx hb d_M_again_41 rfl (lv_at hl 3 rfl) ?_
      refine lv_imul hx hb d_M_again_42 ?_
      refine lv_iload hx hb d_M_again_43 (lv_at hl 0 rfl) ?_
      refine lv_iadd hx hb d_M_again_45 ?_
      refine lv_iload_n hx hb d_M_again_46 rfl (lv_at hl 1 rfl) ?_
      refine lv_iconst (v := 1) hx hb d_M_again_47 (by decide) ?_
      refine lv_iadd hx hb d_M_again_48 ?_
      refine ml_iast hx hb hK hP hD hS (1) 0 (by decide) (mc_names kc a (u2 mo 0 0 (0 : Int32))) rfl (md_vac (md_fp (by assumption)) (by assumption)) (f' := (mcell kc a (u2 (u2 mo 0 0 (0 : Int32)) 5 (((16 : Int32) * pr) + (sp_M_vacant (u2 mo 0 0 (0 : Int32)) pr)).toNatClampNeg ((sp_M_file (u2 mo 0 0 (0 : Int32)) pr x) + (1 : Int32))))) (mw_names kc a _ (((16 : Int32) * pr) + (sp_M_vacant (u2 mo 0 0 (0 : Int32)) pr)).toNatClampNeg ((sp_M_file (u2 mo 0 0 (0 : Int32)) pr x) + (1 : Int32))) d_M_again_49 (fun H locs hP hD hS => ?_)
      refine lv_iload hx hb d_M_again_50 (lv_at hl 0 rfl) ?_
      obtain ⟨rfl, rfl⟩ := Prod.mk.inj hres
      exact ml_iret hx hb hr hlocks hP hK hD hS d_M_again_52
    · rw [if_pos h_2] at hres
      refine lv_iconst (v := -1) hx hb d_M_again_26 (by decide) ?_
      obtain ⟨rfl, rfl⟩ := Prod.mk.inj hres
      exact ml_iret hx hb hr hlocks hP hK hD hS d_M_again_27
def sp_M_closes (mo : MK) (pr : Int32) (x : Int32) : Int32 × MK :=
  (if (sp_M_named (u2 mo 5 (((16 : Int32) * pr) + x).toNatClampNeg (0 : Int32)) (sp_M_file mo pr x)) = (0 : Int32) then (if (u2 mo 5 (((16 : Int32) * pr) + x).toNatClampNeg (0 : Int32)) 6 (sp_M_file mo pr x).toNatClampNeg = (2 : Int32) then ((1 : Int32), u2 mo 5 (((16 : Int32) * pr) + x).toNatClampNeg (0 : Int32)) else ((0 : Int32), u2 mo 5 (((16 : Int32) * pr) + x).toNatClampNeg (0 : Int32))) else ((0 : Int32), u2 mo 5 (((16 : Int32) * pr) + x).toNatClampNeg (0 : Int32)))
abbrev rm_M_closes : Room := { frames := 2, cells := 0, slots := 0, locals := 42 }
set_option maxHeartbeats 4000000 in
set_option maxRecDepth 100000 in
theorem c_M_closes (l : Launch) (dC : Nat → ClassId) (dI : Nat → Nat → Nat) (kc : Nat → ClassId) (a : Nat → Nat) (sz : Nat) (mo : MK) (pr : Int32) (x : Int32) (hc : ¬ sp_M_file mo pr x < 0) (hM : MN mo) (R' : Int32) (mo' : MK) (hres : sp_M_closes mo pr x = (R', mo')) : Met l y_M_closes ws_M_closes rm_M_closes (va_Pc [.ref (a 0), .int pr, .int x] (ml_B (dC, dI) vwCl (tysD kc) 11 a (mcell kc a mo) sz)) (va_Qi (fun r (_ : Unit) => r = R') (fun _ t => ml_E (dC, dI) vwCl (tysD kc) 11 a (mcell kc a mo') (va_A (ml 11 a (mcell kc a mo)) sz) t) (va_A (ml 11 a (mcell kc a mo)) sz)) 0 0 (va_A (ml 11 a (mcell kc a mo)) sz) := by
  refine Met.ofW (cc := prog_7_method_16_code) (maxL := 4) (ret := (some .boolean)) (by decide) rfl ?_
  intro p e s m args below meth c s₁ B hml hv
  obtain ⟨rfl, hsz, hP, hK, hD0⟩ := hv
  have hx := B.exec
  have hb := B.bytes
  have hr := B.returns
  have hts := atoms_spec (ws := ws_M_closes) B.pre
  have hown : s.vm.findClass "HandleDeskModel" = some m.cls := findClass_of_methodNamed B.named
  have hlocks := B.notSynchronized
  subst hsz
  have hD := hD0.self (sz := s.heap.size)
  generalize hAe : va_A (ml 11 a (mcell kc a mo)) s.heap.size = A at hD ⊢
  have hA : ∀ q : Nat, s.heap.size ≤ q → A q := fun q h => by rw [← hAe]; exact Or.inr h
  have hS : va_S A s.heap s.heap [] := va_S.rf
  have hl := lv_entry ([.ref (a 0), .int pr, .int x]) (n := 4) (Nat.le_of_ble_eq_true rfl)
  rw [lg_entry_eq]
  generalize (lg_sl ([.ref (a 0), .int pr, .int x]) ++ List.replicate (4 - (lg_sl ([.ref (a 0), .int pr, .int x])).length) Slot.unset).toArray = ls at hl ⊢
  have hl : lv_has ls 4 [(0, .ref (a 0)), (1, .int pr), (2, .int x)] := hl
  rw [sp_M_closes] at hres
  refine lv_aload_n hx hb d_M_closes_0 rfl (lv_at hl 0 rfl) ?_
  refine lv_iload_n hx hb d_M_closes_1 rfl (lv_at hl 1 rfl) ?_
  refine lv_iload_n hx hb d_M_closes_2 rfl (lv_at hl 2 rfl) ?_
  refine ml_calli (va_runV (As := [.int pr, .int x]) (rest := []) ⟨hx, hb, hml, hown, hts⟩ (c_M_file l dC dI kc a _ mo pr x _ rfl) (cwV 2 hts (gd_V mC wd_434 wd_436 ws_17 wd_6 wd_437) rfl rfl rfl hd_M_file ⟨Nat.le_of_ble_eq_true rfl, Nat.le_of_ble_eq_true rfl⟩) ⟨ml_blind, va_recv hK hP (ci := 5) rfl (ml_at (by decide) (mc_mod kc a mo)), ml_pre hP hK hD⟩ rfl rfl hl.1 rfl (lv_room (Nat.le_of_ble_eq_true rfl)) d_M_closes_3 ⟨Nat.zero_le _, Nat.zero_le _⟩) hD hS hA (fun H locs hP hD hS => ?_)
  refine lv_istore_n (lv' := [(3, .int (sp_M_file mo pr x)), (0, .ref (a 0)), (1, .int pr), (2, .int x)]) hx hb d_M_closes_6 rfl hl (by decide) rfl (fun ls hl => ?_)
  refine lv_aload_n hx hb d_M_closes_7 rfl (lv_at hl 1 rfl) ?_
  refine ml_get (D := (dC, dI)) hx hb hts in_MC hown hK hP (0) (by decide) (mc_mod kc a mo) rfl 1 (by decide) (hts _ (mC _ wd_342)) (fun _ h9 => h9) (v := .ref (a 1)) rfl d_M_closes_8 ?_
  refine lv_bipush (v := 16) hx hb d_M_closes_11 (by decide) ?_
  refine lv_iload_n hx hb d_M_closes_13 rfl (lv_at hl 2 rfl) ?_
  refine lv_imul hx hb d_M_closes_14 ?_
  refine lv_iload_n hx hb d_M_closes_15 rfl (lv_at hl 3 rfl) ?_
  refine lv_iadd hx hb d_M_closes_16 ?_
  refine lv_iconst (v := 0) hx hb d_M_closes_17 (by decide) ?_
  refine ml_iast hx hb hK hP hD hS (1) 0 (by decide) (mc_names kc a mo) rfl (md_fi hc) (f' := (mcell kc a (u2 mo 5 (((16 : Int32) * pr) + x).toNatClampNeg (0 : Int32)))) (mw_names kc a _ (((16 : Int32) * pr) + x).toNatClampNeg (0 : Int32)) d_M_closes_18 (fun H locs hP hD hS => ?_)
  refine lv_aload_n hx hb d_M_closes_19 rfl (lv_at hl 1 rfl) ?_
  refine lv_iload_n hx hb d_M_closes_20 rfl (lv_at hl 0 rfl) ?_
  refine ml_calli (va_runV (As := [.int (sp_M_file mo pr x)]) (rest := []) ⟨hx, hb, hml, hown, hts⟩ (c_M_named l dC dI kc a _ (u2 mo 5 (((16 : Int32) * pr) + x).toNatClampNeg (0 : Int32)) (sp_M_file mo pr x) _ rfl) (cwV 1 hts (gd_V mC wd_402 wd_404 ws_11 wd_6 wd_405) rfl rfl rfl hd_M_named ⟨Nat.le_of_ble_eq_true rfl, Nat.le_of_ble_eq_true rfl⟩) ⟨ml_blind, va_recv hK hP (ci := 5) rfl (ml_at (by decide) (mc_mod kc a (u2 mo 5 (((16 : Int32) * pr) + x).toNatClampNeg (0 : Int32)))), ml_pre hP hK hD⟩ rfl rfl hl.1 rfl (lv_room (Nat.le_of_ble_eq_true rfl)) d_M_closes_21 ⟨Nat.zero_le _, Nat.zero_le _⟩) hD hS hA (fun H locs hP hD hS => ?_)
  refine lv_if_ne (tgt := 41) hx hb d_M_closes_24 (by decide) (fun h_1 => ?_) (fun h_1 => ?_)
  · rw [if_neg h_1] at hres
    refine lv_iconst (v := 0) hx hb d_M_closes_41 (by decide) ?_
    obtain ⟨rfl, rfl⟩ := Prod.mk.inj hres
    exact ml_zret hx hb hr (by decide) hlocks hP hK hD hS d_M_closes_42
  · rw [if_pos h_1] at hres
    refine lv_aload_n hx hb d_M_closes_27 rfl (lv_at hl 1 rfl) ?_
    refine ml_get (D := (dC, dI)) hx hb hts in_MC hown hK hP (0) (by decide) (mc_mod kc a (u2 mo 5 (((16 : Int32) * pr) + x).toNatClampNeg (0 : Int32))) rfl 2 (by decide) (hts _ (mC _ wd_343)) (fun _ h9 => h9) (v := .ref (a 2)) rfl d_M_closes_28 ?_
    refine lv_iload_n hx hb d_M_closes_31 rfl (lv_at hl 0 rfl) ?_
    refine ml_iald hx hb hK hP (2) 0 (by decide) (mc_kind kc a (u2 mo 5 (((16 : Int32) * pr) + x).toNatClampNeg (0 : Int32))) rfl (md_fk hM hc) d_M_closes_32 ?_
    refine lv_iconst (v := 2) hx hb d_M_closes_33 (by decide) ?_
    refine lv_icmp_ne (tgt := 41) hx hb d_M_closes_34 (by decide) (fun h_2 => ?_) (fun h_2 => ?_)
    · rw [if_neg h_2] at hres
      refine lv_iconst (v := 0) hx hb d_M_closes_41 (by decide) ?_
      obtain ⟨rfl, rfl⟩ := Prod.mk.inj hres
      exact ml_zret hx hb hr (by decide) hlocks hP hK hD hS d_M_closes_42
    · rw [if_pos h_2] at hres
      refine lv_iconst (v := 1) hx hb d_M_closes_37 (by decide) ?_
      refine lv_goto (tgt := 42) hx hb d_M_closes_38 (by decide) ?_
      obtain ⟨rfl, rfl⟩ := Prod.mk.inj hres
      exact ml_zret hx hb hr (by decide) hlocks hP hK hD hS d_M_closes_42
def sp_M_close (mo : MK) (pr : Int32) (x : Int32) : Int32 × MK :=
  (if (0 : Int32) ≤ (sp_M_file (u2 mo 0 0 (0 : Int32)) pr x) then (if (sp_M_closes (u2 mo 0 0 (0 : Int32)) pr x).1 = (0 : Int32) then ((0 : Int32), (sp_M_closes (u2 mo 0 0 (0 : Int32)) pr x).2) else (((sp_M_closes (u2 mo 0 0 (0 : Int32)) pr x).2) 7 (sp_M_file (u2 mo 0 0 (0 : Int32)) pr x).toNatClampNeg, (sp_M_closes (u2 mo 0 0 (0 : Int32)) pr x).2)) else ((-1 : Int32), u2 mo 0 0 (0 : Int32)))
abbrev rm_M_close : Room := { frames := 3, cells := 0, slots := 0, locals := 65 }
set_option maxHeartbeats 4000000 in
set_option maxRecDepth 100000 in
theorem c_M_close (l : Launch) (dC : Nat → ClassId) (dI : Nat → Nat → Nat) (kc : Nat → ClassId) (a : Nat → Nat) (sz : Nat) (mo : MK) (pr : Int32) (x : Int32) (hM : MN mo) (R' : Int32) (mo' : MK) (hres : sp_M_close mo pr x = (R', mo')) : Met l y_M_close ws_M_close rm_M_close (va_Pc [.ref (a 0), .int pr, .int x] (ml_B (dC, dI) vwCl (tysD kc) 11 a (mcell kc a mo) sz)) (va_Qi (fun r (_ : Unit) => r = R') (fun _ t => ml_E (dC, dI) vwCl (tysD kc) 11 a (mcell kc a mo') (va_A (ml 11 a (mcell kc a mo)) sz) t) (va_A (ml 11 a (mcell kc a mo)) sz)) 0 0 (va_A (ml 11 a (mcell kc a mo)) sz) := by
  refine Met.ofW (cc := prog_7_method_17_code) (maxL := 4) (ret := (some .int)) (by decide) rfl ?_
  intro p e s m args below meth c s₁ B hml hv
  obtain ⟨rfl, hsz, hP, hK, hD0⟩ := hv
  have hx := B.exec
  have hb := B.bytes
  have hr := B.returns
  have hts := atoms_spec (ws := ws_M_close) B.pre
  have hown : s.vm.findClass "HandleDeskModel" = some m.cls := findClass_of_methodNamed B.named
  have hlocks := B.notSynchronized
  subst hsz
  have hD := hD0.self (sz := s.heap.size)
  generalize hAe : va_A (ml 11 a (mcell kc a mo)) s.heap.size = A at hD ⊢
  have hA : ∀ q : Nat, s.heap.size ≤ q → A q := fun q h => by rw [← hAe]; exact Or.inr h
  have hS : va_S A s.heap s.heap [] := va_S.rf
  have hl := lv_entry ([.ref (a 0), .int pr, .int x]) (n := 4) (Nat.le_of_ble_eq_true rfl)
  rw [lg_entry_eq]
  generalize (lg_sl ([.ref (a 0), .int pr, .int x]) ++ List.replicate (4 - (lg_sl ([.ref (a 0), .int pr, .int x])).length) Slot.unset).toArray = ls at hl ⊢
  have hl : lv_has ls 4 [(0, .ref (a 0)), (1, .int pr), (2, .int x)] := hl
  rw [sp_M_close] at hres
  refine lv_aload_n hx hb d_M_close_0 rfl (lv_at hl 0 rfl) ?_
  refine lv_iconst (v := 0) hx hb d_M_close_1 (by decide) ?_
  refine ml_put (D := (dC, dI)) hx hb hts in_MC tyM tyM_ok nmM hown hK hP hD hS (0) (by decide) (mc_mod kc a mo) rfl 0 (by decide) (hts _ (mC _ wd_341)) (fun _ h9 => h9) rfl (ty := .int) (by decide +kernel) rfl rfl (Nat.le_of_ble_eq_true rfl) (f' := (mcell kc a (u2 mo 0 0 (0 : Int32)))) (mw_0 kc a _ (0 : Int32)) d_M_close_2 (fun H locs hP hD hS => ?_)
  refine lv_aload_n hx hb d_M_close_5 rfl (lv_at hl 0 rfl) ?_
  refine lv_iload_n hx hb d_M_close_6 rfl (lv_at hl 1 rfl) ?_
  refine lv_iload_n hx hb d_M_close_7 rfl (lv_at hl 2 rfl) ?_
  refine ml_calli (va_runV (As := [.int pr, .int x]) (rest := []) ⟨hx, hb, hml, hown, hts⟩ (c_M_file l dC dI kc a _ (u2 mo 0 0 (0 : Int32)) pr x _ rfl) (cwV 2 hts (gd_V mC wd_434 wd_436 ws_17 wd_6 wd_437) rfl rfl rfl hd_M_file ⟨Nat.le_of_ble_eq_true rfl, Nat.le_of_ble_eq_true rfl⟩) ⟨ml_blind, va_recv hK hP (ci := 5) rfl (ml_at (by decide) (mc_mod kc a (u2 mo 0 0 (0 : Int32)))), ml_pre hP hK hD⟩ rfl rfl hl.1 rfl (lv_room (Nat.le_of_ble_eq_true rfl)) d_M_close_8 ⟨Nat.zero_le _, Nat.zero_le _⟩) hD hS hA (fun H locs hP hD hS => ?_)
  refine lv_istore_n (lv' := [(3, .int (sp_M_file (u2 mo 0 0 (0 : Int32)) pr x)), (0, .ref (a 0)), (1, .int pr), (2, .int x)]) hx hb d_M_close_11 rfl hl (by decide) rfl (fun ls hl => ?_)
  refine lv_iload_n hx hb d_M_close_12 rfl (lv_at hl 0 rfl) ?_
  refine lv_if_ge (tgt := 18) hx hb d_M_close_13 (by decide) (fun h_1 => ?_) (fun h_1 => ?_)
  · rw [if_pos h_1] at hres
    refine lv_aload_n hx hb d_M_close_18 rfl (lv_at hl 1 rfl) ?_
    refine lv_iload_n hx hb d_M_close_19 rfl (lv_at hl 2 rfl) ?_
    refine lv_iload_n hx hb d_M_close_20 rfl (lv_at hl 3 rfl) ?_
    refine ml_calli (va_runV (As := [.int pr, .int x]) (rest := []) ⟨hx, hb, hml, hown, hts⟩ (c_M_closes l dC dI kc a _ (u2 mo 0 0 (0 : Int32)) pr x (md_nn (by assumption)) (MN_0 hM) (sp_M_closes (u2 mo 0 0 (0 : Int32)) pr x).1 (sp_M_closes (u2 mo 0 0 (0 : Int32)) pr x).2 (pe _)) (cwV 2 hts (gd_V mC wd_442 wd_444 ws_18 wd_6 wd_445) rfl rfl rfl hd_M_closes ⟨Nat.le_of_ble_eq_true rfl, Nat.le_of_ble_eq_true rfl⟩) ⟨ml_blind, va_recv hK hP (ci := 5) rfl (ml_at (by decide) (mc_mod kc a (u2 mo 0 0 (0 : Int32)))), ml_pre hP hK hD⟩ rfl rfl hl.1 rfl (lv_room (Nat.le_of_ble_eq_true rfl)) d_M_close_21 ⟨Nat.zero_le _, Nat.zero_le _⟩) hD hS hA (fun H locs hP hD hS => ?_)
    refine lv_if_eq (tgt := 36) hx hb d_M_close_24 (by decide) (fun h_2 => ?_) (fun h_2 => ?_)
    · rw [if_pos h_2] at hres
      refine lv_iconst (v := 0) hx hb d_M_close_36 (by decide) ?_
      obtain ⟨rfl, rfl⟩ := Prod.mk.inj hres
      exact ml_iret hx hb hr hlocks hP hK hD hS d_M_close_37
    · rw [if_neg h_2] at hres
      refine lv_aload_n hx hb d_M_close_27 rfl (lv_at hl 1 rfl) ?_
      refine ml_get (D := (dC, dI)) hx hb hts in_MC hown hK hP (0) (by decide) (mc_mod kc a ((sp_M_closes (u2 mo 0 0 (0 : Int32)) pr x).2)) rfl 3 (by decide) (hts _ (mC _ wd_344)) (fun _ h9 => h9) (v := .ref (a 3)) rfl d_M_close_28 ?_
      refine lv_iload_n hx hb d_M_close_31 rfl (lv_at hl 0 rfl) ?_
      refine ml_iald hx hb hK hP (3) 0 (by decide) (mc_what kc a ((sp_M_closes (u2 mo 0 0 (0 : Int32)) pr x).2)) rfl (md_fk (MN_0 hM) (md_nn (by assumption))) d_M_close_32 ?_
      refine lv_goto (tgt := 37) hx hb d_M_close_33 (by decide) ?_
      obtain ⟨rfl, rfl⟩ := Prod.mk.inj hres
      exact ml_iret hx hb hr hlocks hP hK hD hS d_M_close_37
  · rw [if_neg h_1] at hres
    refine lv_iconst (v := -1) hx hb d_M_close_16 (by decide) ?_
    obtain ⟨rfl, rfl⟩ := Prod.mk.inj hres
    exact ml_iret hx hb hr hlocks hP hK hD hS d_M_close_17
def sp_M_left (mo : MK) (kx : Int32) : Int32 × MK :=
  (if kx < (0 : Int32) then ((0 : Int32), u2 mo 0 0 (0 : Int32)) else (if ((u2 mo 0 0 (0 : Int32)) 1 0) ≤ kx then ((0 : Int32), u2 mo 0 0 (0 : Int32)) else ((u2 mo 0 0 (0 : Int32)) 12 kx.toNatClampNeg, u2 mo 0 0 (0 : Int32))))
abbrev rm_M_left : Room := { frames := 0, cells := 0, slots := 0, locals := 0 }
set_option maxHeartbeats 4000000 in
set_option maxRecDepth 100000 in
theorem c_M_left (l : Launch) (dC : Nat → ClassId) (dI : Nat → Nat → Nat) (kc : Nat → ClassId) (a : Nat → Nat) (sz : Nat) (mo : MK) (kx : Int32) (hl1 : ∃ t, t ≤ 16 ∧ mo 1 0 = nI t) (R' : Int32) (mo' : MK) (hres : sp_M_left mo kx = (R', mo')) : Met l y_M_left ws_M_left rm_M_left (va_Pc [.ref (a 0), .int kx] (ml_B (dC, dI) vwCl (tysD kc) 11 a (mcell kc a mo) sz)) (va_Qi (fun r (_ : Unit) => r = R') (fun _ t => ml_E (dC, dI) vwCl (tysD kc) 11 a (mcell kc a mo') (va_A (ml 11 a (mcell kc a mo)) sz) t) (va_A (ml 11 a (mcell kc a mo)) sz)) 0 0 (va_A (ml 11 a (mcell kc a mo)) sz) := by
  refine Met.ofW (cc := prog_7_method_19_code) (maxL := 2) (ret := (some .int)) (by decide) rfl ?_
  intro p e s m args below meth c s₁ B hml hv
  obtain ⟨rfl, hsz, hP, hK, hD0⟩ := hv
  have hx := B.exec
  have hb := B.bytes
  have hr := B.returns
  have hts := atoms_spec (ws := ws_M_left) B.pre
  have hown : s.vm.findClass "HandleDeskModel" = some m.cls := findClass_of_methodNamed B.named
  have hlocks := B.notSynchronized
  subst hsz
  have hD := hD0.self (sz := s.heap.size)
  generalize hAe : va_A (ml 11 a (mcell kc a mo)) s.heap.size = A at hD ⊢
  have hA : ∀ q : Nat, s.heap.size ≤ q → A q := fun q h => by rw [← hAe]; exact Or.inr h
  have hS : va_S A s.heap s.heap [] := va_S.rf
  have hl := lv_entry ([.ref (a 0), .int kx]) (n := 2) (Nat.le_of_ble_eq_true rfl)
  rw [lg_entry_eq]
  generalize (lg_sl ([.ref (a 0), .int kx]) ++ List.replicate (2 - (lg_sl ([.ref (a 0), .int kx])).length) Slot.unset).toArray = ls at hl ⊢
  have hl : lv_has ls 2 [(0, .ref (a 0)), (1, .int kx)] := hl
  rw [sp_M_left] at hres
  refine lv_aload_n hx hb d_M_left_0 rfl (lv_at hl 0 rfl) ?_
  refine lv_iconst (v := 0) hx hb d_M_left_1 (by decide) ?_
  refine ml_put (D := (dC, dI)) hx hb hts in_MC tyM tyM_ok nmM hown hK hP hD hS (0) (by decide) (mc_mod kc a mo) rfl 0 (by decide) (hts _ (mC _ wd_341)) (fun _ h9 => h9) rfl (ty := .int) (by decide +kernel) rfl rfl (Nat.le_of_ble_eq_true rfl) (f' := (mcell kc a (u2 mo 0 0 (0 : Int32)))) (mw_0 kc a _ (0 : Int32)) d_M_left_2 (fun H locs hP hD hS => ?_)
  refine lv_iload_n hx hb d_M_left_5 rfl (lv_at hl 1 rfl) ?_
  refine lv_if_lt (tgt := 26) hx hb d_M_left_6 (by decide) (fun h_1 => ?_) (fun h_1 => ?_)
  · rw [if_pos h_1] at hres
    refine lv_iconst (v := 0) hx hb d_M_left_26 (by decide) ?_
    obtain ⟨rfl, rfl⟩ := Prod.mk.inj hres
    exact ml_iret hx hb hr hlocks hP hK hD hS d_M_left_27
  · rw [if_neg h_1] at hres
    refine lv_iload_n hx hb d_M_left_9 rfl (lv_at hl 1 rfl) ?_
    refine lv_aload_n hx hb d_M_left_10 rfl (lv_at hl 0 rfl) ?_
    refine ml_get (D := (dC, dI)) hx hb hts in_MC hown hK hP (0) (by decide) (mc_mod kc a (u2 mo 0 0 (0 : Int32))) rfl 8 (by decide) (hts _ (mC _ wd_349)) (fun _ h9 => h9) (v := .int ((u2 mo 0 0 (0 : Int32)) 1 0)) rfl d_M_left_11 ?_
    refine lv_icmp_ge (tgt := 26) hx hb d_M_left_14 (by decide) (fun h_2 => ?_) (fun h_2 => ?_)
    · rw [if_pos h_2] at hres
      refine lv_iconst (v := 0) hx hb d_M_left_26 (by decide) ?_
      obtain ⟨rfl, rfl⟩ := Prod.mk.inj hres
      exact ml_iret hx hb hr hlocks hP hK hD hS d_M_left_27
    · rw [if_neg h_2] at hres
      refine lv_aload_n hx hb d_M_left_17 rfl (lv_at hl 0 rfl) ?_
      refine ml_get (D := (dC, dI)) hx hb hts in_MC hown hK hP (0) (by decide) (mc_mod kc a (u2 mo 0 0 (0 : Int32))) rfl 9 (by decide) (hts _ (mC _ wd_350)) (fun _ h9 => h9) (v := .ref (a 8)) rfl d_M_left_18 ?_
      refine lv_iload_n hx hb d_M_left_21 rfl (lv_at hl 1 rfl) ?_
      refine ml_iald hx hb hK hP (8) 0 (by decide) (mc_left kc a (u2 mo 0 0 (0 : Int32))) rfl (md_lf hl1 (by assumption) (by assumption)) d_M_left_22 ?_
      refine lv_goto (tgt := 27) hx hb d_M_left_23 (by decide) ?_
      obtain ⟨rfl, rfl⟩ := Prod.mk.inj hres
      exact ml_iret hx hb hr hlocks hP hK hD hS d_M_left_27
def sp_M_puts (mo : MK) (bt : Int32) : MK :=
  (u2 (u2 mo 14 ((mo 4 0) - (mo 4 0) / (4096 : Int32) * (4096 : Int32)).toNatClampNeg (vp_nar .byte bt.toInt8.toInt32)) 4 0 (((u2 mo 14 ((mo 4 0) - (mo 4 0) / (4096 : Int32) * (4096 : Int32)).toNatClampNeg (vp_nar .byte bt.toInt8.toInt32)) 4 0) + (1 : Int32)))
abbrev rm_M_puts : Room := { frames := 0, cells := 0, slots := 0, locals := 0 }
set_option maxHeartbeats 4000000 in
set_option maxRecDepth 100000 in
theorem c_M_puts (l : Launch) (dC : Nat → ClassId) (dI : Nat → Nat → Nat) (kc : Nat → ClassId) (a : Nat → Nat) (sz : Nat) (mo : MK) (bt : Int32) (hs : ∃ n, n + 1 < 2 ^ 30 ∧ mo 4 0 = nI n) (mo' : MK) (hres : sp_M_puts mo bt = mo') : Met l y_M_puts ws_M_puts rm_M_puts (va_Pc [.ref (a 0), .int bt] (ml_B (dC, dI) vwCl (tysD kc) 11 a (mcell kc a mo) sz)) (va_Qv (fun (_ : Unit) => True) (fun _ t => ml_E (dC, dI) vwCl (tysD kc) 11 a (mcell kc a mo') (va_A (ml 11 a (mcell kc a mo)) sz) t) (va_A (ml 11 a (mcell kc a mo)) sz)) 0 0 (va_A (ml 11 a (mcell kc a mo)) sz) := by
  refine Met.ofW (cc := prog_7_method_26_code) (maxL := 2) (ret := (none : Option Jvm.ClassFile.FieldType)) (by decide) rfl ?_
  intro p e s m args below meth c s₁ B hml hv
  obtain ⟨rfl, hsz, hP, hK, hD0⟩ := hv
  have hx := B.exec
  have hb := B.bytes
  have hr := B.returns
  have hts := atoms_spec (ws := ws_M_puts) B.pre
  have hown : s.vm.findClass "HandleDeskModel" = some m.cls := findClass_of_methodNamed B.named
  have hlocks := B.notSynchronized
  subst hsz
  have hD := hD0.self (sz := s.heap.size)
  generalize hAe : va_A (ml 11 a (mcell kc a mo)) s.heap.size = A at hD ⊢
  have hA : ∀ q : Nat, s.heap.size ≤ q → A q := fun q h => by rw [← hAe]; exact Or.inr h
  have hS : va_S A s.heap s.heap [] := va_S.rf
  have hl := lv_entry ([.ref (a 0), .int bt]) (n := 2) (Nat.le_of_ble_eq_true rfl)
  rw [lg_entry_eq]
  generalize (lg_sl ([.ref (a 0), .int bt]) ++ List.replicate (2 - (lg_sl ([.ref (a 0), .int bt])).length) Slot.unset).toArray = ls at hl ⊢
  have hl : lv_has ls 2 [(0, .ref (a 0)), (1, .int bt)] := hl
  rw [sp_M_puts] at hres
  refine lv_aload_n hx hb d_M_puts_0 rfl (lv_at hl 0 rfl) ?_
  refine ml_get (D := (dC, dI)) hx hb hts in_MC hown hK hP (0) (by decide) (mc_mod kc a mo) rfl 14 (by decide) (hts _ (mC _ wd_355)) (fun _ h9 => h9) (v := .ref (a 10)) rfl d_M_puts_1 ?_
  refine lv_aload_n hx hb d_M_puts_4 rfl (lv_at hl 0 rfl) ?_
  refine ml_get (D := (dC, dI)) hx hb hts in_MC hown hK hP (0) (by decide) (mc_mod kc a mo) rfl 13 (by decide) (hts _ (mC _ wd_354)) (fun _ h9 => h9) (v := .int (mo 4 0)) rfl d_M_puts_5 ?_
  refine lv_sipush (v := 4096) hx hb d_M_puts_8 (by decide) ?_
  refine lv_irem hx hb d_M_puts_11 (by decide) ?_
  refine lv_iload_n hx hb d_M_puts_12 rfl (lv_at hl 1 rfl) ?_
  refine lv_i2b (v := bt.toInt8.toInt32) hx hb d_M_puts_13 rfl ?_
  refine ml_bast hx hb hK hP hD hS (10) 1 (by decide) (mc_screen kc a mo) rfl (md_sc hs) (f' := (mcell kc a (u2 mo 14 ((mo 4 0) - (mo 4 0) / (4096 : Int32) * (4096 : Int32)).toNatClampNeg (vp_nar .byte bt.toInt8.toInt32)))) (mw_screen kc a _ ((mo 4 0) - (mo 4 0) / (4096 : Int32) * (4096 : Int32)).toNatClampNeg (vp_nar .byte bt.toInt8.toInt32)) d_M_puts_14 (fun H locs hP hD hS => ?_)
  refine lv_aload_n hx hb d_M_puts_15 rfl (lv_at hl 0 rfl) ?_
  refine lv_dup hx hb d_M_puts_16 rfl ?_
  refine ml_get (D := (dC, dI)) hx hb hts in_MC hown hK hP (0) (by decide) (mc_mod kc a (u2 mo 14 ((mo 4 0) - (mo 4 0) / (4096 : Int32) * (4096 : Int32)).toNatClampNeg (vp_nar .byte bt.toInt8.toInt32))) rfl 13 (by decide) (hts _ (mC _ wd_354)) (fun _ h9 => h9) (v := .int ((u2 mo 14 ((mo 4 0) - (mo 4 0) / (4096 : Int32) * (4096 : Int32)).toNatClampNeg (vp_nar .byte bt.toInt8.toInt32)) 4 0)) rfl d_M_puts_17 ?_
  refine lv_iconst (v := 1) hx hb d_M_puts_20 (by decide) ?_
  refine lv_iadd hx hb d_M_puts_21 ?_
  refine ml_put (D := (dC, dI)) hx hb hts in_MC tyM tyM_ok nmM hown hK hP hD hS (0) (by decide) (mc_mod kc a (u2 mo 14 ((mo 4 0) - (mo 4 0) / (4096 : Int32) * (4096 : Int32)).toNatClampNeg (vp_nar .byte bt.toInt8.toInt32))) rfl 13 (by decide) (hts _ (mC _ wd_354)) (fun _ h9 => h9) rfl (ty := .int) (by decide +kernel) rfl rfl (Nat.le_of_ble_eq_true rfl) (f' := (mcell kc a (u2 (u2 mo 14 ((mo 4 0) - (mo 4 0) / (4096 : Int32) * (4096 : Int32)).toNatClampNeg (vp_nar .byte bt.toInt8.toInt32)) 4 0 (((u2 mo 14 ((mo 4 0) - (mo 4 0) / (4096 : Int32) * (4096 : Int32)).toNatClampNeg (vp_nar .byte bt.toInt8.toInt32)) 4 0) + (1 : Int32))))) (mw_4 kc a _ (((u2 mo 14 ((mo 4 0) - (mo 4 0) / (4096 : Int32) * (4096 : Int32)).toNatClampNeg (vp_nar .byte bt.toInt8.toInt32)) 4 0) + (1 : Int32))) d_M_puts_22 (fun H locs hP hD hS => ?_)
  subst hres
  exact ml_vret hx hb hr hlocks hP hK hD hS d_M_puts_25
