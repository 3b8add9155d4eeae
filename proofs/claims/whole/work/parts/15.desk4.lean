def sp_open (d : DK) (pr : Int32) (ki : Int32) (ino : Int32) (hw : Int32) : Int32 × DK :=
  (if (sp_isProcess pr) = (0 : Int32) then ((-1 : Int32), d) else (if (sp_isOpenable ki) = (0 : Int32) then ((-1 : Int32), d) else (if (sp_isHow hw) = (0 : Int32) then ((-1 : Int32), d) else (oc (sp_freeFile d 0) (if (sp_freeDescriptor d pr 0) = (-1 : Int32) then ((-1 : Int32), d) else ((-1 : Int32), d)) (fun i_5 => (if (sp_freeDescriptor d pr 0) = (-1 : Int32) then ((-1 : Int32), d) else (if ki = (2 : Int32) then ((sp_freeDescriptor d pr 0), (sp_setName (sI (sp_File_begin d i_5 ki hw) 3 i_5.val ino) pr (sp_freeDescriptor d pr 0) i_5)) else ((sp_freeDescriptor d pr 0), (sp_setName (sp_File_begin d i_5 ki hw) pr (sp_freeDescriptor d pr 0) i_5)))))))))
abbrev rm_open : Room := { frames := 3, cells := 0, slots := 0, locals := 65 }
set_option maxHeartbeats 4000000 in
set_option maxRecDepth 100000 in
theorem c_open (l : Launch) (dC : Nat → ClassId) (dI : Nat → Nat → Nat) (kc : Nat → ClassId) (a : Nat → Nat) (sz : Nat) (d : DK) (pr : Int32) (ki : Int32) (ino : Int32) (hw : Int32) (R' : Int32) (d' : DK) (hres : sp_open d pr ki ino hw = (R', d')) : Met l y_open ws_open rm_open (va_Pc [.ref (a 0), .int pr, .int ki, .int ino, .int hw] (ml_B (dC, dI) vwCl (tysD kc) 57 a (dcell kc a d) sz)) (va_Qi (fun r (_ : Unit) => r = R') (fun _ t => ml_E (dC, dI) vwCl (tysD kc) 57 a (dcell kc a d') (va_A (ml 57 a (dcell kc a d)) sz) t) (va_A (ml 57 a (dcell kc a d)) sz)) 0 0 (va_A (ml 57 a (dcell kc a d)) sz) := by
  refine Met.ofW (cc := prog_1_method_2_code) (maxL := 7) (ret := (some .int)) (by decide) rfl ?_
  intro p e s m args below meth c s₁ B hml hv
  obtain ⟨rfl, hsz, hP, hK, hD0⟩ := hv
  have hx := B.exec
  have hb := B.bytes
  have hr := B.returns
  have hts := atoms_spec (ws := ws_open) B.pre
  have hown : s.vm.findClass "HandleDesk" = some m.cls := findClass_of_methodNamed B.named
  have hlocks := B.notSynchronized
  subst hsz
  have hD := hD0.self (sz := s.heap.size)
  generalize hAe : va_A (ml 57 a (dcell kc a d)) s.heap.size = A at hD ⊢
  have hA : ∀ q : Nat, s.heap.size ≤ q → A q := fun q h => by rw [← hAe]; exact Or.inr h
  have hS : va_S A s.heap s.heap [] := va_S.rf
  have hl := lv_entry ([.ref (a 0), .int pr, .int ki, .int ino, .int hw]) (n := 7) (Nat.le_of_ble_eq_true rfl)
  rw [lg_entry_eq]
  generalize (lg_sl ([.ref (a 0), .int pr, .int ki, .int ino, .int hw]) ++ List.replicate (7 - (lg_sl ([.ref (a 0), .int pr, .int ki, .int ino, .int hw])).length) Slot.unset).toArray = ls at hl ⊢
  have hl : lv_has ls 7 [(0, .ref (a 0)), (1, .int pr), (2, .int ki), (3, .int ino), (4, .int hw)] := hl
  rw [sp_open] at hres
  refine lv_iload_n hx hb d_open_0 rfl (lv_at hl 1 rfl) ?_
  refine ml_calli (va_runS (As := [.int pr]) (rest := []) ⟨hx, hb, hml, hown, hts⟩ (c_isProcess l dC dI kc a _ d pr _ rfl) (cwS 1 hts (gd_S mC wd_149 wd_150 wd_1 wd_151) rfl rfl rfl hd_isProcess ⟨Nat.le_of_ble_eq_true rfl, Nat.le_of_ble_eq_true rfl⟩) ⟨ml_blind, ml_pre hP hK hD⟩ rfl rfl hl.1 rfl (lv_room (Nat.le_of_ble_eq_true rfl)) d_open_1 ⟨Nat.zero_le _, Nat.zero_le _⟩) hD hS hA (fun H locs hP hD hS => ?_)
  refine lv_if_eq (tgt := 22) hx hb d_open_4 (by decide) (fun h_1 => ?_) (fun h_1 => ?_)
  · rw [if_pos h_1] at hres
    refine lv_iconst (v := -1) hx hb d_open_22 (by decide) ?_
    obtain ⟨rfl, rfl⟩ := Prod.mk.inj hres
    exact ml_iret hx hb hr hlocks hP hK hD hS d_open_23
  · rw [if_neg h_1] at hres
    refine lv_iload_n hx hb d_open_7 rfl (lv_at hl 2 rfl) ?_
    refine ml_calli (va_runS (As := [.int ki]) (rest := []) ⟨hx, hb, hml, hown, hts⟩ (c_isOpenable l dC dI kc a _ d ki _ rfl) (cwS 1 hts (gd_S mC wd_152 wd_153 wd_1 wd_154) rfl rfl rfl hd_isOpenable ⟨Nat.le_of_ble_eq_true rfl, Nat.le_of_ble_eq_true rfl⟩) ⟨ml_blind, ml_pre hP hK hD⟩ rfl rfl hl.1 rfl (lv_room (Nat.le_of_ble_eq_true rfl)) d_open_8 ⟨Nat.zero_le _, Nat.zero_le _⟩) hD hS hA (fun H locs hP hD hS => ?_)
    refine lv_if_eq (tgt := 22) hx hb d_open_11 (by decide) (fun h_2 => ?_) (fun h_2 => ?_)
    · rw [if_pos h_2] at hres
      refine lv_iconst (v := -1) hx hb d_open_22 (by decide) ?_
      obtain ⟨rfl, rfl⟩ := Prod.mk.inj hres
      exact ml_iret hx hb hr hlocks hP hK hD hS d_open_23
    · rw [if_neg h_2] at hres
      refine lv_iload hx hb d_open_14 (lv_at hl 4 rfl) ?_
      refine ml_calli (va_runS (As := [.int hw]) (rest := []) ⟨hx, hb, hml, hown, hts⟩ (c_isHow l dC dI kc a _ d hw _ rfl) (cwS 1 hts (gd_S mC wd_155 wd_156 wd_1 wd_157) rfl rfl rfl hd_isHow ⟨Nat.le_of_ble_eq_true rfl, Nat.le_of_ble_eq_true rfl⟩) ⟨ml_blind, ml_pre hP hK hD⟩ rfl rfl hl.1 rfl (lv_room (Nat.le_of_ble_eq_true rfl)) d_open_16 ⟨Nat.zero_le _, Nat.zero_le _⟩) hD hS hA (fun H locs hP hD hS => ?_)
      refine lv_if_ne (tgt := 24) hx hb d_open_19 (by decide) (fun h_3 => ?_) (fun h_3 => ?_)
      · rw [if_neg h_3] at hres
        refine lv_aload_n hx hb d_open_24 rfl (lv_at hl 0 rfl) ?_
        refine lv_iload_n hx hb d_open_25 rfl (lv_at hl 1 rfl) ?_
        refine lv_iconst (v := 0) hx hb d_open_26 (by decide) ?_
        refine lv_eqi nI_0.symm ?_
        refine ml_calli (va_runV (As := [.int pr, .int (nI 0)]) (rest := []) ⟨hx, hb, hml, hown, hts⟩ (c_freeDescriptor l dC dI kc a _ d pr 0 (by decide) _ rfl) (cwV 2 hts (gd_V mC wd_158 wd_160 ws_0 wd_1 wd_161) rfl rfl rfl hd_freeDescriptor ⟨Nat.le_of_ble_eq_true rfl, Nat.le_of_ble_eq_true rfl⟩) ⟨ml_blind, va_recv hK hP (ci := 0) rfl (ml_at (by decide) (dc_desk kc a d)), ml_pre hP hK hD⟩ rfl rfl hl.1 rfl (lv_room (Nat.le_of_ble_eq_true rfl)) d_open_27 ⟨Nat.zero_le _, Nat.zero_le _⟩) hD hS hA (fun H locs hP hD hS => ?_)
        refine lv_istore (lv' := [(5, .int (sp_freeDescriptor d pr 0)), (0, .ref (a 0)), (1, .int pr), (2, .int ki), (3, .int ino), (4, .int hw)]) hx hb d_open_30 hl (by decide) rfl (fun ls hl => ?_)
        refine lv_aload_n hx hb d_open_32 rfl (lv_at hl 1 rfl) ?_
        refine lv_iconst (v := 0) hx hb d_open_33 (by decide) ?_
        refine lv_eqi nI_0.symm ?_
        refine ml_callq (va_runV (As := [.int (nI 0)]) (rest := []) ⟨hx, hb, hml, hown, hts⟩ (c_freeFile l dC dI kc a _ d 0 (by decide) _ rfl) (cwV 1 hts (gd_V mC wd_169 wd_171 ws_2 wd_1 wd_172) rfl rfl rfl hd_freeFile ⟨Nat.le_of_ble_eq_true rfl, Nat.le_of_ble_eq_true rfl⟩) ⟨ml_blind, va_recv hK hP (ci := 0) rfl (ml_at (by decide) (dc_desk kc a d)), ml_pre hP hK hD⟩ rfl rfl hl.1 rfl (lv_room (Nat.le_of_ble_eq_true rfl)) d_open_34 ⟨Nat.zero_le _, Nat.zero_le _⟩) hD hS hA (fun H locs hP hD hS => ?_)
        refine ml_split (fun q_4 => ?_) (fun i_5 q_4 => ?_)
        · rw [q_4, oc_n] at hres
          refine lv_astoreN (lv' := [(6, .null), (5, .int (sp_freeDescriptor d pr 0)), (0, .ref (a 0)), (1, .int pr), (2, .int ki), (3, .int ino), (4, .int hw)]) hx hb d_open_37 hl (by decide) rfl (fun ls hl => ?_)
          refine lv_iload hx hb d_open_39 (lv_at hl 1 rfl) ?_
          refine lv_iconst (v := -1) hx hb d_open_41 (by decide) ?_
          refine lv_icmp_eq (tgt := 50) hx hb d_open_42 (by decide) (fun h_6 => ?_) (fun h_6 => ?_)
          · rw [if_pos h_6] at hres
            refine lv_iconst (v := -1) hx hb d_open_50 (by decide) ?_
            obtain ⟨rfl, rfl⟩ := Prod.mk.inj hres
            exact ml_iret hx hb hr hlocks hP hK hD hS d_open_51
          · rw [if_neg h_6] at hres
            refine lv_aloadN hx hb d_open_45 (lv_at hl 0 rfl) ?_
            refine lv_ifnonnullN hx hb d_open_47 ?_
            refine lv_iconst (v := -1) hx hb d_open_50 (by decide) ?_
            obtain ⟨rfl, rfl⟩ := Prod.mk.inj hres
            exact ml_iret hx hb hr hlocks hP hK hD hS d_open_51
        · rw [q_4, oc_s] at hres
          refine lv_astore (lv' := [(6, .ref (a (i_5.val + 3))), (5, .int (sp_freeDescriptor d pr 0)), (0, .ref (a 0)), (1, .int pr), (2, .int ki), (3, .int ino), (4, .int hw)]) hx hb d_open_37 hl (by decide) rfl (fun ls hl => ?_)
          refine lv_iload hx hb d_open_39 (lv_at hl 1 rfl) ?_
          refine lv_iconst (v := -1) hx hb d_open_41 (by decide) ?_
          refine lv_icmp_eq (tgt := 50) hx hb d_open_42 (by decide) (fun h_7 => ?_) (fun h_7 => ?_)
          · rw [if_pos h_7] at hres
            refine lv_iconst (v := -1) hx hb d_open_50 (by decide) ?_
            obtain ⟨rfl, rfl⟩ := Prod.mk.inj hres
            exact ml_iret hx hb hr hlocks hP hK hD hS d_open_51
          · rw [if_neg h_7] at hres
            refine lv_aload hx hb d_open_45 (lv_at hl 0 rfl) ?_
            refine lv_ifnonnull (tgt := 52) hx hb d_open_47 (by decide) ?_
            refine lv_aload hx hb d_open_52 (lv_at hl 0 rfl) ?_
            refine lv_iload_n hx hb d_open_54 rfl (lv_at hl 4 rfl) ?_
            refine lv_iload hx hb d_open_55 (lv_at hl 6 rfl) ?_
            refine ml_callv (va_runV (As := [.int ki, .int hw]) (rest := []) ⟨hx, hb, hml, hown, hts⟩ (c_File_begin l dC dI kc a _ d i_5 ki hw _ rfl) (cwV 2 hts (gd_V mC wd_173 wd_174 wd_175 wd_2 wd_176) rfl rfl rfl hd_File_begin ⟨Nat.le_of_ble_eq_true rfl, Nat.le_of_ble_eq_true rfl⟩) ⟨ml_blind, va_recv hK hP (ci := 1) rfl (ml_at (lt_file i_5) (dc_file kc a d i_5)), ml_pre hP hK hD⟩ rfl rfl hl.1 rfl (lv_room (Nat.le_of_ble_eq_true rfl)) d_open_57 ⟨Nat.zero_le _, Nat.zero_le _⟩) hD hS hA (fun H locs hP hD hS => ?_)
            refine lv_iload_n hx hb d_open_60 rfl (lv_at hl 4 rfl) ?_
            refine lv_iconst (v := 2) hx hb d_open_61 (by decide) ?_
            refine lv_icmp_ne (tgt := 71) hx hb d_open_62 (by decide) (fun h_8 => ?_) (fun h_8 => ?_)
            · rw [if_neg h_8] at hres
              refine lv_aload_n hx hb d_open_71 rfl (lv_at hl 2 rfl) ?_
              refine lv_iload_n hx hb d_open_72 rfl (lv_at hl 3 rfl) ?_
              refine lv_iload hx hb d_open_73 (lv_at hl 1 rfl) ?_
              refine lv_aload hx hb d_open_75 (lv_at hl 0 rfl) ?_
              refine ml_callv (va_runV (As := [.int pr, .int (sp_freeDescriptor d pr 0), .ref (a (i_5.val + 3))]) (rest := []) ⟨hx, hb, hml, hown, hts⟩ (c_setName l dC dI kc a _ (sp_File_begin d i_5 ki hw) pr (sp_freeDescriptor d pr 0) i_5 _ rfl) (cwV 3 hts (gd_V mC wd_177 wd_179 ws_3 wd_1 wd_180) rfl rfl rfl hd_setName ⟨Nat.le_of_ble_eq_true rfl, Nat.le_of_ble_eq_true rfl⟩) ⟨ml_blind, va_recv hK hP (ci := 0) rfl (ml_at (by decide) (dc_desk kc a (sp_File_begin d i_5 ki hw))), ml_pre hP hK hD⟩ rfl rfl hl.1 rfl (lv_room (Nat.le_of_ble_eq_true rfl)) d_open_77 ⟨Nat.zero_le _, Nat.zero_le _⟩) hD hS hA (fun H locs hP hD hS => ?_)
              refine lv_iload hx hb d_open_80 (lv_at hl 1 rfl) ?_
              obtain ⟨rfl, rfl⟩ := Prod.mk.inj hres
              exact ml_iret hx hb hr hlocks hP hK hD hS d_open_82
            · rw [if_pos h_8] at hres
              refine lv_aload hx hb d_open_65 (lv_at hl 0 rfl) ?_
              refine lv_iload_n hx hb d_open_67 rfl (lv_at hl 5 rfl) ?_
              refine ml_put (D := (dC, dI)) hx hb hts in_FC tyF tyF_ok nmF hown hK hP hD hS (i_5.val + 3) (lt_file i_5) (dc_file kc a (sp_File_begin d i_5 ki hw) i_5) rfl 2 (by decide) (hts _ (mC _ wd_28)) (fun _ h9 => h9) rfl (ty := .int) (by decide +kernel) rfl rfl (Nat.le_of_ble_eq_true rfl) (f' := (dcell kc a (sI (sp_File_begin d i_5 ki hw) 3 i_5.val ino))) (dw_3 i_5 ino) d_open_68 (fun H locs hP hD hS => ?_)
              refine lv_aload_n hx hb d_open_71 rfl (lv_at hl 2 rfl) ?_
              refine lv_iload_n hx hb d_open_72 rfl (lv_at hl 3 rfl) ?_
              refine lv_iload hx hb d_open_73 (lv_at hl 1 rfl) ?_
              refine lv_aload hx hb d_open_75 (lv_at hl 0 rfl) ?_
              refine ml_callv (va_runV (As := [.int pr, .int (sp_freeDescriptor d pr 0), .ref (a (i_5.val + 3))]) (rest := []) ⟨hx, hb, hml, hown, hts⟩ (c_setName l dC dI kc a _ (sI (sp_File_begin d i_5 ki hw) 3 i_5.val ino) pr (sp_freeDescriptor d pr 0) i_5 _ rfl) (cwV 3 hts (gd_V mC wd_177 wd_179 ws_3 wd_1 wd_180) rfl rfl rfl hd_setName ⟨Nat.le_of_ble_eq_true rfl, Nat.le_of_ble_eq_true rfl⟩) ⟨ml_blind, va_recv hK hP (ci := 0) rfl (ml_at (by decide) (dc_desk kc a (sI (sp_File_begin d i_5 ki hw) 3 i_5.val ino))), ml_pre hP hK hD⟩ rfl rfl hl.1 rfl (lv_room (Nat.le_of_ble_eq_true rfl)) d_open_77 ⟨Nat.zero_le _, Nat.zero_le _⟩) hD hS hA (fun H locs hP hD hS => ?_)
              refine lv_iload hx hb d_open_80 (lv_at hl 1 rfl) ?_
              obtain ⟨rfl, rfl⟩ := Prod.mk.inj hres
              exact ml_iret hx hb hr hlocks hP hK hD hS d_open_82
      · rw [if_pos h_3] at hres
        refine lv_iconst (v := -1) hx hb d_open_22 (by decide) ?_
        obtain ⟨rfl, rfl⟩ := Prod.mk.inj hres
        exact ml_iret hx hb hr hlocks hP hK hD hS d_open_23
def sp_pipe (d : DK) (pr : Int32) : Int32 × DK :=
  (if (sp_isProcess pr) = (0 : Int32) then ((-1 : Int32), d) else (if (sp_freeDescriptor d pr 0) = (-1 : Int32) then ((-1 : Int32), d) else (if (sp_freeDescriptor d pr ((sp_freeDescriptor d pr 0).toNatClampNeg + 1)) = (-1 : Int32) then ((-1 : Int32), d) else (oc (sp_freeFile d 0) ((-1 : Int32), d) (fun i_5 => (oc (sp_freeFile d (i_5.val + 1)) (oc (sp_freePipe d) ((-1 : Int32), d) (fun i_9 => ((-1 : Int32), d))) (fun i_7 => (oc (sp_freePipe d) ((-1 : Int32), d) (fun i_11 => ((sp_freeDescriptor d pr 0) + ((16 : Int32) * (sp_freeDescriptor d pr ((sp_freeDescriptor d pr 0).toNatClampNeg + 1))), (sp_setName (sp_setName (sp_joinEnds d i_11 i_5 i_7) pr (sp_freeDescriptor d pr 0) i_5) pr (sp_freeDescriptor d pr ((sp_freeDescriptor d pr 0).toNatClampNeg + 1)) i_7)))))))))))
abbrev rm_pipe : Room := { frames := 3, cells := 0, slots := 0, locals := 65 }
set_option maxHeartbeats 4000000 in
set_option maxRecDepth 100000 in
theorem c_pipe (l : Launch) (dC : Nat → ClassId) (dI : Nat → Nat → Nat) (kc : Nat → ClassId) (a : Nat → Nat) (sz : Nat) (d : DK) (pr : Int32) (R' : Int32) (d' : DK) (hres : sp_pipe d pr = (R', d')) : Met l y_pipe ws_pipe rm_pipe (va_Pc [.ref (a 0), .int pr] (ml_B (dC, dI) vwCl (tysD kc) 57 a (dcell kc a d) sz)) (va_Qi (fun r (_ : Unit) => r = R') (fun _ t => ml_E (dC, dI) vwCl (tysD kc) 57 a (dcell kc a d') (va_A (ml 57 a (dcell kc a d)) sz) t) (va_A (ml 57 a (dcell kc a d)) sz)) 0 0 (va_A (ml 57 a (dcell kc a d)) sz) := by
  refine Met.ofW (cc := prog_1_method_3_code) (maxL := 7) (ret := (some .int)) (by decide) rfl ?_
  intro p e s m args below meth c s₁ B hml hv
  obtain ⟨rfl, hsz, hP, hK, hD0⟩ := hv
  have hx := B.exec
  have hb := B.bytes
  have hr := B.returns
  have hts := atoms_spec (ws := ws_pipe) B.pre
  have hown : s.vm.findClass "HandleDesk" = some m.cls := findClass_of_methodNamed B.named
  have hlocks := B.notSynchronized
  subst hsz
  have hD := hD0.self (sz := s.heap.size)
  generalize hAe : va_A (ml 57 a (dcell kc a d)) s.heap.size = A at hD ⊢
  have hA : ∀ q : Nat, s.heap.size ≤ q → A q := fun q h => by rw [← hAe]; exact Or.inr h
  have hS : va_S A s.heap s.heap [] := va_S.rf
  have hl := lv_entry ([.ref (a 0), .int pr]) (n := 7) (Nat.le_of_ble_eq_true rfl)
  rw [lg_entry_eq]
  generalize (lg_sl ([.ref (a 0), .int pr]) ++ List.replicate (7 - (lg_sl ([.ref (a 0), .int pr])).length) Slot.unset).toArray = ls at hl ⊢
  have hl : lv_has ls 7 [(0, .ref (a 0)), (1, .int pr)] := hl
  rw [sp_pipe] at hres
  refine lv_iload_n hx hb d_pipe_0 rfl (lv_at hl 1 rfl) ?_
  refine ml_calli (va_runS (As := [.int pr]) (rest := []) ⟨hx, hb, hml, hown, hts⟩ (c_isProcess l dC dI kc a _ d pr _ rfl) (cwS 1 hts (gd_S mC wd_149 wd_150 wd_1 wd_151) rfl rfl rfl hd_isProcess ⟨Nat.le_of_ble_eq_true rfl, Nat.le_of_ble_eq_true rfl⟩) ⟨ml_blind, ml_pre hP hK hD⟩ rfl rfl hl.1 rfl (lv_room (Nat.le_of_ble_eq_true rfl)) d_pipe_1 ⟨Nat.zero_le _, Nat.zero_le _⟩) hD hS hA (fun H locs hP hD hS => ?_)
  refine lv_if_ne (tgt := 9) hx hb d_pipe_4 (by decide) (fun h_1 => ?_) (fun h_1 => ?_)
  · rw [if_neg h_1] at hres
    refine lv_aload_n hx hb d_pipe_9 rfl (lv_at hl 0 rfl) ?_
    refine lv_iload_n hx hb d_pipe_10 rfl (lv_at hl 1 rfl) ?_
    refine lv_iconst (v := 0) hx hb d_pipe_11 (by decide) ?_
    refine lv_eqi nI_0.symm ?_
    refine ml_calli (va_runV (As := [.int pr, .int (nI 0)]) (rest := []) ⟨hx, hb, hml, hown, hts⟩ (c_freeDescriptor l dC dI kc a _ d pr 0 (by decide) _ rfl) (cwV 2 hts (gd_V mC wd_158 wd_160 ws_0 wd_1 wd_161) rfl rfl rfl hd_freeDescriptor ⟨Nat.le_of_ble_eq_true rfl, Nat.le_of_ble_eq_true rfl⟩) ⟨ml_blind, va_recv hK hP (ci := 0) rfl (ml_at (by decide) (dc_desk kc a d)), ml_pre hP hK hD⟩ rfl rfl hl.1 rfl (lv_room (Nat.le_of_ble_eq_true rfl)) d_pipe_12 ⟨Nat.zero_le _, Nat.zero_le _⟩) hD hS hA (fun H locs hP hD hS => ?_)
    refine lv_istore_n (lv' := [(2, .int (sp_freeDescriptor d pr 0)), (0, .ref (a 0)), (1, .int pr)]) hx hb d_pipe_15 rfl hl (by decide) rfl (fun ls hl => ?_)
    refine lv_iload_n hx hb d_pipe_16 rfl (lv_at hl 0 rfl) ?_
    refine lv_iconst (v := -1) hx hb d_pipe_17 (by decide) ?_
    refine lv_icmp_ne (tgt := 23) hx hb d_pipe_18 (by decide) (fun h_2 => ?_) (fun h_2 => ?_)
    · rw [if_neg h_2] at hres
      refine lv_aload_n hx hb d_pipe_23 rfl (lv_at hl 1 rfl) ?_
      refine lv_iload_n hx hb d_pipe_24 rfl (lv_at hl 2 rfl) ?_
      refine lv_iload_n hx hb d_pipe_25 rfl (lv_at hl 0 rfl) ?_
      refine lv_iconst (v := 1) hx hb d_pipe_26 (by decide) ?_
      refine lv_iadd hx hb d_pipe_27 ?_
      refine lv_eqi (fd_next (by assumption)) ?_
      refine ml_calli (va_runV (As := [.int pr, .int (nI ((sp_freeDescriptor d pr 0).toNatClampNeg + 1))]) (rest := []) ⟨hx, hb, hml, hown, hts⟩ (c_freeDescriptor l dC dI kc a _ d pr ((sp_freeDescriptor d pr 0).toNatClampNeg + 1) (fd_le (by assumption)) _ rfl) (cwV 2 hts (gd_V mC wd_158 wd_160 ws_0 wd_1 wd_161) rfl rfl rfl hd_freeDescriptor ⟨Nat.le_of_ble_eq_true rfl, Nat.le_of_ble_eq_true rfl⟩) ⟨ml_blind, va_recv hK hP (ci := 0) rfl (ml_at (by decide) (dc_desk kc a d)), ml_pre hP hK hD⟩ rfl rfl hl.1 rfl (lv_room (Nat.le_of_ble_eq_true rfl)) d_pipe_28 ⟨Nat.zero_le _, Nat.zero_le _⟩) hD hS hA (fun H locs hP hD hS => ?_)
      refine lv_istore_n (lv' := [(3, .int (sp_freeDescriptor d pr ((sp_freeDescriptor d pr 0).toNatClampNeg + 1))), (2, .int (sp_freeDescriptor d pr 0)), (0, .ref (a 0)), (1, .int pr)]) hx hb d_pipe_31 rfl hl (by decide) rfl (fun ls hl => ?_)
      refine lv_iload_n hx hb d_pipe_32 rfl (lv_at hl 0 rfl) ?_
      refine lv_iconst (v := -1) hx hb d_pipe_33 (by decide) ?_
      refine lv_icmp_ne (tgt := 39) hx hb d_pipe_34 (by decide) (fun h_3 => ?_) (fun h_3 => ?_)
      · rw [if_neg h_3] at hres
        refine lv_aload_n hx hb d_pipe_39 rfl (lv_at hl 2 rfl) ?_
        refine lv_iconst (v := 0) hx hb d_pipe_40 (by decide) ?_
        refine lv_eqi nI_0.symm ?_
        refine ml_callq (va_runV (As := [.int (nI 0)]) (rest := []) ⟨hx, hb, hml, hown, hts⟩ (c_freeFile l dC dI kc a _ d 0 (by decide) _ rfl) (cwV 1 hts (gd_V mC wd_169 wd_171 ws_2 wd_1 wd_172) rfl rfl rfl hd_freeFile ⟨Nat.le_of_ble_eq_true rfl, Nat.le_of_ble_eq_true rfl⟩) ⟨ml_blind, va_recv hK hP (ci := 0) rfl (ml_at (by decide) (dc_desk kc a d)), ml_pre hP hK hD⟩ rfl rfl hl.1 rfl (lv_room (Nat.le_of_ble_eq_true rfl)) d_pipe_41 ⟨Nat.zero_le _, Nat.zero_le _⟩) hD hS hA (fun H locs hP hD hS => ?_)
        refine ml_split (fun q_4 => ?_) (fun i_5 q_4 => ?_)
        · rw [q_4, oc_n] at hres
          refine lv_astoreN (lv' := [(4, .null), (3, .int (sp_freeDescriptor d pr ((sp_freeDescriptor d pr 0).toNatClampNeg + 1))), (2, .int (sp_freeDescriptor d pr 0)), (0, .ref (a 0)), (1, .int pr)]) hx hb d_pipe_44 hl (by decide) rfl (fun ls hl => ?_)
          refine lv_aloadN hx hb d_pipe_46 (lv_at hl 0 rfl) ?_
          refine lv_ifnonnullN hx hb d_pipe_48 ?_
          refine lv_iconst (v := -1) hx hb d_pipe_51 (by decide) ?_
          obtain ⟨rfl, rfl⟩ := Prod.mk.inj hres
          exact ml_iret hx hb hr hlocks hP hK hD hS d_pipe_52
        · rw [q_4, oc_s] at hres
          refine lv_astore (lv' := [(4, .ref (a (i_5.val + 3))), (3, .int (sp_freeDescriptor d pr ((sp_freeDescriptor d pr 0).toNatClampNeg + 1))), (2, .int (sp_freeDescriptor d pr 0)), (0, .ref (a 0)), (1, .int pr)]) hx hb d_pipe_44 hl (by decide) rfl (fun ls hl => ?_)
          refine lv_aload hx hb d_pipe_46 (lv_at hl 0 rfl) ?_
          refine lv_ifnonnull (tgt := 53) hx hb d_pipe_48 (by decide) ?_
          refine lv_aload_n hx hb d_pipe_53 rfl (lv_at hl 3 rfl) ?_
          refine lv_aload hx hb d_pipe_54 (lv_at hl 0 rfl) ?_
          refine ml_get (D := (dC, dI)) hx hb hts in_FC hown hK hP (i_5.val + 3) (lt_file i_5) (dc_file kc a d i_5) rfl 0 (by decide) (hts _ (mC _ wd_24)) (fun _ h9 => h9) (v := .int (nI i_5.val)) rfl d_pipe_56 ?_
          refine lv_iconst (v := 1) hx hb d_pipe_59 (by decide) ?_
          refine lv_iadd hx hb d_pipe_60 ?_
          refine lv_eqi (nI_1 _) ?_
          refine ml_callq (va_runV (As := [.int (nI (i_5.val + 1))]) (rest := []) ⟨hx, hb, hml, hown, hts⟩ (c_freeFile l dC dI kc a _ d (i_5.val + 1) (Nat.succ_le_of_lt i_5.isLt) _ rfl) (cwV 1 hts (gd_V mC wd_169 wd_171 ws_2 wd_1 wd_172) rfl rfl rfl hd_freeFile ⟨Nat.le_of_ble_eq_true rfl, Nat.le_of_ble_eq_true rfl⟩) ⟨ml_blind, va_recv hK hP (ci := 0) rfl (ml_at (by decide) (dc_desk kc a d)), ml_pre hP hK hD⟩ rfl rfl hl.1 rfl (lv_room (Nat.le_of_ble_eq_true rfl)) d_pipe_61 ⟨Nat.zero_le _, Nat.zero_le _⟩) hD hS hA (fun H locs hP hD hS => ?_)
          refine ml_split (fun q_6 => ?_) (fun i_7 q_6 => ?_)
          · rw [q_6, oc_n] at hres
            refine lv_astoreN (lv' := [(5, .null), (4, .ref (a (i_5.val + 3))), (3, .int (sp_freeDescriptor d pr ((sp_freeDescriptor d pr 0).toNatClampNeg + 1))), (2, .int (sp_freeDescriptor d pr 0)), (0, .ref (a 0)), (1, .int pr)]) hx hb d_pipe_64 hl (by decide) rfl (fun ls hl => ?_)
            refine lv_aload_n hx hb d_pipe_66 rfl (lv_at hl 4 rfl) ?_
            refine ml_callq (va_runV (As := []) (rest := []) ⟨hx, hb, hml, hown, hts⟩ (c_freePipe l dC dI kc a _ d _ rfl) (cwV 0 hts (gd_V mC wd_185 wd_187 ws_4 wd_1 wd_188) rfl rfl rfl hd_freePipe ⟨Nat.le_of_ble_eq_true rfl, Nat.le_of_ble_eq_true rfl⟩) ⟨ml_blind, va_recv hK hP (ci := 0) rfl (ml_at (by decide) (dc_desk kc a d)), ml_pre hP hK hD⟩ rfl rfl hl.1 rfl (lv_room (Nat.le_of_ble_eq_true rfl)) d_pipe_67 ⟨Nat.zero_le _, Nat.zero_le _⟩) hD hS hA (fun H locs hP hD hS => ?_)
            refine ml_split (fun q_8 => ?_) (fun i_9 q_8 => ?_)
            · rw [q_8, oc_n] at hres
              refine lv_astoreN (lv' := [(6, .null), (5, .null), (4, .ref (a (i_5.val + 3))), (3, .int (sp_freeDescriptor d pr ((sp_freeDescriptor d pr 0).toNatClampNeg + 1))), (2, .int (sp_freeDescriptor d pr 0)), (0, .ref (a 0)), (1, .int pr)]) hx hb d_pipe_70 hl (by decide) rfl (fun ls hl => ?_)
              refine lv_aloadN hx hb d_pipe_72 (lv_at hl 1 rfl) ?_
              refine lv_ifnullN (tgt := 82) hx hb d_pipe_74 (by decide) ?_
              refine lv_iconst (v := -1) hx hb d_pipe_82 (by decide) ?_
              obtain ⟨rfl, rfl⟩ := Prod.mk.inj hres
              exact ml_iret hx hb hr hlocks hP hK hD hS d_pipe_83
            · rw [q_8, oc_s] at hres
              refine lv_astore (lv' := [(6, .ref (a (2 * i_9.val + 36))), (5, .null), (4, .ref (a (i_5.val + 3))), (3, .int (sp_freeDescriptor d pr ((sp_freeDescriptor d pr 0).toNatClampNeg + 1))), (2, .int (sp_freeDescriptor d pr 0)), (0, .ref (a 0)), (1, .int pr)]) hx hb d_pipe_70 hl (by decide) rfl (fun ls hl => ?_)
              refine lv_aloadN hx hb d_pipe_72 (lv_at hl 1 rfl) ?_
              refine lv_ifnullN (tgt := 82) hx hb d_pipe_74 (by decide) ?_
              refine lv_iconst (v := -1) hx hb d_pipe_82 (by decide) ?_
              obtain ⟨rfl, rfl⟩ := Prod.mk.inj hres
              exact ml_iret hx hb hr hlocks hP hK hD hS d_pipe_83
          · rw [q_6, oc_s] at hres
            refine lv_astore (lv' := [(5, .ref (a (i_7.val + 3))), (4, .ref (a (i_5.val + 3))), (3, .int (sp_freeDescriptor d pr ((sp_freeDescriptor d pr 0).toNatClampNeg + 1))), (2, .int (sp_freeDescriptor d pr 0)), (0, .ref (a 0)), (1, .int pr)]) hx hb d_pipe_64 hl (by decide) rfl (fun ls hl => ?_)
            refine lv_aload_n hx hb d_pipe_66 rfl (lv_at hl 4 rfl) ?_
            refine ml_callq (va_runV (As := []) (rest := []) ⟨hx, hb, hml, hown, hts⟩ (c_freePipe l dC dI kc a _ d _ rfl) (cwV 0 hts (gd_V mC wd_185 wd_187 ws_4 wd_1 wd_188) rfl rfl rfl hd_freePipe ⟨Nat.le_of_ble_eq_true rfl, Nat.le_of_ble_eq_true rfl⟩) ⟨ml_blind, va_recv hK hP (ci := 0) rfl (ml_at (by decide) (dc_desk kc a d)), ml_pre hP hK hD⟩ rfl rfl hl.1 rfl (lv_room (Nat.le_of_ble_eq_true rfl)) d_pipe_67 ⟨Nat.zero_le _, Nat.zero_le _⟩) hD hS hA (fun H locs hP hD hS => ?_)
            refine ml_split (fun q_10 => ?_) (fun i_11 q_10 => ?_)
            · rw [q_10, oc_n] at hres
              refine lv_astoreN (lv' := [(6, .null), (5, .ref (a (i_7.val + 3))), (4, .ref (a (i_5.val + 3))), (3, .int (sp_freeDescriptor d pr ((sp_freeDescriptor d pr 0).toNatClampNeg + 1))), (2, .int (sp_freeDescriptor d pr 0)), (0, .ref (a 0)), (1, .int pr)]) hx hb d_pipe_70 hl (by decide) rfl (fun ls hl => ?_)
              refine lv_aload hx hb d_pipe_72 (lv_at hl 1 rfl) ?_
              refine lv_ifnull hx hb d_pipe_74 ?_
              refine lv_aloadN hx hb d_pipe_77 (lv_at hl 0 rfl) ?_
              refine lv_ifnonnullN hx hb d_pipe_79 ?_
              refine lv_iconst (v := -1) hx hb d_pipe_82 (by decide) ?_
              obtain ⟨rfl, rfl⟩ := Prod.mk.inj hres
              exact ml_iret hx hb hr hlocks hP hK hD hS d_pipe_83
            · rw [q_10, oc_s] at hres
              refine lv_astore (lv' := [(6, .ref (a (2 * i_11.val + 36))), (5, .ref (a (i_7.val + 3))), (4, .ref (a (i_5.val + 3))), (3, .int (sp_freeDescriptor d pr ((sp_freeDescriptor d pr 0).toNatClampNeg + 1))), (2, .int (sp_freeDescriptor d pr 0)), (0, .ref (a 0)), (1, .int pr)]) hx hb d_pipe_70 hl (by decide) rfl (fun ls hl => ?_)
              refine lv_aload hx hb d_pipe_72 (lv_at hl 1 rfl) ?_
              refine lv_ifnull hx hb d_pipe_74 ?_
              refine lv_aload hx hb d_pipe_77 (lv_at hl 0 rfl) ?_
              refine lv_ifnonnull (tgt := 84) hx hb d_pipe_79 (by decide) ?_
              refine lv_aload hx hb d_pipe_84 (lv_at hl 0 rfl) ?_
              refine lv_aload hx hb d_pipe_86 (lv_at hl 2 rfl) ?_
              refine lv_aload hx hb d_pipe_88 (lv_at hl 1 rfl) ?_
              refine ml_callv (va_runS (As := [.ref (a (2 * i_11.val + 36)), .ref (a (i_5.val + 3)), .ref (a (i_7.val + 3))]) (rest := []) ⟨hx, hb, hml, hown, hts⟩ (c_joinEnds l dC dI kc a _ d i_11 i_5 i_7 _ rfl) (cwS 3 hts (gd_S mC wd_193 wd_194 wd_1 wd_195) rfl rfl rfl hd_joinEnds ⟨Nat.le_of_ble_eq_true rfl, Nat.le_of_ble_eq_true rfl⟩) ⟨ml_blind, ml_pre hP hK hD⟩ rfl rfl hl.1 rfl (lv_room (Nat.le_of_ble_eq_true rfl)) d_pipe_90 ⟨Nat.zero_le _, Nat.zero_le _⟩) hD hS hA (fun H locs hP hD hS => ?_)
              refine lv_aload_n hx hb d_pipe_93 rfl (lv_at hl 5 rfl) ?_
              refine lv_iload_n hx hb d_pipe_94 rfl (lv_at hl 6 rfl) ?_
              refine lv_iload_n hx hb d_pipe_95 rfl (lv_at hl 4 rfl) ?_
              refine lv_aload hx hb d_pipe_96 (lv_at hl 2 rfl) ?_
              refine ml_callv (va_runV (As := [.int pr, .int (sp_freeDescriptor d pr 0), .ref (a (i_5.val + 3))]) (rest := []) ⟨hx, hb, hml, hown, hts⟩ (c_setName l dC dI kc a _ (sp_joinEnds d i_11 i_5 i_7) pr (sp_freeDescriptor d pr 0) i_5 _ rfl) (cwV 3 hts (gd_V mC wd_177 wd_179 ws_3 wd_1 wd_180) rfl rfl rfl hd_setName ⟨Nat.le_of_ble_eq_true rfl, Nat.le_of_ble_eq_true rfl⟩) ⟨ml_blind, va_recv hK hP (ci := 0) rfl (ml_at (by decide) (dc_desk kc a (sp_joinEnds d i_11 i_5 i_7))), ml_pre hP hK hD⟩ rfl rfl hl.1 rfl (lv_room (Nat.le_of_ble_eq_true rfl)) d_pipe_98 ⟨Nat.zero_le _, Nat.zero_le _⟩) hD hS hA (fun H locs hP hD hS => ?_)
              refine lv_aload_n hx hb d_pipe_101 rfl (lv_at hl 5 rfl) ?_
              refine lv_iload_n hx hb d_pipe_102 rfl (lv_at hl 6 rfl) ?_
              refine lv_iload_n hx hb d_pipe_103 rfl (lv_at hl 3 rfl) ?_
              refine lv_aload hx hb d_pipe_104 (lv_at hl 1 rfl) ?_
              refine ml_callv (va_runV (As := [.int pr, .int (sp_freeDescriptor d pr ((sp_freeDescriptor d pr 0).toNatClampNeg + 1)), .ref (a (i_7.val + 3))]) (rest := []) ⟨hx, hb, hml, hown, hts⟩ (c_setName l dC dI kc a _ (sp_setName (sp_joinEnds d i_11 i_5 i_7) pr (sp_freeDescriptor d pr 0) i_5) pr (sp_freeDescriptor d pr ((sp_freeDescriptor d pr 0).toNatClampNeg + 1)) i_7 _ rfl) (cwV 3 hts (gd_V mC wd_177 wd_179 ws_3 wd_1 wd_180) rfl rfl rfl hd_setName ⟨Nat.le_of_ble_eq_true rfl, Nat.le_of_ble_eq_true rfl⟩) ⟨ml_blind, va_recv hK hP (ci := 0) rfl (ml_at (by decide) (dc_desk kc a (sp_setName (sp_joinEnds d i_11 i_5 i_7) pr (sp_freeDescriptor d pr 0) i_5))), ml_pre hP hK hD⟩ rfl rfl hl.1 rfl (lv_room (Nat.le_of_ble_eq_true rfl)) d_pipe_106 ⟨Nat.zero_le _, Nat.zero_le _⟩) hD hS hA (fun H locs hP hD hS => ?_)
              refine lv_iload_n hx hb d_pipe_109 rfl (lv_at hl 4 rfl) ?_
              refine lv_bipush (v := 16) hx hb d_pipe_110 (by decide) ?_
              refine lv_iload_n hx hb d_pipe_112 rfl (lv_at hl 3 rfl) ?_
              refine lv_imul hx hb d_pipe_113 ?_
              refine lv_iadd hx hb d_pipe_114 ?_
              obtain ⟨rfl, rfl⟩ := Prod.mk.inj hres
              exact ml_iret hx hb hr hlocks hP hK hD hS d_pipe_115
      · rw [if_pos h_3] at hres
        refine lv_iconst (v := -1) hx hb d_pipe_37 (by decide) ?_
        obtain ⟨rfl, rfl⟩ := Prod.mk.inj hres
        exact ml_iret hx hb hr hlocks hP hK hD hS d_pipe_38
    · rw [if_pos h_2] at hres
      refine lv_iconst (v := -1) hx hb d_pipe_21 (by decide) ?_
      obtain ⟨rfl, rfl⟩ := Prod.mk.inj hres
      exact ml_iret hx hb hr hlocks hP hK hD hS d_pipe_22
  · rw [if_pos h_1] at hres
    refine lv_iconst (v := -1) hx hb d_pipe_7 (by decide) ?_
    obtain ⟨rfl, rfl⟩ := Prod.mk.inj hres
    exact ml_iret hx hb hr hlocks hP hK hD hS d_pipe_8
def sp_again (d : DK) (pr : Int32) (x : Int32) : Int32 × DK :=
  (oc (sp_fileOf d pr x) ((-1 : Int32), d) (fun i_2 => (if (sp_freeDescriptor d pr 0) = (-1 : Int32) then ((-1 : Int32), d) else ((sp_freeDescriptor d pr 0), (sp_setName d pr (sp_freeDescriptor d pr 0) i_2)))))
abbrev rm_again : Room := { frames := 3, cells := 0, slots := 0, locals := 65 }
set_option maxHeartbeats 4000000 in
set_option maxRecDepth 100000 in
theorem c_again (l : Launch) (dC : Nat → ClassId) (dI : Nat → Nat → Nat) (kc : Nat → ClassId) (a : Nat → Nat) (sz : Nat) (d : DK) (pr : Int32) (x : Int32) (R' : Int32) (d' : DK) (hres : sp_again d pr x = (R', d')) : Met l y_again ws_again rm_again (va_Pc [.ref (a 0), .int pr, .int x] (ml_B (dC, dI) vwCl (tysD kc) 57 a (dcell kc a d) sz)) (va_Qi (fun r (_ : Unit) => r = R') (fun _ t => ml_E (dC, dI) vwCl (tysD kc) 57 a (dcell kc a d') (va_A (ml 57 a (dcell kc a d)) sz) t) (va_A (ml 57 a (dcell kc a d)) sz)) 0 0 (va_A (ml 57 a (dcell kc a d)) sz) := by
  refine Met.ofW (cc := prog_1_method_4_code) (maxL := 5) (ret := (some .int)) (by decide) rfl ?_
  intro p e s m args below meth c s₁ B hml hv
  obtain ⟨rfl, hsz, hP, hK, hD0⟩ := hv
  have hx := B.exec
  have hb := B.bytes
  have hr := B.returns
  have hts := atoms_spec (ws := ws_again) B.pre
  have hown : s.vm.findClass "HandleDesk" = some m.cls := findClass_of_methodNamed B.named
  have hlocks := B.notSynchronized
  subst hsz
  have hD := hD0.self (sz := s.heap.size)
  generalize hAe : va_A (ml 57 a (dcell kc a d)) s.heap.size = A at hD ⊢
  have hA : ∀ q : Nat, s.heap.size ≤ q → A q := fun q h => by rw [← hAe]; exact Or.inr h
  have hS : va_S A s.heap s.heap [] := va_S.rf
  have hl := lv_entry ([.ref (a 0), .int pr, .int x]) (n := 5) (Nat.le_of_ble_eq_true rfl)
  rw [lg_entry_eq]
  generalize (lg_sl ([.ref (a 0), .int pr, .int x]) ++ List.replicate (5 - (lg_sl ([.ref (a 0), .int pr, .int x])).length) Slot.unset).toArray = ls at hl ⊢
  have hl : lv_has ls 5 [(0, .ref (a 0)), (1, .int pr), (2, .int x)] := hl
  rw [sp_again] at hres
  refine lv_aload_n hx hb d_again_0 rfl (lv_at hl 0 rfl) ?_
  refine lv_iload_n hx hb d_again_1 rfl (lv_at hl 1 rfl) ?_
  refine lv_iload_n hx hb d_again_2 rfl (lv_at hl 2 rfl) ?_
  refine ml_callq (va_runV (As := [.int pr, .int x]) (rest := []) ⟨hx, hb, hml, hown, hts⟩ (c_fileOf l dC dI kc a _ d pr x _ rfl) (cwV 2 hts (gd_V mC wd_162 wd_164 ws_1 wd_1 wd_165) rfl rfl rfl hd_fileOf ⟨Nat.le_of_ble_eq_true rfl, Nat.le_of_ble_eq_true rfl⟩) ⟨ml_blind, va_recv hK hP (ci := 0) rfl (ml_at (by decide) (dc_desk kc a d)), ml_pre hP hK hD⟩ rfl rfl hl.1 rfl (lv_room (Nat.le_of_ble_eq_true rfl)) d_again_3 ⟨Nat.zero_le _, Nat.zero_le _⟩) hD hS hA (fun H locs hP hD hS => ?_)
  refine ml_split (fun q_1 => ?_) (fun i_2 q_1 => ?_)
  · rw [q_1, oc_n] at hres
    refine lv_astore_nN (lv' := [(3, .null), (0, .ref (a 0)), (1, .int pr), (2, .int x)]) hx hb d_again_6 rfl hl (by decide) rfl (fun ls hl => ?_)
    refine lv_aload_nN hx hb d_again_7 rfl (lv_at hl 0 rfl) ?_
    refine lv_ifnonnullN hx hb d_again_8 ?_
    refine lv_iconst (v := -1) hx hb d_again_11 (by decide) ?_
    obtain ⟨rfl, rfl⟩ := Prod.mk.inj hres
    exact ml_iret hx hb hr hlocks hP hK hD hS d_again_12
  · rw [q_1, oc_s] at hres
    refine lv_astore_n (lv' := [(3, .ref (a (i_2.val + 3))), (0, .ref (a 0)), (1, .int pr), (2, .int x)]) hx hb d_again_6 rfl hl (by decide) rfl (fun ls hl => ?_)
    refine lv_aload_n hx hb d_again_7 rfl (lv_at hl 0 rfl) ?_
    refine lv_ifnonnull (tgt := 13) hx hb d_again_8 (by decide) ?_
    refine lv_aload_n hx hb d_again_13 rfl (lv_at hl 1 rfl) ?_
    refine lv_iload_n hx hb d_again_14 rfl (lv_at hl 2 rfl) ?_
    refine lv_iconst (v := 0) hx hb d_again_15 (by decide) ?_
    refine lv_eqi nI_0.symm ?_
    refine ml_calli (va_runV (As := [.int pr, .int (nI 0)]) (rest := []) ⟨hx, hb, hml, hown, hts⟩ (c_freeDescriptor l dC dI kc a _ d pr 0 (by decide) _ rfl) (cwV 2 hts (gd_V mC wd_158 wd_160 ws_0 wd_1 wd_161) rfl rfl rfl hd_freeDescriptor ⟨Nat.le_of_ble_eq_true rfl, Nat.le_of_ble_eq_true rfl⟩) ⟨ml_blind, va_recv hK hP (ci := 0) rfl (ml_at (by decide) (dc_desk kc a d)), ml_pre hP hK hD⟩ rfl rfl hl.1 rfl (lv_room (Nat.le_of_ble_eq_true rfl)) d_again_16 ⟨Nat.zero_le _, Nat.zero_le _⟩) hD hS hA (fun H locs hP hD hS => ?_)
    refine lv_istore (lv' := [(4, .int (sp_freeDescriptor d pr 0)), (3, .ref (a (i_2.val + 3))), (0, .ref (a 0)), (1, .int pr), (2, .int x)]) hx hb d_again_19 hl (by decide) rfl (fun ls hl => ?_)
    refine lv_iload hx hb d_again_21 (lv_at hl 0 rfl) ?_
    refine lv_iconst (v := -1) hx hb d_again_23 (by decide) ?_
    refine lv_icmp_ne (tgt := 29) hx hb d_again_24 (by decide) (fun h_3 => ?_) (fun h_3 => ?_)
    · rw [if_neg h_3] at hres
      refine lv_aload_n hx hb d_again_29 rfl (lv_at hl 2 rfl) ?_
      refine lv_iload_n hx hb d_again_30 rfl (lv_at hl 3 rfl) ?_
      refine lv_iload hx hb d_again_31 (lv_at hl 0 rfl) ?_
      refine lv_aload_n hx hb d_again_33 rfl (lv_at hl 1 rfl) ?_
      refine ml_callv (va_runV (As := [.int pr, .int (sp_freeDescriptor d pr 0), .ref (a (i_2.val + 3))]) (rest := []) ⟨hx, hb, hml, hown, hts⟩ (c_setName l dC dI kc a _ d pr (sp_freeDescriptor d pr 0) i_2 _ rfl) (cwV 3 hts (gd_V mC wd_177 wd_179 ws_3 wd_1 wd_180) rfl rfl rfl hd_setName ⟨Nat.le_of_ble_eq_true rfl, Nat.le_of_ble_eq_true rfl⟩) ⟨ml_blind, va_recv hK hP (ci := 0) rfl (ml_at (by decide) (dc_desk kc a d)), ml_pre hP hK hD⟩ rfl rfl hl.1 rfl (lv_room (Nat.le_of_ble_eq_true rfl)) d_again_34 ⟨Nat.zero_le _, Nat.zero_le _⟩) hD hS hA (fun H locs hP hD hS => ?_)
      refine lv_iload hx hb d_again_37 (lv_at hl 0 rfl) ?_
      obtain ⟨rfl, rfl⟩ := Prod.mk.inj hres
      exact ml_iret hx hb hr hlocks hP hK hD hS d_again_39
    · rw [if_pos h_3] at hres
      refine lv_iconst (v := -1) hx hb d_again_27 (by decide) ?_
      obtain ⟨rfl, rfl⟩ := Prod.mk.inj hres
      exact ml_iret hx hb hr hlocks hP hK hD hS d_again_28
def sp_close (d : DK) (pr : Int32) (x : Int32) : Int32 × DK :=
  (oc (sp_fileOf d pr x) ((-1 : Int32), d) (fun i_2 => (if (sp_dropName d pr x i_2).1 = (0 : Int32) then ((0 : Int32), (sp_dropName d pr x i_2).2) else (((sp_dropName d pr x i_2).2).1 3 i_2.val, (sp_dropName d pr x i_2).2))))
abbrev rm_close : Room := { frames := 2, cells := 0, slots := 0, locals := 44 }
set_option maxHeartbeats 4000000 in
set_option maxRecDepth 100000 in
theorem c_close (l : Launch) (dC : Nat → ClassId) (dI : Nat → Nat → Nat) (kc : Nat → ClassId) (a : Nat → Nat) (sz : Nat) (d : DK) (pr : Int32) (x : Int32) (R' : Int32) (d' : DK) (hres : sp_close d pr x = (R', d')) : Met l y_close ws_close rm_close (va_Pc [.ref (a 0), .int pr, .int x] (ml_B (dC, dI) vwCl (tysD kc) 57 a (dcell kc a d) sz)) (va_Qi (fun r (_ : Unit) => r = R') (fun _ t => ml_E (dC, dI) vwCl (tysD kc) 57 a (dcell kc a d') (va_A (ml 57 a (dcell kc a d)) sz) t) (va_A (ml 57 a (dcell kc a d)) sz)) 0 0 (va_A (ml 57 a (dcell kc a d)) sz) := by
  refine Met.ofW (cc := prog_1_method_5_code) (maxL := 4) (ret := (some .int)) (by decide) rfl ?_
  intro p e s m args below meth c s₁ B hml hv
  obtain ⟨rfl, hsz, hP, hK, hD0⟩ := hv
  have hx := B.exec
  have hb := B.bytes
  have hr := B.returns
  have hts := atoms_spec (ws := ws_close) B.pre
  have hown : s.vm.findClass "HandleDesk" = some m.cls := findClass_of_methodNamed B.named
  have hlocks := B.notSynchronized
  subst hsz
  have hD := hD0.self (sz := s.heap.size)
  generalize hAe : va_A (ml 57 a (dcell kc a d)) s.heap.size = A at hD ⊢
  have hA : ∀ q : Nat, s.heap.size ≤ q → A q := fun q h => by rw [← hAe]; exact Or.inr h
  have hS : va_S A s.heap s.heap [] := va_S.rf
  have hl := lv_entry ([.ref (a 0), .int pr, .int x]) (n := 4) (Nat.le_of_ble_eq_true rfl)
  rw [lg_entry_eq]
  generalize (lg_sl ([.ref (a 0), .int pr, .int x]) ++ List.replicate (4 - (lg_sl ([.ref (a 0), .int pr, .int x])).length) Slot.unset).toArray = ls at hl ⊢
  have hl : lv_has ls 4 [(0, .ref (a 0)), (1, .int pr), (2, .int x)] := hl
  rw [sp_close] at hres
  refine lv_aload_n hx hb d_close_0 rfl (lv_at hl 0 rfl) ?_
  refine lv_iload_n hx hb d_close_1 rfl (lv_at hl 1 rfl) ?_
  refine lv_iload_n hx hb d_close_2 rfl (lv_at hl 2 rfl) ?_
  refine ml_callq (va_runV (As := [.int pr, .int x]) (rest := []) ⟨hx, hb, hml, hown, hts⟩ (c_fileOf l dC dI kc a _ d pr x _ rfl) (cwV 2 hts (gd_V mC wd_162 wd_164 ws_1 wd_1 wd_165) rfl rfl rfl hd_fileOf ⟨Nat.le_of_ble_eq_true rfl, Nat.le_of_ble_eq_true rfl⟩) ⟨ml_blind, va_recv hK hP (ci := 0) rfl (ml_at (by decide) (dc_desk kc a d)), ml_pre hP hK hD⟩ rfl rfl hl.1 rfl (lv_room (Nat.le_of_ble_eq_true rfl)) d_close_3 ⟨Nat.zero_le _, Nat.zero_le _⟩) hD hS hA (fun H locs hP hD hS => ?_)
  refine ml_split (fun q_1 => ?_) (fun i_2 q_1 => ?_)
  · rw [q_1, oc_n] at hres
    refine lv_astore_nN (lv' := [(3, .null), (0, .ref (a 0)), (1, .int pr), (2, .int x)]) hx hb d_close_6 rfl hl (by decide) rfl (fun ls hl => ?_)
    refine lv_aload_nN hx hb d_close_7 rfl (lv_at hl 0 rfl) ?_
    refine lv_ifnonnullN hx hb d_close_8 ?_
    refine lv_iconst (v := -1) hx hb d_close_11 (by decide) ?_
    obtain ⟨rfl, rfl⟩ := Prod.mk.inj hres
    exact ml_iret hx hb hr hlocks hP hK hD hS d_close_12
  · rw [q_1, oc_s] at hres
    refine lv_astore_n (lv' := [(3, .ref (a (i_2.val + 3))), (0, .ref (a 0)), (1, .int pr), (2, .int x)]) hx hb d_close_6 rfl hl (by decide) rfl (fun ls hl => ?_)
    refine lv_aload_n hx hb d_close_7 rfl (lv_at hl 0 rfl) ?_
    refine lv_ifnonnull (tgt := 13) hx hb d_close_8 (by decide) ?_
    refine lv_aload_n hx hb d_close_13 rfl (lv_at hl 1 rfl) ?_
    refine lv_iload_n hx hb d_close_14 rfl (lv_at hl 2 rfl) ?_
    refine lv_iload_n hx hb d_close_15 rfl (lv_at hl 3 rfl) ?_
    refine lv_aload_n hx hb d_close_16 rfl (lv_at hl 0 rfl) ?_
    refine ml_calli (va_runV (As := [.int pr, .int x, .ref (a (i_2.val + 3))]) (rest := []) ⟨hx, hb, hml, hown, hts⟩ (c_dropName l dC dI kc a _ d pr x i_2 (sp_dropName d pr x i_2).1 (sp_dropName d pr x i_2).2 (pe _)) (cwV 3 hts (gd_V mC wd_208 wd_210 ws_5 wd_1 wd_211) rfl rfl rfl hd_dropName ⟨Nat.le_of_ble_eq_true rfl, Nat.le_of_ble_eq_true rfl⟩) ⟨ml_blind, va_recv hK hP (ci := 0) rfl (ml_at (by decide) (dc_desk kc a d)), ml_pre hP hK hD⟩ rfl rfl hl.1 rfl (lv_room (Nat.le_of_ble_eq_true rfl)) d_close_17 ⟨Nat.zero_le _, Nat.zero_le _⟩) hD hS hA (fun H locs hP hD hS => ?_)
    refine lv_if_eq (tgt := 30) hx hb d_close_20 (by decide) (fun h_3 => ?_) (fun h_3 => ?_)
    · rw [if_pos h_3] at hres
      refine lv_iconst (v := 0) hx hb d_close_30 (by decide) ?_
      obtain ⟨rfl, rfl⟩ := Prod.mk.inj hres
      exact ml_iret hx hb hr hlocks hP hK hD hS d_close_31
    · rw [if_neg h_3] at hres
      refine lv_aload_n hx hb d_close_23 rfl (lv_at hl 0 rfl) ?_
      refine ml_get (D := (dC, dI)) hx hb hts in_FC hown hK hP (i_2.val + 3) (lt_file i_2) (dc_file kc a ((sp_dropName d pr x i_2).2) i_2) rfl 2 (by decide) (hts _ (mC _ wd_28)) (fun _ h9 => h9) (v := .int (((sp_dropName d pr x i_2).2).1 3 i_2.val)) rfl d_close_24 ?_
      refine lv_goto (tgt := 31) hx hb d_close_27 (by decide) ?_
      obtain ⟨rfl, rfl⟩ := Prod.mk.inj hres
      exact ml_iret hx hb hr hlocks hP hK hD hS d_close_31
