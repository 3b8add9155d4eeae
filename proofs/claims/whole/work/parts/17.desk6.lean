def sp_put (d : DK) (pr : Int32) (x : Int32) (bt : Int32) : Int32 × DK :=
  (oc (sp_fileOf d pr x) ((-1 : Int32), d) (fun i_2 => (if d.1 5 i_2.val = (0 : Int32) then ((-1 : Int32), d) else (oc (d.2.2 i_2.val) ((-1 : Int32), d) (fun i_5 => (if d.1 10 i_5.val = (0 : Int32) then ((-2 : Int32), d) else (if (sp_Pipe_isFull d i_5) = (0 : Int32) then ((0 : Int32), (sp_Pipe_addLast d i_5 bt)) else ((-3 : Int32), d))))))))
abbrev rm_put : Room := { frames := 2, cells := 0, slots := 0, locals := 42 }
set_option maxHeartbeats 4000000 in
set_option maxRecDepth 100000 in
theorem c_put (l : Launch) (dC : Nat → ClassId) (dI : Nat → Nat → Nat) (kc : Nat → ClassId) (a : Nat → Nat) (sz : Nat) (d : DK) (pr : Int32) (x : Int32) (bt : Int32) (R' : Int32) (d' : DK) (hres : sp_put d pr x bt = (R', d')) : Met l y_put ws_put rm_put (va_Pc [.ref (a 0), .int pr, .int x, .int bt] (ml_B (dC, dI) vwCl (tysD kc) 57 a (dcell kc a d) sz)) (va_Qi (fun r (_ : Unit) => r = R') (fun _ t => ml_E (dC, dI) vwCl (tysD kc) 57 a (dcell kc a d') (va_A (ml 57 a (dcell kc a d)) sz) t) (va_A (ml 57 a (dcell kc a d)) sz)) 0 0 (va_A (ml 57 a (dcell kc a d)) sz) := by
  refine Met.ofW (cc := prog_1_method_11_code) (maxL := 6) (ret := (some .int)) (by decide) rfl ?_
  intro p e s m args below meth c s₁ B hml hv
  obtain ⟨rfl, hsz, hP, hK, hD0⟩ := hv
  have hx := B.exec
  have hb := B.bytes
  have hr := B.returns
  have hts := atoms_spec (ws := ws_put) B.pre
  have hown : s.vm.findClass "HandleDesk" = some m.cls := findClass_of_methodNamed B.named
  have hlocks := B.notSynchronized
  subst hsz
  have hD := hD0.self (sz := s.heap.size)
  generalize hAe : va_A (ml 57 a (dcell kc a d)) s.heap.size = A at hD ⊢
  have hA : ∀ q : Nat, s.heap.size ≤ q → A q := fun q h => by rw [← hAe]; exact Or.inr h
  have hS : va_S A s.heap s.heap [] := va_S.rf
  have hl := lv_entry ([.ref (a 0), .int pr, .int x, .int bt]) (n := 6) (Nat.le_of_ble_eq_true rfl)
  rw [lg_entry_eq]
  generalize (lg_sl ([.ref (a 0), .int pr, .int x, .int bt]) ++ List.replicate (6 - (lg_sl ([.ref (a 0), .int pr, .int x, .int bt])).length) Slot.unset).toArray = ls at hl ⊢
  have hl : lv_has ls 6 [(0, .ref (a 0)), (1, .int pr), (2, .int x), (3, .int bt)] := hl
  rw [sp_put] at hres
  refine lv_aload_n hx hb d_put_0 rfl (lv_at hl 0 rfl) ?_
  refine lv_iload_n hx hb d_put_1 rfl (lv_at hl 1 rfl) ?_
  refine lv_iload_n hx hb d_put_2 rfl (lv_at hl 2 rfl) ?_
  refine ml_callq (va_runV (As := [.int pr, .int x]) (rest := []) ⟨hx, hb, hml, hown, hts⟩ (c_fileOf l dC dI kc a _ d pr x _ rfl) (cwV 2 hts (gd_V mC wd_162 wd_164 ws_1 wd_1 wd_165) rfl rfl rfl hd_fileOf ⟨Nat.le_of_ble_eq_true rfl, Nat.le_of_ble_eq_true rfl⟩) ⟨ml_blind, va_recv hK hP (ci := 0) rfl (ml_at (by decide) (dc_desk kc a d)), ml_pre hP hK hD⟩ rfl rfl hl.1 rfl (lv_room (Nat.le_of_ble_eq_true rfl)) d_put_3 ⟨Nat.zero_le _, Nat.zero_le _⟩) hD hS hA (fun H locs hP hD hS => ?_)
  refine ml_split (fun q_1 => ?_) (fun i_2 q_1 => ?_)
  · rw [q_1, oc_n] at hres
    refine lv_astoreN (lv' := [(4, .null), (0, .ref (a 0)), (1, .int pr), (2, .int x), (3, .int bt)]) hx hb d_put_6 hl (by decide) rfl (fun ls hl => ?_)
    refine lv_aloadN hx hb d_put_8 (lv_at hl 0 rfl) ?_
    refine lv_ifnullN (tgt := 21) hx hb d_put_10 (by decide) ?_
    refine lv_iconst (v := -1) hx hb d_put_21 (by decide) ?_
    obtain ⟨rfl, rfl⟩ := Prod.mk.inj hres
    exact ml_iret hx hb hr hlocks hP hK hD hS d_put_22
  · rw [q_1, oc_s] at hres
    refine lv_astore (lv' := [(4, .ref (a (i_2.val + 3))), (0, .ref (a 0)), (1, .int pr), (2, .int x), (3, .int bt)]) hx hb d_put_6 hl (by decide) rfl (fun ls hl => ?_)
    refine lv_aload hx hb d_put_8 (lv_at hl 0 rfl) ?_
    refine lv_ifnull hx hb d_put_10 ?_
    refine lv_aload hx hb d_put_13 (lv_at hl 0 rfl) ?_
    refine ml_get (D := (dC, dI)) hx hb hts in_FC hown hK hP (i_2.val + 3) (lt_file i_2) (dc_file kc a d i_2) rfl 5 (by decide) (hts _ (mC _ wd_34)) (fun _ h9 => h9) (v := .int (d.1 5 i_2.val)) rfl d_put_15 ?_
    refine lv_if_ne (tgt := 23) hx hb d_put_18 (by decide) (fun h_3 => ?_) (fun h_3 => ?_)
    · rw [if_neg h_3] at hres
      refine lv_aload hx hb d_put_23 (lv_at hl 0 rfl) ?_
      refine ml_get (D := (dC, dI)) hx hb hts in_FC hown hK hP (i_2.val + 3) (lt_file i_2) (dc_file kc a d i_2) rfl 3 (by decide) (hts _ (mC _ wd_30)) (fun _ h9 => h9) (v := va_rf ((d.2.2 i_2.val).map (fun i => a (2 * i.val + 36)))) rfl d_put_25 ?_
      refine ml_split (fun q_4 => ?_) (fun i_5 q_4 => ?_)
      · rw [q_4, oc_n] at hres
        refine lv_astoreN (lv' := [(5, .null), (4, .ref (a (i_2.val + 3))), (0, .ref (a 0)), (1, .int pr), (2, .int x), (3, .int bt)]) hx hb d_put_28 hl (by decide) rfl (fun ls hl => ?_)
        refine lv_aloadN hx hb d_put_30 (lv_at hl 0 rfl) ?_
        refine lv_ifnonnullN hx hb d_put_32 ?_
        refine lv_iconst (v := -1) hx hb d_put_35 (by decide) ?_
        obtain ⟨rfl, rfl⟩ := Prod.mk.inj hres
        exact ml_iret hx hb hr hlocks hP hK hD hS d_put_36
      · rw [q_4, oc_s] at hres
        refine lv_astore (lv' := [(5, .ref (a (2 * i_5.val + 36))), (4, .ref (a (i_2.val + 3))), (0, .ref (a 0)), (1, .int pr), (2, .int x), (3, .int bt)]) hx hb d_put_28 hl (by decide) rfl (fun ls hl => ?_)
        refine lv_aload hx hb d_put_30 (lv_at hl 0 rfl) ?_
        refine lv_ifnonnull (tgt := 37) hx hb d_put_32 (by decide) ?_
        refine lv_aload hx hb d_put_37 (lv_at hl 0 rfl) ?_
        refine ml_get (D := (dC, dI)) hx hb hts in_PC hown hK hP (2 * i_5.val + 36) (lt_pipe i_5) (dc_pipe kc a d i_5) rfl 4 (by decide) (hts _ (mC _ wd_70)) (fun _ h9 => h9) (v := .int (d.1 10 i_5.val)) rfl d_put_39 ?_
        refine lv_if_ne (tgt := 48) hx hb d_put_42 (by decide) (fun h_6 => ?_) (fun h_6 => ?_)
        · rw [if_neg h_6] at hres
          refine lv_aload hx hb d_put_48 (lv_at hl 0 rfl) ?_
          refine ml_calli (va_runV (As := []) (rest := []) ⟨hx, hb, hml, hown, hts⟩ (c_Pipe_isFull l dC dI kc a _ d i_5 _ rfl) (cwV 0 hts (gd_V mC wd_251 wd_252 wd_253 wd_3 wd_254) rfl rfl rfl hd_Pipe_isFull ⟨Nat.le_of_ble_eq_true rfl, Nat.le_of_ble_eq_true rfl⟩) ⟨ml_blind, va_recv hK hP (ci := 2) rfl (ml_at (lt_pipe i_5) (dc_pipe kc a d i_5)), ml_pre hP hK hD⟩ rfl rfl hl.1 rfl (lv_room (Nat.le_of_ble_eq_true rfl)) d_put_50 ⟨Nat.zero_le _, Nat.zero_le _⟩) hD hS hA (fun H locs hP hD hS => ?_)
          refine lv_if_eq (tgt := 59) hx hb d_put_53 (by decide) (fun h_7 => ?_) (fun h_7 => ?_)
          · rw [if_pos h_7] at hres
            refine lv_aload hx hb d_put_59 (lv_at hl 0 rfl) ?_
            refine lv_iload_n hx hb d_put_61 rfl (lv_at hl 5 rfl) ?_
            refine ml_callv (va_runV (As := [.int bt]) (rest := []) ⟨hx, hb, hml, hown, hts⟩ (c_Pipe_addLast l dC dI kc a _ d i_5 bt _ rfl) (cwV 1 hts (gd_V mC wd_255 wd_256 wd_257 wd_3 wd_258) rfl rfl rfl hd_Pipe_addLast ⟨Nat.le_of_ble_eq_true rfl, Nat.le_of_ble_eq_true rfl⟩) ⟨ml_blind, va_recv hK hP (ci := 2) rfl (ml_at (lt_pipe i_5) (dc_pipe kc a d i_5)), ml_pre hP hK hD⟩ rfl rfl hl.1 rfl (lv_room (Nat.le_of_ble_eq_true rfl)) d_put_62 ⟨Nat.zero_le _, Nat.zero_le _⟩) hD hS hA (fun H locs hP hD hS => ?_)
            refine lv_iconst (v := 0) hx hb d_put_65 (by decide) ?_
            obtain ⟨rfl, rfl⟩ := Prod.mk.inj hres
            exact ml_iret hx hb hr hlocks hP hK hD hS d_put_66
          · rw [if_neg h_7] at hres
            refine lv_bipush (v := -3) hx hb d_put_56 (by decide) ?_
            obtain ⟨rfl, rfl⟩ := Prod.mk.inj hres
            exact ml_iret hx hb hr hlocks hP hK hD hS d_put_58
        · rw [if_pos h_6] at hres
          refine lv_bipush (v := -2) hx hb d_put_45 (by decide) ?_
          obtain ⟨rfl, rfl⟩ := Prod.mk.inj hres
          exact ml_iret hx hb hr hlocks hP hK hD hS d_put_47
    · rw [if_pos h_3] at hres
      refine lv_iconst (v := -1) hx hb d_put_21 (by decide) ?_
      obtain ⟨rfl, rfl⟩ := Prod.mk.inj hres
      exact ml_iret hx hb hr hlocks hP hK hD hS d_put_22
def sp_take (d : DK) (pr : Int32) (x : Int32) : Int32 × DK :=
  (oc (sp_fileOf d pr x) ((-1 : Int32), d) (fun i_2 => (if d.1 4 i_2.val = (0 : Int32) then ((-1 : Int32), d) else (oc (d.2.2 i_2.val) ((-1 : Int32), d) (fun i_5 => (if (d.1 9 i_5.val) ≤ (0 : Int32) then (if d.1 11 i_5.val = (0 : Int32) then ((-4 : Int32), d) else ((-3 : Int32), d)) else ((sp_Pipe_removeFirst d i_5).1, (sp_Pipe_removeFirst d i_5).2)))))))
abbrev rm_take : Room := { frames := 2, cells := 0, slots := 0, locals := 42 }
set_option maxHeartbeats 4000000 in
set_option maxRecDepth 100000 in
theorem c_take (l : Launch) (dC : Nat → ClassId) (dI : Nat → Nat → Nat) (kc : Nat → ClassId) (a : Nat → Nat) (sz : Nat) (d : DK) (pr : Int32) (x : Int32) (R' : Int32) (d' : DK) (hres : sp_take d pr x = (R', d')) : Met l y_take ws_take rm_take (va_Pc [.ref (a 0), .int pr, .int x] (ml_B (dC, dI) vwCl (tysD kc) 57 a (dcell kc a d) sz)) (va_Qi (fun r (_ : Unit) => r = R') (fun _ t => ml_E (dC, dI) vwCl (tysD kc) 57 a (dcell kc a d') (va_A (ml 57 a (dcell kc a d)) sz) t) (va_A (ml 57 a (dcell kc a d)) sz)) 0 0 (va_A (ml 57 a (dcell kc a d)) sz) := by
  refine Met.ofW (cc := prog_1_method_12_code) (maxL := 5) (ret := (some .int)) (by decide) rfl ?_
  intro p e s m args below meth c s₁ B hml hv
  obtain ⟨rfl, hsz, hP, hK, hD0⟩ := hv
  have hx := B.exec
  have hb := B.bytes
  have hr := B.returns
  have hts := atoms_spec (ws := ws_take) B.pre
  have hown : s.vm.findClass "HandleDesk" = some m.cls := findClass_of_methodNamed B.named
  have hlocks := B.notSynchronized
  subst hsz
  have hD := hD0.self (sz := s.heap.size)
  generalize hAe : va_A (ml 57 a (dcell kc a d)) s.heap.size = A at hD ⊢
  have hA : ∀ q : Nat, s.heap.size ≤ q → A q := fun q h => by rw [← hAe]; exact Or.inr h
  have hS : va_S A s.heap s.heap [] := va_S.rf
  have hl := lv_entry ([.ref (a 0), .int pr, .int x]) (n := 5) (Nat.le_of_ble_eq_true rfl)
  rw [lg_entry_eq]
  generalize (lg_sl ([.ref (a 0), .int pr, .int x]) ++ List.replicate (5 - (lg_sl ([.ref (a 0), .int pr, .int x])).length) Slot.unset).toArray = ls at hl ⊢
  have hl : lv_has ls 5 [(0, .ref (a 0)), (1, .int pr), (2, .int x)] := hl
  rw [sp_take] at hres
  refine lv_aload_n hx hb d_take_0 rfl (lv_at hl 0 rfl) ?_
  refine lv_iload_n hx hb d_take_1 rfl (lv_at hl 1 rfl) ?_
  refine lv_iload_n hx hb d_take_2 rfl (lv_at hl 2 rfl) ?_
  refine ml_callq (va_runV (As := [.int pr, .int x]) (rest := []) ⟨hx, hb, hml, hown, hts⟩ (c_fileOf l dC dI kc a _ d pr x _ rfl) (cwV 2 hts (gd_V mC wd_162 wd_164 ws_1 wd_1 wd_165) rfl rfl rfl hd_fileOf ⟨Nat.le_of_ble_eq_true rfl, Nat.le_of_ble_eq_true rfl⟩) ⟨ml_blind, va_recv hK hP (ci := 0) rfl (ml_at (by decide) (dc_desk kc a d)), ml_pre hP hK hD⟩ rfl rfl hl.1 rfl (lv_room (Nat.le_of_ble_eq_true rfl)) d_take_3 ⟨Nat.zero_le _, Nat.zero_le _⟩) hD hS hA (fun H locs hP hD hS => ?_)
  refine ml_split (fun q_1 => ?_) (fun i_2 q_1 => ?_)
  · rw [q_1, oc_n] at hres
    refine lv_astore_nN (lv' := [(3, .null), (0, .ref (a 0)), (1, .int pr), (2, .int x)]) hx hb d_take_6 rfl hl (by decide) rfl (fun ls hl => ?_)
    refine lv_aload_nN hx hb d_take_7 rfl (lv_at hl 0 rfl) ?_
    refine lv_ifnullN (tgt := 18) hx hb d_take_8 (by decide) ?_
    refine lv_iconst (v := -1) hx hb d_take_18 (by decide) ?_
    obtain ⟨rfl, rfl⟩ := Prod.mk.inj hres
    exact ml_iret hx hb hr hlocks hP hK hD hS d_take_19
  · rw [q_1, oc_s] at hres
    refine lv_astore_n (lv' := [(3, .ref (a (i_2.val + 3))), (0, .ref (a 0)), (1, .int pr), (2, .int x)]) hx hb d_take_6 rfl hl (by decide) rfl (fun ls hl => ?_)
    refine lv_aload_n hx hb d_take_7 rfl (lv_at hl 0 rfl) ?_
    refine lv_ifnull hx hb d_take_8 ?_
    refine lv_aload_n hx hb d_take_11 rfl (lv_at hl 0 rfl) ?_
    refine ml_get (D := (dC, dI)) hx hb hts in_FC hown hK hP (i_2.val + 3) (lt_file i_2) (dc_file kc a d i_2) rfl 4 (by decide) (hts _ (mC _ wd_32)) (fun _ h9 => h9) (v := .int (d.1 4 i_2.val)) rfl d_take_12 ?_
    refine lv_if_ne (tgt := 20) hx hb d_take_15 (by decide) (fun h_3 => ?_) (fun h_3 => ?_)
    · rw [if_neg h_3] at hres
      refine lv_aload_n hx hb d_take_20 rfl (lv_at hl 0 rfl) ?_
      refine ml_get (D := (dC, dI)) hx hb hts in_FC hown hK hP (i_2.val + 3) (lt_file i_2) (dc_file kc a d i_2) rfl 3 (by decide) (hts _ (mC _ wd_30)) (fun _ h9 => h9) (v := va_rf ((d.2.2 i_2.val).map (fun i => a (2 * i.val + 36)))) rfl d_take_21 ?_
      refine ml_split (fun q_4 => ?_) (fun i_5 q_4 => ?_)
      · rw [q_4, oc_n] at hres
        refine lv_astoreN (lv' := [(4, .null), (3, .ref (a (i_2.val + 3))), (0, .ref (a 0)), (1, .int pr), (2, .int x)]) hx hb d_take_24 hl (by decide) rfl (fun ls hl => ?_)
        refine lv_aloadN hx hb d_take_26 (lv_at hl 0 rfl) ?_
        refine lv_ifnonnullN hx hb d_take_28 ?_
        refine lv_iconst (v := -1) hx hb d_take_31 (by decide) ?_
        obtain ⟨rfl, rfl⟩ := Prod.mk.inj hres
        exact ml_iret hx hb hr hlocks hP hK hD hS d_take_32
      · rw [q_4, oc_s] at hres
        refine lv_astore (lv' := [(4, .ref (a (2 * i_5.val + 36))), (3, .ref (a (i_2.val + 3))), (0, .ref (a 0)), (1, .int pr), (2, .int x)]) hx hb d_take_24 hl (by decide) rfl (fun ls hl => ?_)
        refine lv_aload hx hb d_take_26 (lv_at hl 0 rfl) ?_
        refine lv_ifnonnull (tgt := 33) hx hb d_take_28 (by decide) ?_
        refine lv_aload hx hb d_take_33 (lv_at hl 0 rfl) ?_
        refine ml_get (D := (dC, dI)) hx hb hts in_PC hown hK hP (2 * i_5.val + 36) (lt_pipe i_5) (dc_pipe kc a d i_5) rfl 3 (by decide) (hts _ (mC _ wd_68)) (fun _ h9 => h9) (v := .int (d.1 9 i_5.val)) rfl d_take_35 ?_
        refine lv_if_le (tgt := 47) hx hb d_take_38 (by decide) (fun h_6 => ?_) (fun h_6 => ?_)
        · rw [if_pos h_6] at hres
          refine lv_aload hx hb d_take_47 (lv_at hl 0 rfl) ?_
          refine ml_get (D := (dC, dI)) hx hb hts in_PC hown hK hP (2 * i_5.val + 36) (lt_pipe i_5) (dc_pipe kc a d i_5) rfl 5 (by decide) (hts _ (mC _ wd_72)) (fun _ h9 => h9) (v := .int (d.1 11 i_5.val)) rfl d_take_49 ?_
          refine lv_if_eq (tgt := 60) hx hb d_take_52 (by decide) (fun h_7 => ?_) (fun h_7 => ?_)
          · rw [if_pos h_7] at hres
            refine lv_bipush (v := -4) hx hb d_take_60 (by decide) ?_
            obtain ⟨rfl, rfl⟩ := Prod.mk.inj hres
            exact ml_iret hx hb hr hlocks hP hK hD hS d_take_62
          · rw [if_neg h_7] at hres
            refine lv_bipush (v := -3) hx hb d_take_55 (by decide) ?_
            refine lv_goto (tgt := 62) hx hb d_take_57 (by decide) ?_
            obtain ⟨rfl, rfl⟩ := Prod.mk.inj hres
            exact ml_iret hx hb hr hlocks hP hK hD hS d_take_62
        · rw [if_neg h_6] at hres
          refine lv_aload hx hb d_take_41 (lv_at hl 0 rfl) ?_
          refine ml_calli (va_runV (As := []) (rest := []) ⟨hx, hb, hml, hown, hts⟩ (c_Pipe_removeFirst l dC dI kc a _ d i_5 (sp_Pipe_removeFirst d i_5).1 (sp_Pipe_removeFirst d i_5).2 (pe _)) (cwV 0 hts (gd_V mC wd_263 wd_264 wd_265 wd_3 wd_266) rfl rfl rfl hd_Pipe_removeFirst ⟨Nat.le_of_ble_eq_true rfl, Nat.le_of_ble_eq_true rfl⟩) ⟨ml_blind, va_recv hK hP (ci := 2) rfl (ml_at (lt_pipe i_5) (dc_pipe kc a d i_5)), ml_pre hP hK hD⟩ rfl rfl hl.1 rfl (lv_room (Nat.le_of_ble_eq_true rfl)) d_take_43 ⟨Nat.zero_le _, Nat.zero_le _⟩) hD hS hA (fun H locs hP hD hS => ?_)
          obtain ⟨rfl, rfl⟩ := Prod.mk.inj hres
          exact ml_iret hx hb hr hlocks hP hK hD hS d_take_46
    · rw [if_pos h_3] at hres
      refine lv_iconst (v := -1) hx hb d_take_18 (by decide) ?_
      obtain ⟨rfl, rfl⟩ := Prod.mk.inj hres
      exact ml_iret hx hb hr hlocks hP hK hD hS d_take_19
def sp_ends (d : DK) (kx : Int32) (wh : Int32) : Int32 :=
  (if kx < (0 : Int32) then (-1 : Int32) else (if kx < (8 : Int32) then (if (sp_Pipe_isGone d (Fin.ofNat 8 kx.toNatClampNeg)) = (0 : Int32) then (if wh = (0 : Int32) then (d.1 9 (Fin.ofNat 8 kx.toNatClampNeg).val) else (if wh = (1 : Int32) then (sp_oneIf (d.1 10 (Fin.ofNat 8 kx.toNatClampNeg).val)) else (if wh = (2 : Int32) then (sp_oneIf (d.1 11 (Fin.ofNat 8 kx.toNatClampNeg).val)) else (-1 : Int32)))) else (-1 : Int32)) else (-1 : Int32)))
abbrev rm_ends : Room := { frames := 1, cells := 0, slots := 0, locals := 20 }
set_option maxHeartbeats 4000000 in
set_option maxRecDepth 100000 in
theorem c_ends (l : Launch) (dC : Nat → ClassId) (dI : Nat → Nat → Nat) (kc : Nat → ClassId) (a : Nat → Nat) (sz : Nat) (d : DK) (kx : Int32) (wh : Int32) (R' : Int32) (hres : sp_ends d kx wh = R') : Met l y_ends ws_ends rm_ends (va_Pc [.ref (a 0), .int kx, .int wh] (ml_B (dC, dI) vwCl (tysD kc) 57 a (dcell kc a d) sz)) (va_Qi (fun r (_ : Unit) => r = R') (fun _ t => ml_E (dC, dI) vwCl (tysD kc) 57 a (dcell kc a d) (va_A (ml 57 a (dcell kc a d)) sz) t) (va_A (ml 57 a (dcell kc a d)) sz)) 0 0 (va_A (ml 57 a (dcell kc a d)) sz) := by
  refine Met.ofW (cc := prog_1_method_13_code) (maxL := 4) (ret := (some .int)) (by decide) rfl ?_
  intro p e s m args below meth c s₁ B hml hv
  obtain ⟨rfl, hsz, hP, hK, hD0⟩ := hv
  have hx := B.exec
  have hb := B.bytes
  have hr := B.returns
  have hts := atoms_spec (ws := ws_ends) B.pre
  have hown : s.vm.findClass "HandleDesk" = some m.cls := findClass_of_methodNamed B.named
  have hlocks := B.notSynchronized
  subst hsz
  have hD := hD0.self (sz := s.heap.size)
  generalize hAe : va_A (ml 57 a (dcell kc a d)) s.heap.size = A at hD ⊢
  have hA : ∀ q : Nat, s.heap.size ≤ q → A q := fun q h => by rw [← hAe]; exact Or.inr h
  have hS : va_S A s.heap s.heap [] := va_S.rf
  have hl := lv_entry ([.ref (a 0), .int kx, .int wh]) (n := 4) (Nat.le_of_ble_eq_true rfl)
  rw [lg_entry_eq]
  generalize (lg_sl ([.ref (a 0), .int kx, .int wh]) ++ List.replicate (4 - (lg_sl ([.ref (a 0), .int kx, .int wh])).length) Slot.unset).toArray = ls at hl ⊢
  have hl : lv_has ls 4 [(0, .ref (a 0)), (1, .int kx), (2, .int wh)] := hl
  rw [sp_ends] at hres
  refine lv_iload_n hx hb d_ends_0 rfl (lv_at hl 1 rfl) ?_
  refine lv_if_lt (tgt := 13) hx hb d_ends_1 (by decide) (fun h_1 => ?_) (fun h_1 => ?_)
  · rw [if_pos h_1] at hres
    refine lv_iconst (v := -1) hx hb d_ends_13 (by decide) ?_
    subst hres
    exact ml_iret hx hb hr hlocks hP hK hD hS d_ends_14
  · rw [if_neg h_1] at hres
    refine lv_iload_n hx hb d_ends_4 rfl (lv_at hl 1 rfl) ?_
    refine lv_aload_n hx hb d_ends_5 rfl (lv_at hl 0 rfl) ?_
    refine ml_get (D := (dC, dI)) hx hb hts in_DC hown hK hP (0) (by decide) (dc_desk kc a d) rfl 2 (by decide) (hts _ (mC _ wd_125)) (fun _ h9 => h9) (v := .ref (a 35)) rfl d_ends_6 ?_
    refine ml_alen hx hb hK hP (35) 3 (by decide) (dc_pipes kc a d) rfl (v := 8) rfl d_ends_9 ?_
    refine lv_icmp_lt (tgt := 15) hx hb d_ends_10 (by decide) (fun h_2 => ?_) (fun h_2 => ?_)
    · rw [if_pos h_2] at hres
      refine lv_aload_n hx hb d_ends_15 rfl (lv_at hl 0 rfl) ?_
      refine ml_get (D := (dC, dI)) hx hb hts in_DC hown hK hP (0) (by decide) (dc_desk kc a d) rfl 2 (by decide) (hts _ (mC _ wd_125)) (fun _ h9 => h9) (v := .ref (a 35)) rfl d_ends_16 ?_
      refine lv_iload_n hx hb d_ends_19 rfl (lv_at hl 1 rfl) ?_
      refine dk_ald_pipes hx hb hK hP (in_cmpL (b := (8 : Int32)) rfl (by decide) (by assumption) (by assumption)) d_ends_20 ?_
      refine lv_astore_n (lv' := [(3, .ref (a (2 * (Fin.ofNat 8 kx.toNatClampNeg).val + 36))), (0, .ref (a 0)), (1, .int kx), (2, .int wh)]) hx hb d_ends_21 rfl hl (by decide) rfl (fun ls hl => ?_)
      refine lv_aload_n hx hb d_ends_22 rfl (lv_at hl 0 rfl) ?_
      refine lv_ifnull hx hb d_ends_23 ?_
      refine lv_aload_n hx hb d_ends_26 rfl (lv_at hl 0 rfl) ?_
      refine ml_calli (va_runV (As := []) (rest := []) ⟨hx, hb, hml, hown, hts⟩ (c_Pipe_isGone l dC dI kc a _ d (Fin.ofNat 8 kx.toNatClampNeg) _ rfl) (cwV 0 hts (gd_V mC wd_189 wd_190 wd_191 wd_3 wd_192) rfl rfl rfl hd_Pipe_isGone ⟨Nat.le_of_ble_eq_true rfl, Nat.le_of_ble_eq_true rfl⟩) ⟨ml_blind, va_recv hK hP (ci := 2) rfl (ml_at (lt_pipe (Fin.ofNat 8 kx.toNatClampNeg)) (dc_pipe kc a d (Fin.ofNat 8 kx.toNatClampNeg))), ml_pre hP hK hD⟩ rfl rfl hl.1 rfl (lv_room (Nat.le_of_ble_eq_true rfl)) d_ends_27 ⟨Nat.zero_le _, Nat.zero_le _⟩) hD hS hA (fun H locs hP hD hS => ?_)
      refine lv_if_eq (tgt := 35) hx hb d_ends_30 (by decide) (fun h_3 => ?_) (fun h_3 => ?_)
      · rw [if_pos h_3] at hres
        refine lv_iload_n hx hb d_ends_35 rfl (lv_at hl 3 rfl) ?_
        by_cases e_4 : wh = (0 : Int32)
        · rw [if_pos e_4] at hres
          refine lv_tableIn (off := 28) (tgt := 64) hx hb d_ends_36 (by rw [e_4]; decide) (by rw [e_4]; decide) (by rw [e_4]; rfl) (by decide) ?_
          refine lv_aload_n hx hb d_ends_64 rfl (lv_at hl 0 rfl) ?_
          refine ml_get (D := (dC, dI)) hx hb hts in_PC hown hK hP (2 * (Fin.ofNat 8 kx.toNatClampNeg).val + 36) (lt_pipe (Fin.ofNat 8 kx.toNatClampNeg)) (dc_pipe kc a d (Fin.ofNat 8 kx.toNatClampNeg)) rfl 3 (by decide) (hts _ (mC _ wd_68)) (fun _ h9 => h9) (v := .int (d.1 9 (Fin.ofNat 8 kx.toNatClampNeg).val)) rfl d_ends_65 ?_
          subst hres
          exact ml_iret hx hb hr hlocks hP hK hD hS d_ends_68
        · rw [if_neg e_4] at hres
          by_cases e_5 : wh = (1 : Int32)
          · rw [if_pos e_5] at hres
            refine lv_tableIn (off := 33) (tgt := 69) hx hb d_ends_36 (by rw [e_5]; decide) (by rw [e_5]; decide) (by rw [e_5]; rfl) (by decide) ?_
            refine lv_aload_n hx hb d_ends_69 rfl (lv_at hl 0 rfl) ?_
            refine ml_get (D := (dC, dI)) hx hb hts in_PC hown hK hP (2 * (Fin.ofNat 8 kx.toNatClampNeg).val + 36) (lt_pipe (Fin.ofNat 8 kx.toNatClampNeg)) (dc_pipe kc a d (Fin.ofNat 8 kx.toNatClampNeg)) rfl 4 (by decide) (hts _ (mC _ wd_70)) (fun _ h9 => h9) (v := .int (d.1 10 (Fin.ofNat 8 kx.toNatClampNeg).val)) rfl d_ends_70 ?_
            refine ml_calli (va_runS (As := [.int (d.1 10 (Fin.ofNat 8 kx.toNatClampNeg).val)]) (rest := []) ⟨hx, hb, hml, hown, hts⟩ (c_oneIf l dC dI kc a _ d (d.1 10 (Fin.ofNat 8 kx.toNatClampNeg).val) _ rfl) (cwS 1 hts (gd_S mC wd_240 wd_241 wd_1 wd_242) rfl rfl rfl hd_oneIf ⟨Nat.le_of_ble_eq_true rfl, Nat.le_of_ble_eq_true rfl⟩) ⟨ml_blind, ml_pre hP hK hD⟩ rfl rfl hl.1 rfl (lv_room (Nat.le_of_ble_eq_true rfl)) d_ends_73 ⟨Nat.zero_le _, Nat.zero_le _⟩) hD hS hA (fun H locs hP hD hS => ?_)
            subst hres
            exact ml_iret hx hb hr hlocks hP hK hD hS d_ends_76
          · rw [if_neg e_5] at hres
            by_cases e_6 : wh = (2 : Int32)
            · rw [if_pos e_6] at hres
              refine lv_tableIn (off := 41) (tgt := 77) hx hb d_ends_36 (by rw [e_6]; decide) (by rw [e_6]; decide) (by rw [e_6]; rfl) (by decide) ?_
              refine lv_aload_n hx hb d_ends_77 rfl (lv_at hl 0 rfl) ?_
              refine ml_get (D := (dC, dI)) hx hb hts in_PC hown hK hP (2 * (Fin.ofNat 8 kx.toNatClampNeg).val + 36) (lt_pipe (Fin.ofNat 8 kx.toNatClampNeg)) (dc_pipe kc a d (Fin.ofNat 8 kx.toNatClampNeg)) rfl 5 (by decide) (hts _ (mC _ wd_72)) (fun _ h9 => h9) (v := .int (d.1 11 (Fin.ofNat 8 kx.toNatClampNeg).val)) rfl d_ends_78 ?_
              refine ml_calli (va_runS (As := [.int (d.1 11 (Fin.ofNat 8 kx.toNatClampNeg).val)]) (rest := []) ⟨hx, hb, hml, hown, hts⟩ (c_oneIf l dC dI kc a _ d (d.1 11 (Fin.ofNat 8 kx.toNatClampNeg).val) _ rfl) (cwS 1 hts (gd_S mC wd_240 wd_241 wd_1 wd_242) rfl rfl rfl hd_oneIf ⟨Nat.le_of_ble_eq_true rfl, Nat.le_of_ble_eq_true rfl⟩) ⟨ml_blind, ml_pre hP hK hD⟩ rfl rfl hl.1 rfl (lv_room (Nat.le_of_ble_eq_true rfl)) d_ends_81 ⟨Nat.zero_le _, Nat.zero_le _⟩) hD hS hA (fun H locs hP hD hS => ?_)
              subst hres
              exact ml_iret hx hb hr hlocks hP hK hD hS d_ends_84
            · rw [if_neg e_6] at hres
              have te_4 := tw_ne e_4 0 (by decide)
              have te_5 := tw_ne e_5 1 (by decide)
              have te_6 := tw_ne e_6 2 (by decide)
              refine lv_tableOut (tgt := 85) hx hb d_ends_36 (by omega) (by decide) ?_
              refine lv_iconst (v := -1) hx hb d_ends_85 (by decide) ?_
              subst hres
              exact ml_iret hx hb hr hlocks hP hK hD hS d_ends_86
      · rw [if_neg h_3] at hres
        refine lv_iconst (v := -1) hx hb d_ends_33 (by decide) ?_
        subst hres
        exact ml_iret hx hb hr hlocks hP hK hD hS d_ends_34
    · rw [if_neg h_2] at hres
      refine lv_iconst (v := -1) hx hb d_ends_13 (by decide) ?_
      subst hres
      exact ml_iret hx hb hr hlocks hP hK hD hS d_ends_14
def sp_type (d : DK) (bt : Int32) : Int32 × DK :=
  (if bt < (0 : Int32) then ((0 : Int32), d) else (if bt ≤ (255 : Int32) then (if bt = (8 : Int32) then ((1 : Int32), (sp_takeBack d (if (sp_Con_lineLength d) < (1 : Int32) then (sp_Con_lineLength d) else (1 : Int32)))) else (if bt = (127 : Int32) then ((1 : Int32), (sp_takeBack d (if (sp_Con_lineLength d) < (1 : Int32) then (sp_Con_lineLength d) else (1 : Int32)))) else (if bt = (21 : Int32) then ((1 : Int32), (sp_takeBack d (sp_Con_lineLength d))) else (if (sp_Con_isFull d) = (0 : Int32) then (if bt = (13 : Int32) then ((1 : Int32), (sp_Scr_addLast (sp_Con_addToLine d (10 : Int32)) (10 : Int32))) else ((1 : Int32), (sp_Scr_addLast (sp_Con_addToLine d bt) bt))) else ((0 : Int32), d))))) else ((0 : Int32), d)))
abbrev rm_type : Room := { frames := 2, cells := 0, slots := 0, locals := 43 }
set_option maxHeartbeats 4000000 in
set_option maxRecDepth 100000 in
theorem c_type (l : Launch) (dC : Nat → ClassId) (dI : Nat → Nat → Nat) (kc : Nat → ClassId) (a : Nat → Nat) (sz : Nat) (d : DK) (bt : Int32) (R' : Int32) (d' : DK) (hres : sp_type d bt = (R', d')) : Met l y_type ws_type rm_type (va_Pc [.ref (a 0), .int bt] (ml_B (dC, dI) vwCl (tysD kc) 57 a (dcell kc a d) sz)) (va_Qi (fun r (_ : Unit) => r = R') (fun _ t => ml_E (dC, dI) vwCl (tysD kc) 57 a (dcell kc a d') (va_A (ml 57 a (dcell kc a d)) sz) t) (va_A (ml 57 a (dcell kc a d)) sz)) 0 0 (va_A (ml 57 a (dcell kc a d)) sz) := by
  refine Met.ofW (cc := prog_1_method_14_code) (maxL := 3) (ret := (some .boolean)) (by decide) rfl ?_
  intro p e s m args below meth c s₁ B hml hv
  obtain ⟨rfl, hsz, hP, hK, hD0⟩ := hv
  have hx := B.exec
  have hb := B.bytes
  have hr := B.returns
  have hts := atoms_spec (ws := ws_type) B.pre
  have hown : s.vm.findClass "HandleDesk" = some m.cls := findClass_of_methodNamed B.named
  have hlocks := B.notSynchronized
  subst hsz
  have hD := hD0.self (sz := s.heap.size)
  generalize hAe : va_A (ml 57 a (dcell kc a d)) s.heap.size = A at hD ⊢
  have hA : ∀ q : Nat, s.heap.size ≤ q → A q := fun q h => by rw [← hAe]; exact Or.inr h
  have hS : va_S A s.heap s.heap [] := va_S.rf
  have hl := lv_entry ([.ref (a 0), .int bt]) (n := 3) (Nat.le_of_ble_eq_true rfl)
  rw [lg_entry_eq]
  generalize (lg_sl ([.ref (a 0), .int bt]) ++ List.replicate (3 - (lg_sl ([.ref (a 0), .int bt])).length) Slot.unset).toArray = ls at hl ⊢
  have hl : lv_has ls 3 [(0, .ref (a 0)), (1, .int bt)] := hl
  rw [sp_type] at hres
  refine lv_iload_n hx hb d_type_0 rfl (lv_at hl 1 rfl) ?_
  refine lv_if_lt (tgt := 11) hx hb d_type_1 (by decide) (fun h_1 => ?_) (fun h_1 => ?_)
  · rw [if_pos h_1] at hres
    refine lv_iconst (v := 0) hx hb d_type_11 (by decide) ?_
    obtain ⟨rfl, rfl⟩ := Prod.mk.inj hres
    exact ml_zret hx hb hr (by decide) hlocks hP hK hD hS d_type_12
  · rw [if_neg h_1] at hres
    refine lv_iload_n hx hb d_type_4 rfl (lv_at hl 1 rfl) ?_
    refine lv_sipush (v := 255) hx hb d_type_5 (by decide) ?_
    refine lv_icmp_le (tgt := 13) hx hb d_type_8 (by decide) (fun h_2 => ?_) (fun h_2 => ?_)
    · rw [if_pos h_2] at hres
      refine lv_iload_n hx hb d_type_13 rfl (lv_at hl 1 rfl) ?_
      refine lv_bipush (v := 8) hx hb d_type_14 (by decide) ?_
      refine lv_icmp_eq (tgt := 25) hx hb d_type_16 (by decide) (fun h_3 => ?_) (fun h_3 => ?_)
      · rw [if_pos h_3] at hres
        refine lv_aload_n hx hb d_type_25 rfl (lv_at hl 0 rfl) ?_
        refine lv_iconst (v := 1) hx hb d_type_26 (by decide) ?_
        refine lv_aload_n hx hb d_type_27 rfl (lv_at hl 0 rfl) ?_
        refine ml_get (D := (dC, dI)) hx hb hts in_DC hown hK hP (0) (by decide) (dc_desk kc a d) rfl 5 (by decide) (hts _ (mC _ wd_128)) (fun _ h9 => h9) (v := .ref (a 53)) rfl d_type_28 ?_
        refine ml_calli (va_runV (As := []) (rest := [.int (1 : Int32), .ref (a 0)]) ⟨hx, hb, hml, hown, hts⟩ (c_Con_lineLength l dC dI kc a _ d _ rfl) (cwV 0 hts (gd_V mC wd_275 wd_276 wd_277 wd_4 wd_278) rfl rfl rfl hd_Con_lineLength ⟨Nat.le_of_ble_eq_true rfl, Nat.le_of_ble_eq_true rfl⟩) ⟨ml_blind, va_recv hK hP (ci := 3) rfl (ml_at (by decide) (dc_con kc a d)), ml_pre hP hK hD⟩ rfl rfl hl.1 rfl (lv_room (Nat.le_of_ble_eq_true rfl)) d_type_31 ⟨Nat.zero_le _, Nat.zero_le _⟩) hD hS hA (fun H locs hP hD hS => ?_)
        refine va_mmin hx hb (by rw [hml]; exact hl.1.symm) hown (hts _ (mC _ wd_279)) (hts _ (mC _ wd_280)) (hts _ (mC _ wd_7)) (hts _ (mC _ wd_281)) (Nat.le_of_ble_eq_true rfl) (Nat.le_of_ble_eq_true rfl) (Nat.zero_le _) (Nat.zero_le _) d_type_34 ?_
        refine ml_callv (va_runV (As := [.int (if (sp_Con_lineLength d) < (1 : Int32) then (sp_Con_lineLength d) else (1 : Int32))]) (rest := []) ⟨hx, hb, hml, hown, hts⟩ (c_takeBack l dC dI kc a _ d (if (sp_Con_lineLength d) < (1 : Int32) then (sp_Con_lineLength d) else (1 : Int32)) _ rfl) (cwV 1 hts (gd_V mC wd_282 wd_284 ws_8 wd_1 wd_285) rfl rfl rfl hd_takeBack ⟨Nat.le_of_ble_eq_true rfl, Nat.le_of_ble_eq_true rfl⟩) ⟨ml_blind, va_recv hK hP (ci := 0) rfl (ml_at (by decide) (dc_desk kc a d)), ml_pre hP hK hD⟩ rfl rfl hl.1 rfl (lv_room (Nat.le_of_ble_eq_true rfl)) d_type_37 ⟨Nat.zero_le _, Nat.zero_le _⟩) hD hS hA (fun H locs hP hD hS => ?_)
        refine lv_iconst (v := 1) hx hb d_type_40 (by decide) ?_
        obtain ⟨rfl, rfl⟩ := Prod.mk.inj hres
        exact ml_zret hx hb hr (by decide) hlocks hP hK hD hS d_type_41
      · rw [if_neg h_3] at hres
        refine lv_iload_n hx hb d_type_19 rfl (lv_at hl 1 rfl) ?_
        refine lv_bipush (v := 127) hx hb d_type_20 (by decide) ?_
        refine lv_icmp_ne (tgt := 42) hx hb d_type_22 (by decide) (fun h_4 => ?_) (fun h_4 => ?_)
        · rw [if_neg h_4] at hres
          refine lv_iload_n hx hb d_type_42 rfl (lv_at hl 1 rfl) ?_
          refine lv_bipush (v := 21) hx hb d_type_43 (by decide) ?_
          refine lv_icmp_ne (tgt := 61) hx hb d_type_45 (by decide) (fun h_5 => ?_) (fun h_5 => ?_)
          · rw [if_neg h_5] at hres
            refine lv_aload_n hx hb d_type_61 rfl (lv_at hl 0 rfl) ?_
            refine ml_get (D := (dC, dI)) hx hb hts in_DC hown hK hP (0) (by decide) (dc_desk kc a d) rfl 5 (by decide) (hts _ (mC _ wd_128)) (fun _ h9 => h9) (v := .ref (a 53)) rfl d_type_62 ?_
            refine ml_calli (va_runV (As := []) (rest := []) ⟨hx, hb, hml, hown, hts⟩ (c_Con_isFull l dC dI kc a _ d _ rfl) (cwV 0 hts (gd_V mC wd_294 wd_295 wd_296 wd_4 wd_297) rfl rfl rfl hd_Con_isFull ⟨Nat.le_of_ble_eq_true rfl, Nat.le_of_ble_eq_true rfl⟩) ⟨ml_blind, va_recv hK hP (ci := 3) rfl (ml_at (by decide) (dc_con kc a d)), ml_pre hP hK hD⟩ rfl rfl hl.1 rfl (lv_room (Nat.le_of_ble_eq_true rfl)) d_type_65 ⟨Nat.zero_le _, Nat.zero_le _⟩) hD hS hA (fun H locs hP hD hS => ?_)
            refine lv_if_eq (tgt := 73) hx hb d_type_68 (by decide) (fun h_6 => ?_) (fun h_6 => ?_)
            · rw [if_pos h_6] at hres
              refine lv_iload_n hx hb d_type_73 rfl (lv_at hl 1 rfl) ?_
              refine lv_bipush (v := 13) hx hb d_type_74 (by decide) ?_
              refine lv_icmp_ne (tgt := 84) hx hb d_type_76 (by decide) (fun h_7 => ?_) (fun h_7 => ?_)
              · rw [if_neg h_7] at hres
                refine lv_iload_n hx hb d_type_84 rfl (lv_at hl 1 rfl) ?_
                refine lv_istore_n (lv' := [(2, .int bt), (0, .ref (a 0)), (1, .int bt)]) hx hb d_type_85 rfl hl (by decide) rfl (fun ls hl => ?_)
                refine lv_aload_n hx hb d_type_86 rfl (lv_at hl 1 rfl) ?_
                refine ml_get (D := (dC, dI)) hx hb hts in_DC hown hK hP (0) (by decide) (dc_desk kc a d) rfl 5 (by decide) (hts _ (mC _ wd_128)) (fun _ h9 => h9) (v := .ref (a 53)) rfl d_type_87 ?_
                refine lv_iload_n hx hb d_type_90 rfl (lv_at hl 0 rfl) ?_
                refine ml_callv (va_runV (As := [.int bt]) (rest := []) ⟨hx, hb, hml, hown, hts⟩ (c_Con_addToLine l dC dI kc a _ d bt _ rfl) (cwV 1 hts (gd_V mC wd_298 wd_299 wd_300 wd_4 wd_301) rfl rfl rfl hd_Con_addToLine ⟨Nat.le_of_ble_eq_true rfl, Nat.le_of_ble_eq_true rfl⟩) ⟨ml_blind, va_recv hK hP (ci := 3) rfl (ml_at (by decide) (dc_con kc a d)), ml_pre hP hK hD⟩ rfl rfl hl.1 rfl (lv_room (Nat.le_of_ble_eq_true rfl)) d_type_91 ⟨Nat.zero_le _, Nat.zero_le _⟩) hD hS hA (fun H locs hP hD hS => ?_)
                refine lv_aload_n hx hb d_type_94 rfl (lv_at hl 1 rfl) ?_
                refine ml_get (D := (dC, dI)) hx hb hts in_DC hown hK hP (0) (by decide) (dc_desk kc a (sp_Con_addToLine d bt)) rfl 6 (by decide) (hts _ (mC _ wd_129)) (fun _ h9 => h9) (v := .ref (a 55)) rfl d_type_95 ?_
                refine lv_iload_n hx hb d_type_98 rfl (lv_at hl 0 rfl) ?_
                refine ml_callv (va_runV (As := [.int bt]) (rest := []) ⟨hx, hb, hml, hown, hts⟩ (c_Scr_addLast l dC dI kc a _ (sp_Con_addToLine d bt) bt _ rfl) (cwV 1 hts (gd_V mC wd_290 wd_291 wd_292 wd_5 wd_293) rfl rfl rfl hd_Scr_addLast ⟨Nat.le_of_ble_eq_true rfl, Nat.le_of_ble_eq_true rfl⟩) ⟨ml_blind, va_recv hK hP (ci := 4) rfl (ml_at (by decide) (dc_scr kc a (sp_Con_addToLine d bt))), ml_pre hP hK hD⟩ rfl rfl hl.1 rfl (lv_room (Nat.le_of_ble_eq_true rfl)) d_type_99 ⟨Nat.zero_le _, Nat.zero_le _⟩) hD hS hA (fun H locs hP hD hS => ?_)
                refine lv_iconst (v := 1) hx hb d_type_102 (by decide) ?_
                obtain ⟨rfl, rfl⟩ := Prod.mk.inj hres
                exact ml_zret hx hb hr (by decide) hlocks hP hK hD hS d_type_103
              · rw [if_pos h_7] at hres
                refine lv_bipush (v := 10) hx hb d_type_79 (by decide) ?_
                refine lv_goto (tgt := 85) hx hb d_type_81 (by decide) ?_
                refine lv_istore_n (lv' := [(2, .int (10 : Int32)), (0, .ref (a 0)), (1, .int bt)]) hx hb d_type_85 rfl hl (by decide) rfl (fun ls hl => ?_)
                refine lv_aload_n hx hb d_type_86 rfl (lv_at hl 1 rfl) ?_
                refine ml_get (D := (dC, dI)) hx hb hts in_DC hown hK hP (0) (by decide) (dc_desk kc a d) rfl 5 (by decide) (hts _ (mC _ wd_128)) (fun _ h9 => h9) (v := .ref (a 53)) rfl d_type_87 ?_
                refine lv_iload_n hx hb d_type_90 rfl (lv_at hl 0 rfl) ?_
                refine ml_callv (va_runV (As := [.int (10 : Int32)]) (rest := []) ⟨hx, hb, hml, hown, hts⟩ (c_Con_addToLine l dC dI kc a _ d (10 : Int32) _ rfl) (cwV 1 hts (gd_V mC wd_298 wd_299 wd_300 wd_4 wd_301) rfl rfl rfl hd_Con_addToLine ⟨Nat.le_of_ble_eq_true rfl, Nat.le_of_ble_eq_true rfl⟩) ⟨ml_blind, va_recv hK hP (ci := 3) rfl (ml_at (by decide) (dc_con kc a d)), ml_pre hP hK hD⟩ rfl rfl hl.1 rfl (lv_room (Nat.le_of_ble_eq_true rfl)) d_type_91 ⟨Nat.zero_le _, Nat.zero_le _⟩) hD hS hA (fun H locs hP hD hS => ?_)
                refine lv_aload_n hx hb d_type_94 rfl (lv_at hl 1 rfl) ?_
                refine ml_get (D := (dC, dI)) hx hb hts in_DC hown hK hP (0) (by decide) (dc_desk kc a (sp_Con_addToLine d (10 : Int32))) rfl 6 (by decide) (hts _ (mC _ wd_129)) (fun _ h9 => h9) (v := .ref (a 55)) rfl d_type_95 ?_
                refine lv_iload_n hx hb d_type_98 rfl (lv_at hl 0 rfl) ?_
                refine ml_callv (va_runV (As := [.int (10 : Int32)]) (rest := []) ⟨hx, hb, hml, hown, hts⟩ (c_Scr_addLast l dC dI kc a _ (sp_Con_addToLine d (10 : Int32)) (10 : Int32) _ rfl) (cwV 1 hts (gd_V mC wd_290 wd_291 wd_292 wd_5 wd_293) rfl rfl rfl hd_Scr_addLast ⟨Nat.le_of_ble_eq_true rfl, Nat.le_of_ble_eq_true rfl⟩) ⟨ml_blind, va_recv hK hP (ci := 4) rfl (ml_at (by decide) (dc_scr kc a (sp_Con_addToLine d (10 : Int32)))), ml_pre hP hK hD⟩ rfl rfl hl.1 rfl (lv_room (Nat.le_of_ble_eq_true rfl)) d_type_99 ⟨Nat.zero_le _, Nat.zero_le _⟩) hD hS hA (fun H locs hP hD hS => ?_)
                refine lv_iconst (v := 1) hx hb d_type_102 (by decide) ?_
                obtain ⟨rfl, rfl⟩ := Prod.mk.inj hres
                exact ml_zret hx hb hr (by decide) hlocks hP hK hD hS d_type_103
            · rw [if_neg h_6] at hres
              refine lv_iconst (v := 0) hx hb d_type_71 (by decide) ?_
              obtain ⟨rfl, rfl⟩ := Prod.mk.inj hres
              exact ml_zret hx hb hr (by decide) hlocks hP hK hD hS d_type_72
          · rw [if_pos h_5] at hres
            refine lv_aload_n hx hb d_type_48 rfl (lv_at hl 0 rfl) ?_
            refine lv_aload_n hx hb d_type_49 rfl (lv_at hl 0 rfl) ?_
            refine ml_get (D := (dC, dI)) hx hb hts in_DC hown hK hP (0) (by decide) (dc_desk kc a d) rfl 5 (by decide) (hts _ (mC _ wd_128)) (fun _ h9 => h9) (v := .ref (a 53)) rfl d_type_50 ?_
            refine ml_calli (va_runV (As := []) (rest := [.ref (a 0)]) ⟨hx, hb, hml, hown, hts⟩ (c_Con_lineLength l dC dI kc a _ d _ rfl) (cwV 0 hts (gd_V mC wd_275 wd_276 wd_277 wd_4 wd_278) rfl rfl rfl hd_Con_lineLength ⟨Nat.le_of_ble_eq_true rfl, Nat.le_of_ble_eq_true rfl⟩) ⟨ml_blind, va_recv hK hP (ci := 3) rfl (ml_at (by decide) (dc_con kc a d)), ml_pre hP hK hD⟩ rfl rfl hl.1 rfl (lv_room (Nat.le_of_ble_eq_true rfl)) d_type_53 ⟨Nat.zero_le _, Nat.zero_le _⟩) hD hS hA (fun H locs hP hD hS => ?_)
            refine ml_callv (va_runV (As := [.int (sp_Con_lineLength d)]) (rest := []) ⟨hx, hb, hml, hown, hts⟩ (c_takeBack l dC dI kc a _ d (sp_Con_lineLength d) _ rfl) (cwV 1 hts (gd_V mC wd_282 wd_284 ws_8 wd_1 wd_285) rfl rfl rfl hd_takeBack ⟨Nat.le_of_ble_eq_true rfl, Nat.le_of_ble_eq_true rfl⟩) ⟨ml_blind, va_recv hK hP (ci := 0) rfl (ml_at (by decide) (dc_desk kc a d)), ml_pre hP hK hD⟩ rfl rfl hl.1 rfl (lv_room (Nat.le_of_ble_eq_true rfl)) d_type_56 ⟨Nat.zero_le _, Nat.zero_le _⟩) hD hS hA (fun H locs hP hD hS => ?_)
            refine lv_iconst (v := 1) hx hb d_type_59 (by decide) ?_
            obtain ⟨rfl, rfl⟩ := Prod.mk.inj hres
            exact ml_zret hx hb hr (by decide) hlocks hP hK hD hS d_type_60
        · rw [if_pos h_4] at hres
          refine lv_aload_n hx hb d_type_25 rfl (lv_at hl 0 rfl) ?_
          refine lv_iconst (v := 1) hx hb d_type_26 (by decide) ?_
          refine lv_aload_n hx hb d_type_27 rfl (lv_at hl 0 rfl) ?_
          refine ml_get (D := (dC, dI)) hx hb hts in_DC hown hK hP (0) (by decide) (dc_desk kc a d) rfl 5 (by decide) (hts _ (mC _ wd_128)) (fun _ h9 => h9) (v := .ref (a 53)) rfl d_type_28 ?_
          refine ml_calli (va_runV (As := []) (rest := [.int (1 : Int32), .ref (a 0)]) ⟨hx, hb, hml, hown, hts⟩ (c_Con_lineLength l dC dI kc a _ d _ rfl) (cwV 0 hts (gd_V mC wd_275 wd_276 wd_277 wd_4 wd_278) rfl rfl rfl hd_Con_lineLength ⟨Nat.le_of_ble_eq_true rfl, Nat.le_of_ble_eq_true rfl⟩) ⟨ml_blind, va_recv hK hP (ci := 3) rfl (ml_at (by decide) (dc_con kc a d)), ml_pre hP hK hD⟩ rfl rfl hl.1 rfl (lv_room (Nat.le_of_ble_eq_true rfl)) d_type_31 ⟨Nat.zero_le _, Nat.zero_le _⟩) hD hS hA (fun H locs hP hD hS => ?_)
          refine va_mmin hx hb (by rw [hml]; exact hl.1.symm) hown (hts _ (mC _ wd_279)) (hts _ (mC _ wd_280)) (hts _ (mC _ wd_7)) (hts _ (mC _ wd_281)) (Nat.le_of_ble_eq_true rfl) (Nat.le_of_ble_eq_true rfl) (Nat.zero_le _) (Nat.zero_le _) d_type_34 ?_
          refine ml_callv (va_runV (As := [.int (if (sp_Con_lineLength d) < (1 : Int32) then (sp_Con_lineLength d) else (1 : Int32))]) (rest := []) ⟨hx, hb, hml, hown, hts⟩ (c_takeBack l dC dI kc a _ d (if (sp_Con_lineLength d) < (1 : Int32) then (sp_Con_lineLength d) else (1 : Int32)) _ rfl) (cwV 1 hts (gd_V mC wd_282 wd_284 ws_8 wd_1 wd_285) rfl rfl rfl hd_takeBack ⟨Nat.le_of_ble_eq_true rfl, Nat.le_of_ble_eq_true rfl⟩) ⟨ml_blind, va_recv hK hP (ci := 0) rfl (ml_at (by decide) (dc_desk kc a d)), ml_pre hP hK hD⟩ rfl rfl hl.1 rfl (lv_room (Nat.le_of_ble_eq_true rfl)) d_type_37 ⟨Nat.zero_le _, Nat.zero_le _⟩) hD hS hA (fun H locs hP hD hS => ?_)
          refine lv_iconst (v := 1) hx hb d_type_40 (by decide) ?_
          obtain ⟨rfl, rfl⟩ := Prod.mk.inj hres
          exact ml_zret hx hb hr (by decide) hlocks hP hK hD hS d_type_41
    · rw [if_neg h_2] at hres
      refine lv_iconst (v := 0) hx hb d_type_11 (by decide) ?_
      obtain ⟨rfl, rfl⟩ := Prod.mk.inj hres
      exact ml_zret hx hb hr (by decide) hlocks hP hK hD hS d_type_12
def sp_read (d : DK) (fi : Int32) : Int32 × DK :=
  (if (0 : Int32) < (d.1 13 0) then (if (sp_Con_firstDone d) = (4 : Int32) then (if fi = (0 : Int32) then ((-4 : Int32), d) else ((-4 : Int32), (sp_Con_dropFirstDone d))) else ((sp_Con_firstDone d), (sp_Con_dropFirstDone d))) else ((-3 : Int32), d))
abbrev rm_read : Room := { frames := 1, cells := 0, slots := 0, locals := 20 }
set_option maxHeartbeats 4000000 in
set_option maxRecDepth 100000 in
theorem c_read (l : Launch) (dC : Nat → ClassId) (dI : Nat → Nat → Nat) (kc : Nat → ClassId) (a : Nat → Nat) (sz : Nat) (d : DK) (fi : Int32) (R' : Int32) (d' : DK) (hres : sp_read d fi = (R', d')) : Met l y_read ws_read rm_read (va_Pc [.ref (a 0), .int fi] (ml_B (dC, dI) vwCl (tysD kc) 57 a (dcell kc a d) sz)) (va_Qi (fun r (_ : Unit) => r = R') (fun _ t => ml_E (dC, dI) vwCl (tysD kc) 57 a (dcell kc a d') (va_A (ml 57 a (dcell kc a d)) sz) t) (va_A (ml 57 a (dcell kc a d)) sz)) 0 0 (va_A (ml 57 a (dcell kc a d)) sz) := by
  refine Met.ofW (cc := prog_1_method_15_code) (maxL := 3) (ret := (some .int)) (by decide) rfl ?_
  intro p e s m args below meth c s₁ B hml hv
  obtain ⟨rfl, hsz, hP, hK, hD0⟩ := hv
  have hx := B.exec
  have hb := B.bytes
  have hr := B.returns
  have hts := atoms_spec (ws := ws_read) B.pre
  have hown : s.vm.findClass "HandleDesk" = some m.cls := findClass_of_methodNamed B.named
  have hlocks := B.notSynchronized
  subst hsz
  have hD := hD0.self (sz := s.heap.size)
  generalize hAe : va_A (ml 57 a (dcell kc a d)) s.heap.size = A at hD ⊢
  have hA : ∀ q : Nat, s.heap.size ≤ q → A q := fun q h => by rw [← hAe]; exact Or.inr h
  have hS : va_S A s.heap s.heap [] := va_S.rf
  have hl := lv_entry ([.ref (a 0), .int fi]) (n := 3) (Nat.le_of_ble_eq_true rfl)
  rw [lg_entry_eq]
  generalize (lg_sl ([.ref (a 0), .int fi]) ++ List.replicate (3 - (lg_sl ([.ref (a 0), .int fi])).length) Slot.unset).toArray = ls at hl ⊢
  have hl : lv_has ls 3 [(0, .ref (a 0)), (1, .int fi)] := hl
  rw [sp_read] at hres
  refine lv_aload_n hx hb d_read_0 rfl (lv_at hl 0 rfl) ?_
  refine ml_get (D := (dC, dI)) hx hb hts in_DC hown hK hP (0) (by decide) (dc_desk kc a d) rfl 5 (by decide) (hts _ (mC _ wd_128)) (fun _ h9 => h9) (v := .ref (a 53)) rfl d_read_1 ?_
  refine ml_get (D := (dC, dI)) hx hb hts in_CC hown hK hP (53) (by decide) (dc_con kc a d) rfl 2 (by decide) (hts _ (mC _ wd_96)) (fun _ h9 => h9) (v := .int (d.1 13 0)) rfl d_read_4 ?_
  refine lv_if_gt (tgt := 13) hx hb d_read_7 (by decide) (fun h_1 => ?_) (fun h_1 => ?_)
  · rw [if_pos h_1] at hres
    refine lv_aload_n hx hb d_read_13 rfl (lv_at hl 0 rfl) ?_
    refine ml_get (D := (dC, dI)) hx hb hts in_DC hown hK hP (0) (by decide) (dc_desk kc a d) rfl 5 (by decide) (hts _ (mC _ wd_128)) (fun _ h9 => h9) (v := .ref (a 53)) rfl d_read_14 ?_
    refine ml_calli (va_runV (As := []) (rest := []) ⟨hx, hb, hml, hown, hts⟩ (c_Con_firstDone l dC dI kc a _ d _ rfl) (cwV 0 hts (gd_V mC wd_307 wd_308 wd_309 wd_4 wd_310) rfl rfl rfl hd_Con_firstDone ⟨Nat.le_of_ble_eq_true rfl, Nat.le_of_ble_eq_true rfl⟩) ⟨ml_blind, va_recv hK hP (ci := 3) rfl (ml_at (by decide) (dc_con kc a d)), ml_pre hP hK hD⟩ rfl rfl hl.1 rfl (lv_room (Nat.le_of_ble_eq_true rfl)) d_read_17 ⟨Nat.zero_le _, Nat.zero_le _⟩) hD hS hA (fun H locs hP hD hS => ?_)
    refine lv_istore_n (lv' := [(2, .int (sp_Con_firstDone d)), (0, .ref (a 0)), (1, .int fi)]) hx hb d_read_20 rfl hl (by decide) rfl (fun ls hl => ?_)
    refine lv_iload_n hx hb d_read_21 rfl (lv_at hl 0 rfl) ?_
    refine lv_iconst (v := 4) hx hb d_read_22 (by decide) ?_
    refine lv_icmp_eq (tgt := 35) hx hb d_read_23 (by decide) (fun h_2 => ?_) (fun h_2 => ?_)
    · rw [if_pos h_2] at hres
      refine lv_iload_n hx hb d_read_35 rfl (lv_at hl 2 rfl) ?_
      refine lv_if_eq (tgt := 46) hx hb d_read_36 (by decide) (fun h_3 => ?_) (fun h_3 => ?_)
      · rw [if_pos h_3] at hres
        refine lv_bipush (v := -4) hx hb d_read_46 (by decide) ?_
        obtain ⟨rfl, rfl⟩ := Prod.mk.inj hres
        exact ml_iret hx hb hr hlocks hP hK hD hS d_read_48
      · rw [if_neg h_3] at hres
        refine lv_aload_n hx hb d_read_39 rfl (lv_at hl 1 rfl) ?_
        refine ml_get (D := (dC, dI)) hx hb hts in_DC hown hK hP (0) (by decide) (dc_desk kc a d) rfl 5 (by decide) (hts _ (mC _ wd_128)) (fun _ h9 => h9) (v := .ref (a 53)) rfl d_read_40 ?_
        refine ml_callv (va_runV (As := []) (rest := []) ⟨hx, hb, hml, hown, hts⟩ (c_Con_dropFirstDone l dC dI kc a _ d _ rfl) (cwV 0 hts (gd_V mC wd_311 wd_312 wd_313 wd_4 wd_314) rfl rfl rfl hd_Con_dropFirstDone ⟨Nat.le_of_ble_eq_true rfl, Nat.le_of_ble_eq_true rfl⟩) ⟨ml_blind, va_recv hK hP (ci := 3) rfl (ml_at (by decide) (dc_con kc a d)), ml_pre hP hK hD⟩ rfl rfl hl.1 rfl (lv_room (Nat.le_of_ble_eq_true rfl)) d_read_43 ⟨Nat.zero_le _, Nat.zero_le _⟩) hD hS hA (fun H locs hP hD hS => ?_)
        refine lv_bipush (v := -4) hx hb d_read_46 (by decide) ?_
        obtain ⟨rfl, rfl⟩ := Prod.mk.inj hres
        exact ml_iret hx hb hr hlocks hP hK hD hS d_read_48
    · rw [if_neg h_2] at hres
      refine lv_aload_n hx hb d_read_26 rfl (lv_at hl 1 rfl) ?_
      refine ml_get (D := (dC, dI)) hx hb hts in_DC hown hK hP (0) (by decide) (dc_desk kc a d) rfl 5 (by decide) (hts _ (mC _ wd_128)) (fun _ h9 => h9) (v := .ref (a 53)) rfl d_read_27 ?_
      refine ml_callv (va_runV (As := []) (rest := []) ⟨hx, hb, hml, hown, hts⟩ (c_Con_dropFirstDone l dC dI kc a _ d _ rfl) (cwV 0 hts (gd_V mC wd_311 wd_312 wd_313 wd_4 wd_314) rfl rfl rfl hd_Con_dropFirstDone ⟨Nat.le_of_ble_eq_true rfl, Nat.le_of_ble_eq_true rfl⟩) ⟨ml_blind, va_recv hK hP (ci := 3) rfl (ml_at (by decide) (dc_con kc a d)), ml_pre hP hK hD⟩ rfl rfl hl.1 rfl (lv_room (Nat.le_of_ble_eq_true rfl)) d_read_30 ⟨Nat.zero_le _, Nat.zero_le _⟩) hD hS hA (fun H locs hP hD hS => ?_)
      refine lv_iload_n hx hb d_read_33 rfl (lv_at hl 0 rfl) ?_
      obtain ⟨rfl, rfl⟩ := Prod.mk.inj hres
      exact ml_iret hx hb hr hlocks hP hK hD hS d_read_34
  · rw [if_neg h_1] at hres
    refine lv_bipush (v := -3) hx hb d_read_10 (by decide) ?_
    obtain ⟨rfl, rfl⟩ := Prod.mk.inj hres
    exact ml_iret hx hb hr hlocks hP hK hD hS d_read_12
def sp_waiting (d : DK) (wh : Int32) : Int32 :=
  (if wh = (0 : Int32) then (d.1 13 0) else (if wh = (1 : Int32) then (d.1 14 0) else (-1 : Int32)))
abbrev rm_waiting : Room := { frames := 0, cells := 0, slots := 0, locals := 0 }
set_option maxHeartbeats 4000000 in
set_option maxRecDepth 100000 in
theorem c_waiting (l : Launch) (dC : Nat → ClassId) (dI : Nat → Nat → Nat) (kc : Nat → ClassId) (a : Nat → Nat) (sz : Nat) (d : DK) (wh : Int32) (R' : Int32) (hres : sp_waiting d wh = R') : Met l y_waiting ws_waiting rm_waiting (va_Pc [.ref (a 0), .int wh] (ml_B (dC, dI) vwCl (tysD kc) 57 a (dcell kc a d) sz)) (va_Qi (fun r (_ : Unit) => r = R') (fun _ t => ml_E (dC, dI) vwCl (tysD kc) 57 a (dcell kc a d) (va_A (ml 57 a (dcell kc a d)) sz) t) (va_A (ml 57 a (dcell kc a d)) sz)) 0 0 (va_A (ml 57 a (dcell kc a d)) sz) := by
  refine Met.ofW (cc := prog_1_method_16_code) (maxL := 2) (ret := (some .int)) (by decide) rfl ?_
  intro p e s m args below meth c s₁ B hml hv
  obtain ⟨rfl, hsz, hP, hK, hD0⟩ := hv
  have hx := B.exec
  have hb := B.bytes
  have hr := B.returns
  have hts := atoms_spec (ws := ws_waiting) B.pre
  have hown : s.vm.findClass "HandleDesk" = some m.cls := findClass_of_methodNamed B.named
  have hlocks := B.notSynchronized
  subst hsz
  have hD := hD0.self (sz := s.heap.size)
  generalize hAe : va_A (ml 57 a (dcell kc a d)) s.heap.size = A at hD ⊢
  have hA : ∀ q : Nat, s.heap.size ≤ q → A q := fun q h => by rw [← hAe]; exact Or.inr h
  have hS : va_S A s.heap s.heap [] := va_S.rf
  have hl := lv_entry ([.ref (a 0), .int wh]) (n := 2) (Nat.le_of_ble_eq_true rfl)
  rw [lg_entry_eq]
  generalize (lg_sl ([.ref (a 0), .int wh]) ++ List.replicate (2 - (lg_sl ([.ref (a 0), .int wh])).length) Slot.unset).toArray = ls at hl ⊢
  have hl : lv_has ls 2 [(0, .ref (a 0)), (1, .int wh)] := hl
  rw [sp_waiting] at hres
  refine lv_iload_n hx hb d_waiting_0 rfl (lv_at hl 1 rfl) ?_
  by_cases e_1 : wh = (0 : Int32)
  · rw [if_pos e_1] at hres
    refine lv_lookup (off := 27) (tgt := 28) hx hb d_waiting_1 (by decide) (by rw [e_1]; rfl) (by decide) ?_
    refine lv_aload_n hx hb d_waiting_28 rfl (lv_at hl 0 rfl) ?_
    refine ml_get (D := (dC, dI)) hx hb hts in_DC hown hK hP (0) (by decide) (dc_desk kc a d) rfl 5 (by decide) (hts _ (mC _ wd_128)) (fun _ h9 => h9) (v := .ref (a 53)) rfl d_waiting_29 ?_
    refine ml_get (D := (dC, dI)) hx hb hts in_CC hown hK hP (53) (by decide) (dc_con kc a d) rfl 2 (by decide) (hts _ (mC _ wd_96)) (fun _ h9 => h9) (v := .int (d.1 13 0)) rfl d_waiting_32 ?_
    subst hres
    exact ml_iret hx hb hr hlocks hP hK hD hS d_waiting_35
  · rw [if_neg e_1] at hres
    by_cases e_2 : wh = (1 : Int32)
    · rw [if_pos e_2] at hres
      refine lv_lookup (off := 35) (tgt := 36) hx hb d_waiting_1 (by decide) (by rw [e_2]; rfl) (by decide) ?_
      refine lv_aload_n hx hb d_waiting_36 rfl (lv_at hl 0 rfl) ?_
      refine ml_get (D := (dC, dI)) hx hb hts in_DC hown hK hP (0) (by decide) (dc_desk kc a d) rfl 5 (by decide) (hts _ (mC _ wd_128)) (fun _ h9 => h9) (v := .ref (a 53)) rfl d_waiting_37 ?_
      refine ml_get (D := (dC, dI)) hx hb hts in_CC hown hK hP (53) (by decide) (dc_con kc a d) rfl 3 (by decide) (hts _ (mC _ wd_98)) (fun _ h9 => h9) (v := .int (d.1 14 0)) rfl d_waiting_40 ?_
      subst hres
      exact ml_iret hx hb hr hlocks hP hK hD hS d_waiting_43
    · rw [if_neg e_2] at hres
      have te_1 := tw_ne e_1 0 (by decide)
      have te_2 := tw_ne e_2 1 (by decide)
      refine lv_lookup (off := 43) (tgt := 44) hx hb d_waiting_1 (by decide) (by simp [Op.lookupswitch.offset, Ne.symm te_1, Ne.symm te_2]) (by decide) ?_
      refine lv_iconst (v := -1) hx hb d_waiting_44 (by decide) ?_
      subst hres
      exact ml_iret hx hb hr hlocks hP hK hD hS d_waiting_45
def sp_show (d : DK) (bt : Int32) : DK :=
  (sp_Scr_addLast d bt)
abbrev rm_show : Room := { frames := 1, cells := 0, slots := 0, locals := 21 }
set_option maxHeartbeats 4000000 in
set_option maxRecDepth 100000 in
theorem c_show (l : Launch) (dC : Nat → ClassId) (dI : Nat → Nat → Nat) (kc : Nat → ClassId) (a : Nat → Nat) (sz : Nat) (d : DK) (bt : Int32) (d' : DK) (hres : sp_show d bt = d') : Met l y_show ws_show rm_show (va_Pc [.ref (a 0), .int bt] (ml_B (dC, dI) vwCl (tysD kc) 57 a (dcell kc a d) sz)) (va_Qv (fun (_ : Unit) => True) (fun _ t => ml_E (dC, dI) vwCl (tysD kc) 57 a (dcell kc a d') (va_A (ml 57 a (dcell kc a d)) sz) t) (va_A (ml 57 a (dcell kc a d)) sz)) 0 0 (va_A (ml 57 a (dcell kc a d)) sz) := by
  refine Met.ofW (cc := prog_1_method_17_code) (maxL := 2) (ret := (none : Option Jvm.ClassFile.FieldType)) (by decide) rfl ?_
  intro p e s m args below meth c s₁ B hml hv
  obtain ⟨rfl, hsz, hP, hK, hD0⟩ := hv
  have hx := B.exec
  have hb := B.bytes
  have hr := B.returns
  have hts := atoms_spec (ws := ws_show) B.pre
  have hown : s.vm.findClass "HandleDesk" = some m.cls := findClass_of_methodNamed B.named
  have hlocks := B.notSynchronized
  subst hsz
  have hD := hD0.self (sz := s.heap.size)
  generalize hAe : va_A (ml 57 a (dcell kc a d)) s.heap.size = A at hD ⊢
  have hA : ∀ q : Nat, s.heap.size ≤ q → A q := fun q h => by rw [← hAe]; exact Or.inr h
  have hS : va_S A s.heap s.heap [] := va_S.rf
  have hl := lv_entry ([.ref (a 0), .int bt]) (n := 2) (Nat.le_of_ble_eq_true rfl)
  rw [lg_entry_eq]
  generalize (lg_sl ([.ref (a 0), .int bt]) ++ List.replicate (2 - (lg_sl ([.ref (a 0), .int bt])).length) Slot.unset).toArray = ls at hl ⊢
  have hl : lv_has ls 2 [(0, .ref (a 0)), (1, .int bt)] := hl
  rw [sp_show] at hres
  refine lv_aload_n hx hb d_show_0 rfl (lv_at hl 0 rfl) ?_
  refine ml_get (D := (dC, dI)) hx hb hts in_DC hown hK hP (0) (by decide) (dc_desk kc a d) rfl 6 (by decide) (hts _ (mC _ wd_129)) (fun _ h9 => h9) (v := .ref (a 55)) rfl d_show_1 ?_
  refine lv_iload_n hx hb d_show_4 rfl (lv_at hl 1 rfl) ?_
  refine ml_callv (va_runV (As := [.int bt]) (rest := []) ⟨hx, hb, hml, hown, hts⟩ (c_Scr_addLast l dC dI kc a _ d bt _ rfl) (cwV 1 hts (gd_V mC wd_290 wd_291 wd_292 wd_5 wd_293) rfl rfl rfl hd_Scr_addLast ⟨Nat.le_of_ble_eq_true rfl, Nat.le_of_ble_eq_true rfl⟩) ⟨ml_blind, va_recv hK hP (ci := 4) rfl (ml_at (by decide) (dc_scr kc a d)), ml_pre hP hK hD⟩ rfl rfl hl.1 rfl (lv_room (Nat.le_of_ble_eq_true rfl)) d_show_5 ⟨Nat.zero_le _, Nat.zero_le _⟩) hD hS hA (fun H locs hP hD hS => ?_)
  subst hres
  exact ml_vret hx hb hr hlocks hP hK hD hS d_show_8
def sp_shown (d : DK) (kx : Int32) : Int32 :=
  (sp_Scr_byteAt d kx)
abbrev rm_shown : Room := { frames := 1, cells := 0, slots := 0, locals := 21 }
set_option maxHeartbeats 4000000 in
set_option maxRecDepth 100000 in
theorem c_shown (l : Launch) (dC : Nat → ClassId) (dI : Nat → Nat → Nat) (kc : Nat → ClassId) (a : Nat → Nat) (sz : Nat) (d : DK) (kx : Int32) (R' : Int32) (hres : sp_shown d kx = R') : Met l y_shown ws_shown rm_shown (va_Pc [.ref (a 0), .int kx] (ml_B (dC, dI) vwCl (tysD kc) 57 a (dcell kc a d) sz)) (va_Qi (fun r (_ : Unit) => r = R') (fun _ t => ml_E (dC, dI) vwCl (tysD kc) 57 a (dcell kc a d) (va_A (ml 57 a (dcell kc a d)) sz) t) (va_A (ml 57 a (dcell kc a d)) sz)) 0 0 (va_A (ml 57 a (dcell kc a d)) sz) := by
  refine Met.ofW (cc := prog_1_method_18_code) (maxL := 2) (ret := (some .int)) (by decide) rfl ?_
  intro p e s m args below meth c s₁ B hml hv
  obtain ⟨rfl, hsz, hP, hK, hD0⟩ := hv
  have hx := B.exec
  have hb := B.bytes
  have hr := B.returns
  have hts := atoms_spec (ws := ws_shown) B.pre
  have hown : s.vm.findClass "HandleDesk" = some m.cls := findClass_of_methodNamed B.named
  have hlocks := B.notSynchronized
  subst hsz
  have hD := hD0.self (sz := s.heap.size)
  generalize hAe : va_A (ml 57 a (dcell kc a d)) s.heap.size = A at hD ⊢
  have hA : ∀ q : Nat, s.heap.size ≤ q → A q := fun q h => by rw [← hAe]; exact Or.inr h
  have hS : va_S A s.heap s.heap [] := va_S.rf
  have hl := lv_entry ([.ref (a 0), .int kx]) (n := 2) (Nat.le_of_ble_eq_true rfl)
  rw [lg_entry_eq]
  generalize (lg_sl ([.ref (a 0), .int kx]) ++ List.replicate (2 - (lg_sl ([.ref (a 0), .int kx])).length) Slot.unset).toArray = ls at hl ⊢
  have hl : lv_has ls 2 [(0, .ref (a 0)), (1, .int kx)] := hl
  rw [sp_shown] at hres
  refine lv_aload_n hx hb d_shown_0 rfl (lv_at hl 0 rfl) ?_
  refine ml_get (D := (dC, dI)) hx hb hts in_DC hown hK hP (0) (by decide) (dc_desk kc a d) rfl 6 (by decide) (hts _ (mC _ wd_129)) (fun _ h9 => h9) (v := .ref (a 55)) rfl d_shown_1 ?_
  refine lv_iload_n hx hb d_shown_4 rfl (lv_at hl 1 rfl) ?_
  refine ml_calli (va_runV (As := [.int kx]) (rest := []) ⟨hx, hb, hml, hown, hts⟩ (c_Scr_byteAt l dC dI kc a _ d kx _ rfl) (cwV 1 hts (gd_V mC wd_327 wd_328 wd_329 wd_5 wd_330) rfl rfl rfl hd_Scr_byteAt ⟨Nat.le_of_ble_eq_true rfl, Nat.le_of_ble_eq_true rfl⟩) ⟨ml_blind, va_recv hK hP (ci := 4) rfl (ml_at (by decide) (dc_scr kc a d)), ml_pre hP hK hD⟩ rfl rfl hl.1 rfl (lv_room (Nat.le_of_ble_eq_true rfl)) d_shown_5 ⟨Nat.zero_le _, Nat.zero_le _⟩) hD hS hA (fun H locs hP hD hS => ?_)
  subst hres
  exact ml_iret hx hb hr hlocks hP hK hD hS d_shown_8
def sp_count (d : DK)  : Int32 :=
  (d.1 16 0)
abbrev rm_count : Room := { frames := 0, cells := 0, slots := 0, locals := 0 }
set_option maxHeartbeats 4000000 in
set_option maxRecDepth 100000 in
theorem c_count (l : Launch) (dC : Nat → ClassId) (dI : Nat → Nat → Nat) (kc : Nat → ClassId) (a : Nat → Nat) (sz : Nat) (d : DK) (R' : Int32) (hres : sp_count d = R') : Met l y_count ws_count rm_count (va_Pc [.ref (a 0)] (ml_B (dC, dI) vwCl (tysD kc) 57 a (dcell kc a d) sz)) (va_Qi (fun r (_ : Unit) => r = R') (fun _ t => ml_E (dC, dI) vwCl (tysD kc) 57 a (dcell kc a d) (va_A (ml 57 a (dcell kc a d)) sz) t) (va_A (ml 57 a (dcell kc a d)) sz)) 0 0 (va_A (ml 57 a (dcell kc a d)) sz) := by
  refine Met.ofW (cc := prog_1_method_19_code) (maxL := 1) (ret := (some .int)) (by decide) rfl ?_
  intro p e s m args below meth c s₁ B hml hv
  obtain ⟨rfl, hsz, hP, hK, hD0⟩ := hv
  have hx := B.exec
  have hb := B.bytes
  have hr := B.returns
  have hts := atoms_spec (ws := ws_count) B.pre
  have hown : s.vm.findClass "HandleDesk" = some m.cls := findClass_of_methodNamed B.named
  have hlocks := B.notSynchronized
  subst hsz
  have hD := hD0.self (sz := s.heap.size)
  generalize hAe : va_A (ml 57 a (dcell kc a d)) s.heap.size = A at hD ⊢
  have hA : ∀ q : Nat, s.heap.size ≤ q → A q := fun q h => by rw [← hAe]; exact Or.inr h
  have hS : va_S A s.heap s.heap [] := va_S.rf
  have hl := lv_entry ([.ref (a 0)]) (n := 1) (Nat.le_of_ble_eq_true rfl)
  rw [lg_entry_eq]
  generalize (lg_sl ([.ref (a 0)]) ++ List.replicate (1 - (lg_sl ([.ref (a 0)])).length) Slot.unset).toArray = ls at hl ⊢
  have hl : lv_has ls 1 [(0, .ref (a 0))] := hl
  rw [sp_count] at hres
  refine lv_aload_n hx hb d_count_0 rfl (lv_at hl 0 rfl) ?_
  refine ml_get (D := (dC, dI)) hx hb hts in_DC hown hK hP (0) (by decide) (dc_desk kc a d) rfl 6 (by decide) (hts _ (mC _ wd_129)) (fun _ h9 => h9) (v := .ref (a 55)) rfl d_count_1 ?_
  refine ml_get (D := (dC, dI)) hx hb hts in_SC hown hK hP (55) (by decide) (dc_scr kc a d) rfl 1 (by decide) (hts _ (mC _ wd_117)) (fun _ h9 => h9) (v := .int (d.1 16 0)) rfl d_count_4 ?_
  subst hres
  exact ml_iret hx hb hr hlocks hP hK hD hS d_count_7
