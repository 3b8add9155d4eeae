def sp_Con_isFull (d : DK)  : Int32 :=
  (if (d.1 14 0) < (128 : Int32) then (0 : Int32) else (1 : Int32))
abbrev rm_Con_isFull : Room := { frames := 0, cells := 0, slots := 0, locals := 0 }
set_option maxHeartbeats 4000000 in
set_option maxRecDepth 100000 in
theorem c_Con_isFull (l : Launch) (dC : Nat → ClassId) (dI : Nat → Nat → Nat) (kc : Nat → ClassId) (a : Nat → Nat) (sz : Nat) (d : DK) (R' : Int32) (hres : sp_Con_isFull d = R') : Met l y_Con_isFull ws_Con_isFull rm_Con_isFull (va_Pc [.ref (a 53)] (ml_B (dC, dI) vwCl (tysD kc) 57 a (dcell kc a d) sz)) (va_Qi (fun r (_ : Unit) => r = R') (fun _ t => ml_E (dC, dI) vwCl (tysD kc) 57 a (dcell kc a d) (va_A (ml 57 a (dcell kc a d)) sz) t) (va_A (ml 57 a (dcell kc a d)) sz)) 0 0 (va_A (ml 57 a (dcell kc a d)) sz) := by
  refine Met.ofW (cc := prog_2_method_2_code) (maxL := 1) (ret := (some .boolean)) (by decide) rfl ?_
  intro p e s m args below meth c s₁ B hml hv
  obtain ⟨rfl, hsz, hP, hK, hD0⟩ := hv
  have hx := B.exec
  have hb := B.bytes
  have hr := B.returns
  have hts := atoms_spec (ws := ws_Con_isFull) B.pre
  have hown : s.vm.findClass "HandleDesk$Console" = some m.cls := findClass_of_methodNamed B.named
  have hlocks := B.notSynchronized
  subst hsz
  have hD := hD0.self (sz := s.heap.size)
  generalize hAe : va_A (ml 57 a (dcell kc a d)) s.heap.size = A at hD ⊢
  have hA : ∀ q : Nat, s.heap.size ≤ q → A q := fun q h => by rw [← hAe]; exact Or.inr h
  have hS : va_S A s.heap s.heap [] := va_S.rf
  have hl := lv_entry ([.ref (a 53)]) (n := 1) (Nat.le_of_ble_eq_true rfl)
  rw [lg_entry_eq]
  generalize (lg_sl ([.ref (a 53)]) ++ List.replicate (1 - (lg_sl ([.ref (a 53)])).length) Slot.unset).toArray = ls at hl ⊢
  have hl : lv_has ls 1 [(0, .ref (a 53))] := hl
  rw [sp_Con_isFull] at hres
  refine lv_aload_n hx hb d_Con_isFull_0 rfl (lv_at hl 0 rfl) ?_
  refine ml_get (D := (dC, dI)) hx hb hts in_CC hown hK hP (53) (by decide) (dc_con kc a d) rfl 3 (by decide) (hts _ (mC _ wd_97)) (fun _ h9 => h9) (v := .int (d.1 14 0)) rfl d_Con_isFull_1 ?_
  refine lv_sipush (v := 128) hx hb d_Con_isFull_4 (by decide) ?_
  refine lv_icmp_lt (tgt := 14) hx hb d_Con_isFull_7 (by decide) (fun h_1 => ?_) (fun h_1 => ?_)
  · rw [if_pos h_1] at hres
    refine lv_iconst (v := 0) hx hb d_Con_isFull_14 (by decide) ?_
    subst hres
    exact ml_zret hx hb hr (by decide) hlocks hP hK hD hS d_Con_isFull_15
  · rw [if_neg h_1] at hres
    refine lv_iconst (v := 1) hx hb d_Con_isFull_10 (by decide) ?_
    refine lv_goto (tgt := 15) hx hb d_Con_isFull_11 (by decide) ?_
    subst hres
    exact ml_zret hx hb hr (by decide) hlocks hP hK hD hS d_Con_isFull_15
def sp_Con_lineLength (d : DK)  : Int32 :=
  ((d.1 14 0) - (d.1 13 0))
abbrev rm_Con_lineLength : Room := { frames := 0, cells := 0, slots := 0, locals := 0 }
set_option maxHeartbeats 4000000 in
set_option maxRecDepth 100000 in
theorem c_Con_lineLength (l : Launch) (dC : Nat → ClassId) (dI : Nat → Nat → Nat) (kc : Nat → ClassId) (a : Nat → Nat) (sz : Nat) (d : DK) (R' : Int32) (hres : sp_Con_lineLength d = R') : Met l y_Con_lineLength ws_Con_lineLength rm_Con_lineLength (va_Pc [.ref (a 53)] (ml_B (dC, dI) vwCl (tysD kc) 57 a (dcell kc a d) sz)) (va_Qi (fun r (_ : Unit) => r = R') (fun _ t => ml_E (dC, dI) vwCl (tysD kc) 57 a (dcell kc a d) (va_A (ml 57 a (dcell kc a d)) sz) t) (va_A (ml 57 a (dcell kc a d)) sz)) 0 0 (va_A (ml 57 a (dcell kc a d)) sz) := by
  refine Met.ofW (cc := prog_2_method_3_code) (maxL := 1) (ret := (some .int)) (by decide) rfl ?_
  intro p e s m args below meth c s₁ B hml hv
  obtain ⟨rfl, hsz, hP, hK, hD0⟩ := hv
  have hx := B.exec
  have hb := B.bytes
  have hr := B.returns
  have hts := atoms_spec (ws := ws_Con_lineLength) B.pre
  have hown : s.vm.findClass "HandleDesk$Console" = some m.cls := findClass_of_methodNamed B.named
  have hlocks := B.notSynchronized
  subst hsz
  have hD := hD0.self (sz := s.heap.size)
  generalize hAe : va_A (ml 57 a (dcell kc a d)) s.heap.size = A at hD ⊢
  have hA : ∀ q : Nat, s.heap.size ≤ q → A q := fun q h => by rw [← hAe]; exact Or.inr h
  have hS : va_S A s.heap s.heap [] := va_S.rf
  have hl := lv_entry ([.ref (a 53)]) (n := 1) (Nat.le_of_ble_eq_true rfl)
  rw [lg_entry_eq]
  generalize (lg_sl ([.ref (a 53)]) ++ List.replicate (1 - (lg_sl ([.ref (a 53)])).length) Slot.unset).toArray = ls at hl ⊢
  have hl : lv_has ls 1 [(0, .ref (a 53))] := hl
  rw [sp_Con_lineLength] at hres
  refine lv_aload_n hx hb d_Con_lineLength_0 rfl (lv_at hl 0 rfl) ?_
  refine ml_get (D := (dC, dI)) hx hb hts in_CC hown hK hP (53) (by decide) (dc_con kc a d) rfl 3 (by decide) (hts _ (mC _ wd_97)) (fun _ h9 => h9) (v := .int (d.1 14 0)) rfl d_Con_lineLength_1 ?_
  refine lv_aload_n hx hb d_Con_lineLength_4 rfl (lv_at hl 0 rfl) ?_
  refine ml_get (D := (dC, dI)) hx hb hts in_CC hown hK hP (53) (by decide) (dc_con kc a d) rfl 2 (by decide) (hts _ (mC _ wd_95)) (fun _ h9 => h9) (v := .int (d.1 13 0)) rfl d_Con_lineLength_5 ?_
  refine lv_isub hx hb d_Con_lineLength_8 ?_
  subst hres
  exact ml_iret hx hb hr hlocks hP hK hD hS d_Con_lineLength_9
def sp_Con_addToLine (d : DK) (bt : Int32) : DK :=
  (if bt = (10 : Int32) then (sI (sI (sI d 15 (((d.1 12 0) + (d.1 14 0)) &&& (127 : Int32)).toNatClampNeg (vp_nar .byte bt.toInt8.toInt32)) 14 0 (((sI d 15 (((d.1 12 0) + (d.1 14 0)) &&& (127 : Int32)).toNatClampNeg (vp_nar .byte bt.toInt8.toInt32)).1 14 0) + (1 : Int32))) 13 0 ((sI (sI d 15 (((d.1 12 0) + (d.1 14 0)) &&& (127 : Int32)).toNatClampNeg (vp_nar .byte bt.toInt8.toInt32)) 14 0 (((sI d 15 (((d.1 12 0) + (d.1 14 0)) &&& (127 : Int32)).toNatClampNeg (vp_nar .byte bt.toInt8.toInt32)).1 14 0) + (1 : Int32))).1 14 0)) else (if bt = (4 : Int32) then (sI (sI (sI d 15 (((d.1 12 0) + (d.1 14 0)) &&& (127 : Int32)).toNatClampNeg (vp_nar .byte bt.toInt8.toInt32)) 14 0 (((sI d 15 (((d.1 12 0) + (d.1 14 0)) &&& (127 : Int32)).toNatClampNeg (vp_nar .byte bt.toInt8.toInt32)).1 14 0) + (1 : Int32))) 13 0 ((sI (sI d 15 (((d.1 12 0) + (d.1 14 0)) &&& (127 : Int32)).toNatClampNeg (vp_nar .byte bt.toInt8.toInt32)) 14 0 (((sI d 15 (((d.1 12 0) + (d.1 14 0)) &&& (127 : Int32)).toNatClampNeg (vp_nar .byte bt.toInt8.toInt32)).1 14 0) + (1 : Int32))).1 14 0)) else (if (sp_Con_isFull (sI (sI d 15 (((d.1 12 0) + (d.1 14 0)) &&& (127 : Int32)).toNatClampNeg (vp_nar .byte bt.toInt8.toInt32)) 14 0 (((sI d 15 (((d.1 12 0) + (d.1 14 0)) &&& (127 : Int32)).toNatClampNeg (vp_nar .byte bt.toInt8.toInt32)).1 14 0) + (1 : Int32)))) = (0 : Int32) then (sI (sI d 15 (((d.1 12 0) + (d.1 14 0)) &&& (127 : Int32)).toNatClampNeg (vp_nar .byte bt.toInt8.toInt32)) 14 0 (((sI d 15 (((d.1 12 0) + (d.1 14 0)) &&& (127 : Int32)).toNatClampNeg (vp_nar .byte bt.toInt8.toInt32)).1 14 0) + (1 : Int32))) else (sI (sI (sI d 15 (((d.1 12 0) + (d.1 14 0)) &&& (127 : Int32)).toNatClampNeg (vp_nar .byte bt.toInt8.toInt32)) 14 0 (((sI d 15 (((d.1 12 0) + (d.1 14 0)) &&& (127 : Int32)).toNatClampNeg (vp_nar .byte bt.toInt8.toInt32)).1 14 0) + (1 : Int32))) 13 0 ((sI (sI d 15 (((d.1 12 0) + (d.1 14 0)) &&& (127 : Int32)).toNatClampNeg (vp_nar .byte bt.toInt8.toInt32)) 14 0 (((sI d 15 (((d.1 12 0) + (d.1 14 0)) &&& (127 : Int32)).toNatClampNeg (vp_nar .byte bt.toInt8.toInt32)).1 14 0) + (1 : Int32))).1 14 0)))))
abbrev rm_Con_addToLine : Room := { frames := 1, cells := 0, slots := 0, locals := 20 }
set_option maxHeartbeats 4000000 in
set_option maxRecDepth 100000 in
theorem c_Con_addToLine (l : Launch) (dC : Nat → ClassId) (dI : Nat → Nat → Nat) (kc : Nat → ClassId) (a : Nat → Nat) (sz : Nat) (d : DK) (bt : Int32) (d' : DK) (hres : sp_Con_addToLine d bt = d') : Met l y_Con_addToLine ws_Con_addToLine rm_Con_addToLine (va_Pc [.ref (a 53), .int bt] (ml_B (dC, dI) vwCl (tysD kc) 57 a (dcell kc a d) sz)) (va_Qv (fun (_ : Unit) => True) (fun _ t => ml_E (dC, dI) vwCl (tysD kc) 57 a (dcell kc a d') (va_A (ml 57 a (dcell kc a d)) sz) t) (va_A (ml 57 a (dcell kc a d)) sz)) 0 0 (va_A (ml 57 a (dcell kc a d)) sz) := by
  refine Met.ofW (cc := prog_2_method_4_code) (maxL := 2) (ret := (none : Option Jvm.ClassFile.FieldType)) (by decide) rfl ?_
  intro p e s m args below meth c s₁ B hml hv
  obtain ⟨rfl, hsz, hP, hK, hD0⟩ := hv
  have hx := B.exec
  have hb := B.bytes
  have hr := B.returns
  have hts := atoms_spec (ws := ws_Con_addToLine) B.pre
  have hown : s.vm.findClass "HandleDesk$Console" = some m.cls := findClass_of_methodNamed B.named
  have hlocks := B.notSynchronized
  subst hsz
  have hD := hD0.self (sz := s.heap.size)
  generalize hAe : va_A (ml 57 a (dcell kc a d)) s.heap.size = A at hD ⊢
  have hA : ∀ q : Nat, s.heap.size ≤ q → A q := fun q h => by rw [← hAe]; exact Or.inr h
  have hS : va_S A s.heap s.heap [] := va_S.rf
  have hl := lv_entry ([.ref (a 53), .int bt]) (n := 2) (Nat.le_of_ble_eq_true rfl)
  rw [lg_entry_eq]
  generalize (lg_sl ([.ref (a 53), .int bt]) ++ List.replicate (2 - (lg_sl ([.ref (a 53), .int bt])).length) Slot.unset).toArray = ls at hl ⊢
  have hl : lv_has ls 2 [(0, .ref (a 53)), (1, .int bt)] := hl
  rw [sp_Con_addToLine] at hres
  refine lv_aload_n hx hb d_Con_addToLine_0 rfl (lv_at hl 0 rfl) ?_
  refine ml_get (D := (dC, dI)) hx hb hts in_CC hown hK hP (53) (by decide) (dc_con kc a d) rfl 0 (by decide) (hts _ (mC _ wd_93)) (fun _ h9 => h9) (v := .ref (a 54)) rfl d_Con_addToLine_1 ?_
  refine lv_aload_n hx hb d_Con_addToLine_4 rfl (lv_at hl 0 rfl) ?_
  refine ml_get (D := (dC, dI)) hx hb hts in_CC hown hK hP (53) (by decide) (dc_con kc a d) rfl 1 (by decide) (hts _ (mC _ wd_94)) (fun _ h9 => h9) (v := .int (d.1 12 0)) rfl d_Con_addToLine_5 ?_
  refine lv_aload_n hx hb d_Con_addToLine_8 rfl (lv_at hl 0 rfl) ?_
  refine ml_get (D := (dC, dI)) hx hb hts in_CC hown hK hP (53) (by decide) (dc_con kc a d) rfl 3 (by decide) (hts _ (mC _ wd_97)) (fun _ h9 => h9) (v := .int (d.1 14 0)) rfl d_Con_addToLine_9 ?_
  refine lv_iadd hx hb d_Con_addToLine_12 ?_
  refine lv_bipush (v := 127) hx hb d_Con_addToLine_13 (by decide) ?_
  refine lv_iand hx hb d_Con_addToLine_15 ?_
  refine lv_iload_n hx hb d_Con_addToLine_16 rfl (lv_at hl 1 rfl) ?_
  refine lv_i2b (v := bt.toInt8.toInt32) hx hb d_Con_addToLine_17 rfl ?_
  refine ml_bast hx hb hK hP hD hS (54) 1 (by decide) (dc_cring kc a d) rfl (pk_andIn _ 7 (by decide) (by decide)) (f' := (dcell kc a (sI d 15 (((d.1 12 0) + (d.1 14 0)) &&& (127 : Int32)).toNatClampNeg (vp_nar .byte bt.toInt8.toInt32)))) (dw_cring (((d.1 12 0) + (d.1 14 0)) &&& (127 : Int32)).toNatClampNeg (vp_nar .byte bt.toInt8.toInt32)) d_Con_addToLine_18 (fun H locs hP hD hS => ?_)
  refine lv_aload_n hx hb d_Con_addToLine_19 rfl (lv_at hl 0 rfl) ?_
  refine lv_dup hx hb d_Con_addToLine_20 rfl ?_
  refine ml_get (D := (dC, dI)) hx hb hts in_CC hown hK hP (53) (by decide) (dc_con kc a (sI d 15 (((d.1 12 0) + (d.1 14 0)) &&& (127 : Int32)).toNatClampNeg (vp_nar .byte bt.toInt8.toInt32))) rfl 3 (by decide) (hts _ (mC _ wd_97)) (fun _ h9 => h9) (v := .int ((sI d 15 (((d.1 12 0) + (d.1 14 0)) &&& (127 : Int32)).toNatClampNeg (vp_nar .byte bt.toInt8.toInt32)).1 14 0)) rfl d_Con_addToLine_21 ?_
  refine lv_iconst (v := 1) hx hb d_Con_addToLine_24 (by decide) ?_
  refine lv_iadd hx hb d_Con_addToLine_25 ?_
  refine ml_put (D := (dC, dI)) hx hb hts in_CC tyC tyC_ok nmC hown hK hP hD hS (53) (by decide) (dc_con kc a (sI d 15 (((d.1 12 0) + (d.1 14 0)) &&& (127 : Int32)).toNatClampNeg (vp_nar .byte bt.toInt8.toInt32))) rfl 3 (by decide) (hts _ (mC _ wd_97)) (fun _ h9 => h9) rfl (ty := .int) (by decide +kernel) rfl rfl (Nat.le_of_ble_eq_true rfl) (f' := (dcell kc a (sI (sI d 15 (((d.1 12 0) + (d.1 14 0)) &&& (127 : Int32)).toNatClampNeg (vp_nar .byte bt.toInt8.toInt32)) 14 0 (((sI d 15 (((d.1 12 0) + (d.1 14 0)) &&& (127 : Int32)).toNatClampNeg (vp_nar .byte bt.toInt8.toInt32)).1 14 0) + (1 : Int32))))) (dw_14 (((sI d 15 (((d.1 12 0) + (d.1 14 0)) &&& (127 : Int32)).toNatClampNeg (vp_nar .byte bt.toInt8.toInt32)).1 14 0) + (1 : Int32))) d_Con_addToLine_26 (fun H locs hP hD hS => ?_)
  refine lv_iload_n hx hb d_Con_addToLine_29 rfl (lv_at hl 1 rfl) ?_
  refine lv_bipush (v := 10) hx hb d_Con_addToLine_30 (by decide) ?_
  refine lv_icmp_eq (tgt := 47) hx hb d_Con_addToLine_32 (by decide) (fun h_1 => ?_) (fun h_1 => ?_)
  · rw [if_pos h_1] at hres
    refine lv_aload_n hx hb d_Con_addToLine_47 rfl (lv_at hl 0 rfl) ?_
    refine lv_aload_n hx hb d_Con_addToLine_48 rfl (lv_at hl 0 rfl) ?_
    refine ml_get (D := (dC, dI)) hx hb hts in_CC hown hK hP (53) (by decide) (dc_con kc a (sI (sI d 15 (((d.1 12 0) + (d.1 14 0)) &&& (127 : Int32)).toNatClampNeg (vp_nar .byte bt.toInt8.toInt32)) 14 0 (((sI d 15 (((d.1 12 0) + (d.1 14 0)) &&& (127 : Int32)).toNatClampNeg (vp_nar .byte bt.toInt8.toInt32)).1 14 0) + (1 : Int32)))) rfl 3 (by decide) (hts _ (mC _ wd_97)) (fun _ h9 => h9) (v := .int ((sI (sI d 15 (((d.1 12 0) + (d.1 14 0)) &&& (127 : Int32)).toNatClampNeg (vp_nar .byte bt.toInt8.toInt32)) 14 0 (((sI d 15 (((d.1 12 0) + (d.1 14 0)) &&& (127 : Int32)).toNatClampNeg (vp_nar .byte bt.toInt8.toInt32)).1 14 0) + (1 : Int32))).1 14 0)) rfl d_Con_addToLine_49 ?_
    refine ml_put (D := (dC, dI)) hx hb hts in_CC tyC tyC_ok nmC hown hK hP hD hS (53) (by decide) (dc_con kc a (sI (sI d 15 (((d.1 12 0) + (d.1 14 0)) &&& (127 : Int32)).toNatClampNeg (vp_nar .byte bt.toInt8.toInt32)) 14 0 (((sI d 15 (((d.1 12 0) + (d.1 14 0)) &&& (127 : Int32)).toNatClampNeg (vp_nar .byte bt.toInt8.toInt32)).1 14 0) + (1 : Int32)))) rfl 2 (by decide) (hts _ (mC _ wd_95)) (fun _ h9 => h9) rfl (ty := .int) (by decide +kernel) rfl rfl (Nat.le_of_ble_eq_true rfl) (f' := (dcell kc a (sI (sI (sI d 15 (((d.1 12 0) + (d.1 14 0)) &&& (127 : Int32)).toNatClampNeg (vp_nar .byte bt.toInt8.toInt32)) 14 0 (((sI d 15 (((d.1 12 0) + (d.1 14 0)) &&& (127 : Int32)).toNatClampNeg (vp_nar .byte bt.toInt8.toInt32)).1 14 0) + (1 : Int32))) 13 0 ((sI (sI d 15 (((d.1 12 0) + (d.1 14 0)) &&& (127 : Int32)).toNatClampNeg (vp_nar .byte bt.toInt8.toInt32)) 14 0 (((sI d 15 (((d.1 12 0) + (d.1 14 0)) &&& (127 : Int32)).toNatClampNeg (vp_nar .byte bt.toInt8.toInt32)).1 14 0) + (1 : Int32))).1 14 0)))) (dw_13 ((sI (sI d 15 (((d.1 12 0) + (d.1 14 0)) &&& (127 : Int32)).toNatClampNeg (vp_nar .byte bt.toInt8.toInt32)) 14 0 (((sI d 15 (((d.1 12 0) + (d.1 14 0)) &&& (127 : Int32)).toNatClampNeg (vp_nar .byte bt.toInt8.toInt32)).1 14 0) + (1 : Int32))).1 14 0)) d_Con_addToLine_52 (fun H locs hP hD hS => ?_)
    subst hres
    exact ml_vret hx hb hr hlocks hP hK hD hS d_Con_addToLine_55
  · rw [if_neg h_1] at hres
    refine lv_iload_n hx hb d_Con_addToLine_35 rfl (lv_at hl 1 rfl) ?_
    refine lv_iconst (v := 4) hx hb d_Con_addToLine_36 (by decide) ?_
    refine lv_icmp_eq (tgt := 47) hx hb d_Con_addToLine_37 (by decide) (fun h_2 => ?_) (fun h_2 => ?_)
    · rw [if_pos h_2] at hres
      refine lv_aload_n hx hb d_Con_addToLine_47 rfl (lv_at hl 0 rfl) ?_
      refine lv_aload_n hx hb d_Con_addToLine_48 rfl (lv_at hl 0 rfl) ?_
      refine ml_get (D := (dC, dI)) hx hb hts in_CC hown hK hP (53) (by decide) (dc_con kc a (sI (sI d 15 (((d.1 12 0) + (d.1 14 0)) &&& (127 : Int32)).toNatClampNeg (vp_nar .byte bt.toInt8.toInt32)) 14 0 (((sI d 15 (((d.1 12 0) + (d.1 14 0)) &&& (127 : Int32)).toNatClampNeg (vp_nar .byte bt.toInt8.toInt32)).1 14 0) + (1 : Int32)))) rfl 3 (by decide) (hts _ (mC _ wd_97)) (fun _ h9 => h9) (v := .int ((sI (sI d 15 (((d.1 12 0) + (d.1 14 0)) &&& (127 : Int32)).toNatClampNeg (vp_nar .byte bt.toInt8.toInt32)) 14 0 (((sI d 15 (((d.1 12 0) + (d.1 14 0)) &&& (127 : Int32)).toNatClampNeg (vp_nar .byte bt.toInt8.toInt32)).1 14 0) + (1 : Int32))).1 14 0)) rfl d_Con_addToLine_49 ?_
      refine ml_put (D := (dC, dI)) hx hb hts in_CC tyC tyC_ok nmC hown hK hP hD hS (53) (by decide) (dc_con kc a (sI (sI d 15 (((d.1 12 0) + (d.1 14 0)) &&& (127 : Int32)).toNatClampNeg (vp_nar .byte bt.toInt8.toInt32)) 14 0 (((sI d 15 (((d.1 12 0) + (d.1 14 0)) &&& (127 : Int32)).toNatClampNeg (vp_nar .byte bt.toInt8.toInt32)).1 14 0) + (1 : Int32)))) rfl 2 (by decide) (hts _ (mC _ wd_95)) (fun _ h9 => h9) rfl (ty := .int) (by decide +kernel) rfl rfl (Nat.le_of_ble_eq_true rfl) (f' := (dcell kc a (sI (sI (sI d 15 (((d.1 12 0) + (d.1 14 0)) &&& (127 : Int32)).toNatClampNeg (vp_nar .byte bt.toInt8.toInt32)) 14 0 (((sI d 15 (((d.1 12 0) + (d.1 14 0)) &&& (127 : Int32)).toNatClampNeg (vp_nar .byte bt.toInt8.toInt32)).1 14 0) + (1 : Int32))) 13 0 ((sI (sI d 15 (((d.1 12 0) + (d.1 14 0)) &&& (127 : Int32)).toNatClampNeg (vp_nar .byte bt.toInt8.toInt32)) 14 0 (((sI d 15 (((d.1 12 0) + (d.1 14 0)) &&& (127 : Int32)).toNatClampNeg (vp_nar .byte bt.toInt8.toInt32)).1 14 0) + (1 : Int32))).1 14 0)))) (dw_13 ((sI (sI d 15 (((d.1 12 0) + (d.1 14 0)) &&& (127 : Int32)).toNatClampNeg (vp_nar .byte bt.toInt8.toInt32)) 14 0 (((sI d 15 (((d.1 12 0) + (d.1 14 0)) &&& (127 : Int32)).toNatClampNeg (vp_nar .byte bt.toInt8.toInt32)).1 14 0) + (1 : Int32))).1 14 0)) d_Con_addToLine_52 (fun H locs hP hD hS => ?_)
      subst hres
      exact ml_vret hx hb hr hlocks hP hK hD hS d_Con_addToLine_55
    · rw [if_neg h_2] at hres
      refine lv_aload_n hx hb d_Con_addToLine_40 rfl (lv_at hl 0 rfl) ?_
      refine ml_calli (va_runV (As := []) (rest := []) ⟨hx, hb, hml, hown, hts⟩ (c_Con_isFull l dC dI kc a _ (sI (sI d 15 (((d.1 12 0) + (d.1 14 0)) &&& (127 : Int32)).toNatClampNeg (vp_nar .byte bt.toInt8.toInt32)) 14 0 (((sI d 15 (((d.1 12 0) + (d.1 14 0)) &&& (127 : Int32)).toNatClampNeg (vp_nar .byte bt.toInt8.toInt32)).1 14 0) + (1 : Int32))) _ rfl) (cwV 0 hts (gd_V mC wd_302 wd_295 wd_296 wd_4 wd_297) rfl rfl rfl hd_Con_isFull ⟨Nat.le_of_ble_eq_true rfl, Nat.le_of_ble_eq_true rfl⟩) ⟨ml_blind, va_recv hK hP (ci := 3) rfl (ml_at (by decide) (dc_con kc a (sI (sI d 15 (((d.1 12 0) + (d.1 14 0)) &&& (127 : Int32)).toNatClampNeg (vp_nar .byte bt.toInt8.toInt32)) 14 0 (((sI d 15 (((d.1 12 0) + (d.1 14 0)) &&& (127 : Int32)).toNatClampNeg (vp_nar .byte bt.toInt8.toInt32)).1 14 0) + (1 : Int32))))), ml_pre hP hK hD⟩ rfl rfl hl.1 rfl (lv_room (Nat.le_of_ble_eq_true rfl)) d_Con_addToLine_41 ⟨Nat.zero_le _, Nat.zero_le _⟩) hD hS hA (fun H locs hP hD hS => ?_)
      refine lv_if_eq (tgt := 55) hx hb d_Con_addToLine_44 (by decide) (fun h_3 => ?_) (fun h_3 => ?_)
      · rw [if_pos h_3] at hres
        subst hres
        exact ml_vret hx hb hr hlocks hP hK hD hS d_Con_addToLine_55
      · rw [if_neg h_3] at hres
        refine lv_aload_n hx hb d_Con_addToLine_47 rfl (lv_at hl 0 rfl) ?_
        refine lv_aload_n hx hb d_Con_addToLine_48 rfl (lv_at hl 0 rfl) ?_
        refine ml_get (D := (dC, dI)) hx hb hts in_CC hown hK hP (53) (by decide) (dc_con kc a (sI (sI d 15 (((d.1 12 0) + (d.1 14 0)) &&& (127 : Int32)).toNatClampNeg (vp_nar .byte bt.toInt8.toInt32)) 14 0 (((sI d 15 (((d.1 12 0) + (d.1 14 0)) &&& (127 : Int32)).toNatClampNeg (vp_nar .byte bt.toInt8.toInt32)).1 14 0) + (1 : Int32)))) rfl 3 (by decide) (hts _ (mC _ wd_97)) (fun _ h9 => h9) (v := .int ((sI (sI d 15 (((d.1 12 0) + (d.1 14 0)) &&& (127 : Int32)).toNatClampNeg (vp_nar .byte bt.toInt8.toInt32)) 14 0 (((sI d 15 (((d.1 12 0) + (d.1 14 0)) &&& (127 : Int32)).toNatClampNeg (vp_nar .byte bt.toInt8.toInt32)).1 14 0) + (1 : Int32))).1 14 0)) rfl d_Con_addToLine_49 ?_
        refine ml_put (D := (dC, dI)) hx hb hts in_CC tyC tyC_ok nmC hown hK hP hD hS (53) (by decide) (dc_con kc a (sI (sI d 15 (((d.1 12 0) + (d.1 14 0)) &&& (127 : Int32)).toNatClampNeg (vp_nar .byte bt.toInt8.toInt32)) 14 0 (((sI d 15 (((d.1 12 0) + (d.1 14 0)) &&& (127 : Int32)).toNatClampNeg (vp_nar .byte bt.toInt8.toInt32)).1 14 0) + (1 : Int32)))) rfl 2 (by decide) (hts _ (mC _ wd_95)) (fun _ h9 => h9) rfl (ty := .int) (by decide +kernel) rfl rfl (Nat.le_of_ble_eq_true rfl) (f' := (dcell kc a (sI (sI (sI d 15 (((d.1 12 0) + (d.1 14 0)) &&& (127 : Int32)).toNatClampNeg (vp_nar .byte bt.toInt8.toInt32)) 14 0 (((sI d 15 (((d.1 12 0) + (d.1 14 0)) &&& (127 : Int32)).toNatClampNeg (vp_nar .byte bt.toInt8.toInt32)).1 14 0) + (1 : Int32))) 13 0 ((sI (sI d 15 (((d.1 12 0) + (d.1 14 0)) &&& (127 : Int32)).toNatClampNeg (vp_nar .byte bt.toInt8.toInt32)) 14 0 (((sI d 15 (((d.1 12 0) + (d.1 14 0)) &&& (127 : Int32)).toNatClampNeg (vp_nar .byte bt.toInt8.toInt32)).1 14 0) + (1 : Int32))).1 14 0)))) (dw_13 ((sI (sI d 15 (((d.1 12 0) + (d.1 14 0)) &&& (127 : Int32)).toNatClampNeg (vp_nar .byte bt.toInt8.toInt32)) 14 0 (((sI d 15 (((d.1 12 0) + (d.1 14 0)) &&& (127 : Int32)).toNatClampNeg (vp_nar .byte bt.toInt8.toInt32)).1 14 0) + (1 : Int32))).1 14 0)) d_Con_addToLine_52 (fun H locs hP hD hS => ?_)
        subst hres
        exact ml_vret hx hb hr hlocks hP hK hD hS d_Con_addToLine_55
def sp_Con_dropLastOfLine (d : DK)  : DK :=
  (if (d.1 14 0) ≤ (d.1 13 0) then d else (sI d 14 0 ((d.1 14 0) - (1 : Int32))))
abbrev rm_Con_dropLastOfLine : Room := { frames := 0, cells := 0, slots := 0, locals := 0 }
set_option maxHeartbeats 4000000 in
set_option maxRecDepth 100000 in
theorem c_Con_dropLastOfLine (l : Launch) (dC : Nat → ClassId) (dI : Nat → Nat → Nat) (kc : Nat → ClassId) (a : Nat → Nat) (sz : Nat) (d : DK) (d' : DK) (hres : sp_Con_dropLastOfLine d = d') : Met l y_Con_dropLastOfLine ws_Con_dropLastOfLine rm_Con_dropLastOfLine (va_Pc [.ref (a 53)] (ml_B (dC, dI) vwCl (tysD kc) 57 a (dcell kc a d) sz)) (va_Qv (fun (_ : Unit) => True) (fun _ t => ml_E (dC, dI) vwCl (tysD kc) 57 a (dcell kc a d') (va_A (ml 57 a (dcell kc a d)) sz) t) (va_A (ml 57 a (dcell kc a d)) sz)) 0 0 (va_A (ml 57 a (dcell kc a d)) sz) := by
  refine Met.ofW (cc := prog_2_method_5_code) (maxL := 1) (ret := (none : Option Jvm.ClassFile.FieldType)) (by decide) rfl ?_
  intro p e s m args below meth c s₁ B hml hv
  obtain ⟨rfl, hsz, hP, hK, hD0⟩ := hv
  have hx := B.exec
  have hb := B.bytes
  have hr := B.returns
  have hts := atoms_spec (ws := ws_Con_dropLastOfLine) B.pre
  have hown : s.vm.findClass "HandleDesk$Console" = some m.cls := findClass_of_methodNamed B.named
  have hlocks := B.notSynchronized
  subst hsz
  have hD := hD0.self (sz := s.heap.size)
  generalize hAe : va_A (ml 57 a (dcell kc a d)) s.heap.size = A at hD ⊢
  have hA : ∀ q : Nat, s.heap.size ≤ q → A q := fun q h => by rw [← hAe]; exact Or.inr h
  have hS : va_S A s.heap s.heap [] := va_S.rf
  have hl := lv_entry ([.ref (a 53)]) (n := 1) (Nat.le_of_ble_eq_true rfl)
  rw [lg_entry_eq]
  generalize (lg_sl ([.ref (a 53)]) ++ List.replicate (1 - (lg_sl ([.ref (a 53)])).length) Slot.unset).toArray = ls at hl ⊢
  have hl : lv_has ls 1 [(0, .ref (a 53))] := hl
  rw [sp_Con_dropLastOfLine] at hres
  refine lv_aload_n hx hb d_Con_dropLastOfLine_0 rfl (lv_at hl 0 rfl) ?_
  refine ml_get (D := (dC, dI)) hx hb hts in_CC hown hK hP (53) (by decide) (dc_con kc a d) rfl 3 (by decide) (hts _ (mC _ wd_97)) (fun _ h9 => h9) (v := .int (d.1 14 0)) rfl d_Con_dropLastOfLine_1 ?_
  refine lv_aload_n hx hb d_Con_dropLastOfLine_4 rfl (lv_at hl 0 rfl) ?_
  refine ml_get (D := (dC, dI)) hx hb hts in_CC hown hK hP (53) (by decide) (dc_con kc a d) rfl 2 (by decide) (hts _ (mC _ wd_95)) (fun _ h9 => h9) (v := .int (d.1 13 0)) rfl d_Con_dropLastOfLine_5 ?_
  refine lv_icmp_le (tgt := 21) hx hb d_Con_dropLastOfLine_8 (by decide) (fun h_1 => ?_) (fun h_1 => ?_)
  · rw [if_pos h_1] at hres
    subst hres
    exact ml_vret hx hb hr hlocks hP hK hD hS d_Con_dropLastOfLine_21
  · rw [if_neg h_1] at hres
    refine lv_aload_n hx hb d_Con_dropLastOfLine_11 rfl (lv_at hl 0 rfl) ?_
    refine lv_dup hx hb d_Con_dropLastOfLine_12 rfl ?_
    refine ml_get (D := (dC, dI)) hx hb hts in_CC hown hK hP (53) (by decide) (dc_con kc a d) rfl 3 (by decide) (hts _ (mC _ wd_97)) (fun _ h9 => h9) (v := .int (d.1 14 0)) rfl d_Con_dropLastOfLine_13 ?_
    refine lv_iconst (v := 1) hx hb d_Con_dropLastOfLine_16 (by decide) ?_
    refine lv_isub hx hb d_Con_dropLastOfLine_17 ?_
    refine ml_put (D := (dC, dI)) hx hb hts in_CC tyC tyC_ok nmC hown hK hP hD hS (53) (by decide) (dc_con kc a d) rfl 3 (by decide) (hts _ (mC _ wd_97)) (fun _ h9 => h9) rfl (ty := .int) (by decide +kernel) rfl rfl (Nat.le_of_ble_eq_true rfl) (f' := (dcell kc a (sI d 14 0 ((d.1 14 0) - (1 : Int32))))) (dw_14 ((d.1 14 0) - (1 : Int32))) d_Con_dropLastOfLine_18 (fun H locs hP hD hS => ?_)
    subst hres
    exact ml_vret hx hb hr hlocks hP hK hD hS d_Con_dropLastOfLine_21
def sp_Con_firstDone (d : DK)  : Int32 :=
  ((d.1 15 ((d.1 12 0) &&& (127 : Int32)).toNatClampNeg) &&& (255 : Int32))
abbrev rm_Con_firstDone : Room := { frames := 0, cells := 0, slots := 0, locals := 0 }
set_option maxHeartbeats 4000000 in
set_option maxRecDepth 100000 in
theorem c_Con_firstDone (l : Launch) (dC : Nat → ClassId) (dI : Nat → Nat → Nat) (kc : Nat → ClassId) (a : Nat → Nat) (sz : Nat) (d : DK) (R' : Int32) (hres : sp_Con_firstDone d = R') : Met l y_Con_firstDone ws_Con_firstDone rm_Con_firstDone (va_Pc [.ref (a 53)] (ml_B (dC, dI) vwCl (tysD kc) 57 a (dcell kc a d) sz)) (va_Qi (fun r (_ : Unit) => r = R') (fun _ t => ml_E (dC, dI) vwCl (tysD kc) 57 a (dcell kc a d) (va_A (ml 57 a (dcell kc a d)) sz) t) (va_A (ml 57 a (dcell kc a d)) sz)) 0 0 (va_A (ml 57 a (dcell kc a d)) sz) := by
  refine Met.ofW (cc := prog_2_method_6_code) (maxL := 1) (ret := (some .int)) (by decide) rfl ?_
  intro p e s m args below meth c s₁ B hml hv
  obtain ⟨rfl, hsz, hP, hK, hD0⟩ := hv
  have hx := B.exec
  have hb := B.bytes
  have hr := B.returns
  have hts := atoms_spec (ws := ws_Con_firstDone) B.pre
  have hown : s.vm.findClass "HandleDesk$Console" = some m.cls := findClass_of_methodNamed B.named
  have hlocks := B.notSynchronized
  subst hsz
  have hD := hD0.self (sz := s.heap.size)
  generalize hAe : va_A (ml 57 a (dcell kc a d)) s.heap.size = A at hD ⊢
  have hA : ∀ q : Nat, s.heap.size ≤ q → A q := fun q h => by rw [← hAe]; exact Or.inr h
  have hS : va_S A s.heap s.heap [] := va_S.rf
  have hl := lv_entry ([.ref (a 53)]) (n := 1) (Nat.le_of_ble_eq_true rfl)
  rw [lg_entry_eq]
  generalize (lg_sl ([.ref (a 53)]) ++ List.replicate (1 - (lg_sl ([.ref (a 53)])).length) Slot.unset).toArray = ls at hl ⊢
  have hl : lv_has ls 1 [(0, .ref (a 53))] := hl
  rw [sp_Con_firstDone] at hres
  refine lv_aload_n hx hb d_Con_firstDone_0 rfl (lv_at hl 0 rfl) ?_
  refine ml_get (D := (dC, dI)) hx hb hts in_CC hown hK hP (53) (by decide) (dc_con kc a d) rfl 0 (by decide) (hts _ (mC _ wd_93)) (fun _ h9 => h9) (v := .ref (a 54)) rfl d_Con_firstDone_1 ?_
  refine lv_aload_n hx hb d_Con_firstDone_4 rfl (lv_at hl 0 rfl) ?_
  refine ml_get (D := (dC, dI)) hx hb hts in_CC hown hK hP (53) (by decide) (dc_con kc a d) rfl 1 (by decide) (hts _ (mC _ wd_94)) (fun _ h9 => h9) (v := .int (d.1 12 0)) rfl d_Con_firstDone_5 ?_
  refine lv_bipush (v := 127) hx hb d_Con_firstDone_8 (by decide) ?_
  refine lv_iand hx hb d_Con_firstDone_10 ?_
  refine ml_bald hx hb hK hP (54) 1 (by decide) (dc_cring kc a d) rfl (pk_andIn _ 7 (by decide) (by decide)) d_Con_firstDone_11 ?_
  refine lv_sipush (v := 255) hx hb d_Con_firstDone_12 (by decide) ?_
  refine lv_iand hx hb d_Con_firstDone_15 ?_
  subst hres
  exact ml_iret hx hb hr hlocks hP hK hD hS d_Con_firstDone_16
def sp_Con_dropFirstDone (d : DK)  : DK :=
  (if (d.1 13 0) ≤ (0 : Int32) then d else (sI (sI (sI d 12 0 (((d.1 12 0) + (1 : Int32)) &&& (127 : Int32))) 13 0 (((sI d 12 0 (((d.1 12 0) + (1 : Int32)) &&& (127 : Int32))).1 13 0) - (1 : Int32))) 14 0 (((sI (sI d 12 0 (((d.1 12 0) + (1 : Int32)) &&& (127 : Int32))) 13 0 (((sI d 12 0 (((d.1 12 0) + (1 : Int32)) &&& (127 : Int32))).1 13 0) - (1 : Int32))).1 14 0) - (1 : Int32))))
abbrev rm_Con_dropFirstDone : Room := { frames := 0, cells := 0, slots := 0, locals := 0 }
set_option maxHeartbeats 4000000 in
set_option maxRecDepth 100000 in
theorem c_Con_dropFirstDone (l : Launch) (dC : Nat → ClassId) (dI : Nat → Nat → Nat) (kc : Nat → ClassId) (a : Nat → Nat) (sz : Nat) (d : DK) (d' : DK) (hres : sp_Con_dropFirstDone d = d') : Met l y_Con_dropFirstDone ws_Con_dropFirstDone rm_Con_dropFirstDone (va_Pc [.ref (a 53)] (ml_B (dC, dI) vwCl (tysD kc) 57 a (dcell kc a d) sz)) (va_Qv (fun (_ : Unit) => True) (fun _ t => ml_E (dC, dI) vwCl (tysD kc) 57 a (dcell kc a d') (va_A (ml 57 a (dcell kc a d)) sz) t) (va_A (ml 57 a (dcell kc a d)) sz)) 0 0 (va_A (ml 57 a (dcell kc a d)) sz) := by
  refine Met.ofW (cc := prog_2_method_7_code) (maxL := 1) (ret := (none : Option Jvm.ClassFile.FieldType)) (by decide) rfl ?_
  intro p e s m args below meth c s₁ B hml hv
  obtain ⟨rfl, hsz, hP, hK, hD0⟩ := hv
  have hx := B.exec
  have hb := B.bytes
  have hr := B.returns
  have hts := atoms_spec (ws := ws_Con_dropFirstDone) B.pre
  have hown : s.vm.findClass "HandleDesk$Console" = some m.cls := findClass_of_methodNamed B.named
  have hlocks := B.notSynchronized
  subst hsz
  have hD := hD0.self (sz := s.heap.size)
  generalize hAe : va_A (ml 57 a (dcell kc a d)) s.heap.size = A at hD ⊢
  have hA : ∀ q : Nat, s.heap.size ≤ q → A q := fun q h => by rw [← hAe]; exact Or.inr h
  have hS : va_S A s.heap s.heap [] := va_S.rf
  have hl := lv_entry ([.ref (a 53)]) (n := 1) (Nat.le_of_ble_eq_true rfl)
  rw [lg_entry_eq]
  generalize (lg_sl ([.ref (a 53)]) ++ List.replicate (1 - (lg_sl ([.ref (a 53)])).length) Slot.unset).toArray = ls at hl ⊢
  have hl : lv_has ls 1 [(0, .ref (a 53))] := hl
  rw [sp_Con_dropFirstDone] at hres
  refine lv_aload_n hx hb d_Con_dropFirstDone_0 rfl (lv_at hl 0 rfl) ?_
  refine ml_get (D := (dC, dI)) hx hb hts in_CC hown hK hP (53) (by decide) (dc_con kc a d) rfl 2 (by decide) (hts _ (mC _ wd_95)) (fun _ h9 => h9) (v := .int (d.1 13 0)) rfl d_Con_dropFirstDone_1 ?_
  refine lv_if_le (tgt := 40) hx hb d_Con_dropFirstDone_4 (by decide) (fun h_1 => ?_) (fun h_1 => ?_)
  · rw [if_pos h_1] at hres
    subst hres
    exact ml_vret hx hb hr hlocks hP hK hD hS d_Con_dropFirstDone_40
  · rw [if_neg h_1] at hres
    refine lv_aload_n hx hb d_Con_dropFirstDone_7 rfl (lv_at hl 0 rfl) ?_
    refine lv_aload_n hx hb d_Con_dropFirstDone_8 rfl (lv_at hl 0 rfl) ?_
    refine ml_get (D := (dC, dI)) hx hb hts in_CC hown hK hP (53) (by decide) (dc_con kc a d) rfl 1 (by decide) (hts _ (mC _ wd_94)) (fun _ h9 => h9) (v := .int (d.1 12 0)) rfl d_Con_dropFirstDone_9 ?_
    refine lv_iconst (v := 1) hx hb d_Con_dropFirstDone_12 (by decide) ?_
    refine lv_iadd hx hb d_Con_dropFirstDone_13 ?_
    refine lv_bipush (v := 127) hx hb d_Con_dropFirstDone_14 (by decide) ?_
    refine lv_iand hx hb d_Con_dropFirstDone_16 ?_
    refine ml_put (D := (dC, dI)) hx hb hts in_CC tyC tyC_ok nmC hown hK hP hD hS (53) (by decide) (dc_con kc a d) rfl 1 (by decide) (hts _ (mC _ wd_94)) (fun _ h9 => h9) rfl (ty := .int) (by decide +kernel) rfl rfl (Nat.le_of_ble_eq_true rfl) (f' := (dcell kc a (sI d 12 0 (((d.1 12 0) + (1 : Int32)) &&& (127 : Int32))))) (dw_12 (((d.1 12 0) + (1 : Int32)) &&& (127 : Int32))) d_Con_dropFirstDone_17 (fun H locs hP hD hS => ?_)
    refine lv_aload_n hx hb d_Con_dropFirstDone_20 rfl (lv_at hl 0 rfl) ?_
    refine lv_dup hx hb d_Con_dropFirstDone_21 rfl ?_
    refine ml_get (D := (dC, dI)) hx hb hts in_CC hown hK hP (53) (by decide) (dc_con kc a (sI d 12 0 (((d.1 12 0) + (1 : Int32)) &&& (127 : Int32)))) rfl 2 (by decide) (hts _ (mC _ wd_95)) (fun _ h9 => h9) (v := .int ((sI d 12 0 (((d.1 12 0) + (1 : Int32)) &&& (127 : Int32))).1 13 0)) rfl d_Con_dropFirstDone_22 ?_
    refine lv_iconst (v := 1) hx hb d_Con_dropFirstDone_25 (by decide) ?_
    refine lv_isub hx hb d_Con_dropFirstDone_26 ?_
    refine ml_put (D := (dC, dI)) hx hb hts in_CC tyC tyC_ok nmC hown hK hP hD hS (53) (by decide) (dc_con kc a (sI d 12 0 (((d.1 12 0) + (1 : Int32)) &&& (127 : Int32)))) rfl 2 (by decide) (hts _ (mC _ wd_95)) (fun _ h9 => h9) rfl (ty := .int) (by decide +kernel) rfl rfl (Nat.le_of_ble_eq_true rfl) (f' := (dcell kc a (sI (sI d 12 0 (((d.1 12 0) + (1 : Int32)) &&& (127 : Int32))) 13 0 (((sI d 12 0 (((d.1 12 0) + (1 : Int32)) &&& (127 : Int32))).1 13 0) - (1 : Int32))))) (dw_13 (((sI d 12 0 (((d.1 12 0) + (1 : Int32)) &&& (127 : Int32))).1 13 0) - (1 : Int32))) d_Con_dropFirstDone_27 (fun H locs hP hD hS => ?_)
    refine lv_aload_n hx hb d_Con_dropFirstDone_30 rfl (lv_at hl 0 rfl) ?_
    refine lv_dup hx hb d_Con_dropFirstDone_31 rfl ?_
    refine ml_get (D := (dC, dI)) hx hb hts in_CC hown hK hP (53) (by decide) (dc_con kc a (sI (sI d 12 0 (((d.1 12 0) + (1 : Int32)) &&& (127 : Int32))) 13 0 (((sI d 12 0 (((d.1 12 0) + (1 : Int32)) &&& (127 : Int32))).1 13 0) - (1 : Int32)))) rfl 3 (by decide) (hts _ (mC _ wd_97)) (fun _ h9 => h9) (v := .int ((sI (sI d 12 0 (((d.1 12 0) + (1 : Int32)) &&& (127 : Int32))) 13 0 (((sI d 12 0 (((d.1 12 0) + (1 : Int32)) &&& (127 : Int32))).1 13 0) - (1 : Int32))).1 14 0)) rfl d_Con_dropFirstDone_32 ?_
    refine lv_iconst (v := 1) hx hb d_Con_dropFirstDone_35 (by decide) ?_
    refine lv_isub hx hb d_Con_dropFirstDone_36 ?_
    refine ml_put (D := (dC, dI)) hx hb hts in_CC tyC tyC_ok nmC hown hK hP hD hS (53) (by decide) (dc_con kc a (sI (sI d 12 0 (((d.1 12 0) + (1 : Int32)) &&& (127 : Int32))) 13 0 (((sI d 12 0 (((d.1 12 0) + (1 : Int32)) &&& (127 : Int32))).1 13 0) - (1 : Int32)))) rfl 3 (by decide) (hts _ (mC _ wd_97)) (fun _ h9 => h9) rfl (ty := .int) (by decide +kernel) rfl rfl (Nat.le_of_ble_eq_true rfl) (f' := (dcell kc a (sI (sI (sI d 12 0 (((d.1 12 0) + (1 : Int32)) &&& (127 : Int32))) 13 0 (((sI d 12 0 (((d.1 12 0) + (1 : Int32)) &&& (127 : Int32))).1 13 0) - (1 : Int32))) 14 0 (((sI (sI d 12 0 (((d.1 12 0) + (1 : Int32)) &&& (127 : Int32))) 13 0 (((sI d 12 0 (((d.1 12 0) + (1 : Int32)) &&& (127 : Int32))).1 13 0) - (1 : Int32))).1 14 0) - (1 : Int32))))) (dw_14 (((sI (sI d 12 0 (((d.1 12 0) + (1 : Int32)) &&& (127 : Int32))) 13 0 (((sI d 12 0 (((d.1 12 0) + (1 : Int32)) &&& (127 : Int32))).1 13 0) - (1 : Int32))).1 14 0) - (1 : Int32))) d_Con_dropFirstDone_37 (fun H locs hP hD hS => ?_)
    subst hres
    exact ml_vret hx hb hr hlocks hP hK hD hS d_Con_dropFirstDone_40
def sp_Scr_addLast (d : DK) (bt : Int32) : DK :=
  (sI (sI d 17 ((d.1 16 0) &&& (4095 : Int32)).toNatClampNeg (vp_nar .byte bt.toInt8.toInt32)) 16 0 (((sI d 17 ((d.1 16 0) &&& (4095 : Int32)).toNatClampNeg (vp_nar .byte bt.toInt8.toInt32)).1 16 0) + (1 : Int32)))
abbrev rm_Scr_addLast : Room := { frames := 0, cells := 0, slots := 0, locals := 0 }
set_option maxHeartbeats 4000000 in
set_option maxRecDepth 100000 in
theorem c_Scr_addLast (l : Launch) (dC : Nat → ClassId) (dI : Nat → Nat → Nat) (kc : Nat → ClassId) (a : Nat → Nat) (sz : Nat) (d : DK) (bt : Int32) (d' : DK) (hres : sp_Scr_addLast d bt = d') : Met l y_Scr_addLast ws_Scr_addLast rm_Scr_addLast (va_Pc [.ref (a 55), .int bt] (ml_B (dC, dI) vwCl (tysD kc) 57 a (dcell kc a d) sz)) (va_Qv (fun (_ : Unit) => True) (fun _ t => ml_E (dC, dI) vwCl (tysD kc) 57 a (dcell kc a d') (va_A (ml 57 a (dcell kc a d)) sz) t) (va_A (ml 57 a (dcell kc a d)) sz)) 0 0 (va_A (ml 57 a (dcell kc a d)) sz) := by
  refine Met.ofW (cc := prog_5_method_2_code) (maxL := 2) (ret := (none : Option Jvm.ClassFile.FieldType)) (by decide) rfl ?_
  intro p e s m args below meth c s₁ B hml hv
  obtain ⟨rfl, hsz, hP, hK, hD0⟩ := hv
  have hx := B.exec
  have hb := B.bytes
  have hr := B.returns
  have hts := atoms_spec (ws := ws_Scr_addLast) B.pre
  have hown : s.vm.findClass "HandleDesk$Screen" = some m.cls := findClass_of_methodNamed B.named
  have hlocks := B.notSynchronized
  subst hsz
  have hD := hD0.self (sz := s.heap.size)
  generalize hAe : va_A (ml 57 a (dcell kc a d)) s.heap.size = A at hD ⊢
  have hA : ∀ q : Nat, s.heap.size ≤ q → A q := fun q h => by rw [← hAe]; exact Or.inr h
  have hS : va_S A s.heap s.heap [] := va_S.rf
  have hl := lv_entry ([.ref (a 55), .int bt]) (n := 2) (Nat.le_of_ble_eq_true rfl)
  rw [lg_entry_eq]
  generalize (lg_sl ([.ref (a 55), .int bt]) ++ List.replicate (2 - (lg_sl ([.ref (a 55), .int bt])).length) Slot.unset).toArray = ls at hl ⊢
  have hl : lv_has ls 2 [(0, .ref (a 55)), (1, .int bt)] := hl
  rw [sp_Scr_addLast] at hres
  refine lv_aload_n hx hb d_Scr_addLast_0 rfl (lv_at hl 0 rfl) ?_
  refine ml_get (D := (dC, dI)) hx hb hts in_SC hown hK hP (55) (by decide) (dc_scr kc a d) rfl 0 (by decide) (hts _ (mC _ wd_115)) (fun _ h9 => h9) (v := .ref (a 56)) rfl d_Scr_addLast_1 ?_
  refine lv_aload_n hx hb d_Scr_addLast_4 rfl (lv_at hl 0 rfl) ?_
  refine ml_get (D := (dC, dI)) hx hb hts in_SC hown hK hP (55) (by decide) (dc_scr kc a d) rfl 1 (by decide) (hts _ (mC _ wd_116)) (fun _ h9 => h9) (v := .int (d.1 16 0)) rfl d_Scr_addLast_5 ?_
  refine lv_sipush (v := 4095) hx hb d_Scr_addLast_8 (by decide) ?_
  refine lv_iand hx hb d_Scr_addLast_11 ?_
  refine lv_iload_n hx hb d_Scr_addLast_12 rfl (lv_at hl 1 rfl) ?_
  refine lv_i2b (v := bt.toInt8.toInt32) hx hb d_Scr_addLast_13 rfl ?_
  refine ml_bast hx hb hK hP hD hS (56) 1 (by decide) (dc_sring kc a d) rfl (pk_andIn _ 12 (by decide) (by decide)) (f' := (dcell kc a (sI d 17 ((d.1 16 0) &&& (4095 : Int32)).toNatClampNeg (vp_nar .byte bt.toInt8.toInt32)))) (dw_sring ((d.1 16 0) &&& (4095 : Int32)).toNatClampNeg (vp_nar .byte bt.toInt8.toInt32)) d_Scr_addLast_14 (fun H locs hP hD hS => ?_)
  refine lv_aload_n hx hb d_Scr_addLast_15 rfl (lv_at hl 0 rfl) ?_
  refine lv_dup hx hb d_Scr_addLast_16 rfl ?_
  refine ml_get (D := (dC, dI)) hx hb hts in_SC hown hK hP (55) (by decide) (dc_scr kc a (sI d 17 ((d.1 16 0) &&& (4095 : Int32)).toNatClampNeg (vp_nar .byte bt.toInt8.toInt32))) rfl 1 (by decide) (hts _ (mC _ wd_116)) (fun _ h9 => h9) (v := .int ((sI d 17 ((d.1 16 0) &&& (4095 : Int32)).toNatClampNeg (vp_nar .byte bt.toInt8.toInt32)).1 16 0)) rfl d_Scr_addLast_17 ?_
  refine lv_iconst (v := 1) hx hb d_Scr_addLast_20 (by decide) ?_
  refine lv_iadd hx hb d_Scr_addLast_21 ?_
  refine ml_put (D := (dC, dI)) hx hb hts in_SC tyS tyS_ok nmS hown hK hP hD hS (55) (by decide) (dc_scr kc a (sI d 17 ((d.1 16 0) &&& (4095 : Int32)).toNatClampNeg (vp_nar .byte bt.toInt8.toInt32))) rfl 1 (by decide) (hts _ (mC _ wd_116)) (fun _ h9 => h9) rfl (ty := .int) (by decide +kernel) rfl rfl (Nat.le_of_ble_eq_true rfl) (f' := (dcell kc a (sI (sI d 17 ((d.1 16 0) &&& (4095 : Int32)).toNatClampNeg (vp_nar .byte bt.toInt8.toInt32)) 16 0 (((sI d 17 ((d.1 16 0) &&& (4095 : Int32)).toNatClampNeg (vp_nar .byte bt.toInt8.toInt32)).1 16 0) + (1 : Int32))))) (dw_16 (((sI d 17 ((d.1 16 0) &&& (4095 : Int32)).toNatClampNeg (vp_nar .byte bt.toInt8.toInt32)).1 16 0) + (1 : Int32))) d_Scr_addLast_22 (fun H locs hP hD hS => ?_)
  subst hres
  exact ml_vret hx hb hr hlocks hP hK hD hS d_Scr_addLast_25
def sp_Scr_byteAt (d : DK) (kx : Int32) : Int32 :=
  (if kx < (0 : Int32) then (-1 : Int32) else (if (d.1 16 0) ≤ kx then (-1 : Int32) else (if ((d.1 16 0) - kx) ≤ (4096 : Int32) then ((d.1 17 (kx &&& (4095 : Int32)).toNatClampNeg) &&& (255 : Int32)) else (-1 : Int32))))
abbrev rm_Scr_byteAt : Room := { frames := 0, cells := 0, slots := 0, locals := 0 }
set_option maxHeartbeats 4000000 in
set_option maxRecDepth 100000 in
theorem c_Scr_byteAt (l : Launch) (dC : Nat → ClassId) (dI : Nat → Nat → Nat) (kc : Nat → ClassId) (a : Nat → Nat) (sz : Nat) (d : DK) (kx : Int32) (R' : Int32) (hres : sp_Scr_byteAt d kx = R') : Met l y_Scr_byteAt ws_Scr_byteAt rm_Scr_byteAt (va_Pc [.ref (a 55), .int kx] (ml_B (dC, dI) vwCl (tysD kc) 57 a (dcell kc a d) sz)) (va_Qi (fun r (_ : Unit) => r = R') (fun _ t => ml_E (dC, dI) vwCl (tysD kc) 57 a (dcell kc a d) (va_A (ml 57 a (dcell kc a d)) sz) t) (va_A (ml 57 a (dcell kc a d)) sz)) 0 0 (va_A (ml 57 a (dcell kc a d)) sz) := by
  refine Met.ofW (cc := prog_5_method_3_code) (maxL := 2) (ret := (some .int)) (by decide) rfl ?_
  intro p e s m args below meth c s₁ B hml hv
  obtain ⟨rfl, hsz, hP, hK, hD0⟩ := hv
  have hx := B.exec
  have hb := B.bytes
  have hr := B.returns
  have hts := atoms_spec (ws := ws_Scr_byteAt) B.pre
  have hown : s.vm.findClass "HandleDesk$Screen" = some m.cls := findClass_of_methodNamed B.named
  have hlocks := B.notSynchronized
  subst hsz
  have hD := hD0.self (sz := s.heap.size)
  generalize hAe : va_A (ml 57 a (dcell kc a d)) s.heap.size = A at hD ⊢
  have hA : ∀ q : Nat, s.heap.size ≤ q → A q := fun q h => by rw [← hAe]; exact Or.inr h
  have hS : va_S A s.heap s.heap [] := va_S.rf
  have hl := lv_entry ([.ref (a 55), .int kx]) (n := 2) (Nat.le_of_ble_eq_true rfl)
  rw [lg_entry_eq]
  generalize (lg_sl ([.ref (a 55), .int kx]) ++ List.replicate (2 - (lg_sl ([.ref (a 55), .int kx])).length) Slot.unset).toArray = ls at hl ⊢
  have hl : lv_has ls 2 [(0, .ref (a 55)), (1, .int kx)] := hl
  rw [sp_Scr_byteAt] at hres
  refine lv_iload_n hx hb d_Scr_byteAt_0 rfl (lv_at hl 1 rfl) ?_
  refine lv_if_lt (tgt := 24) hx hb d_Scr_byteAt_1 (by decide) (fun h_1 => ?_) (fun h_1 => ?_)
  · rw [if_pos h_1] at hres
    refine lv_iconst (v := -1) hx hb d_Scr_byteAt_24 (by decide) ?_
    subst hres
    exact ml_iret hx hb hr hlocks hP hK hD hS d_Scr_byteAt_25
  · rw [if_neg h_1] at hres
    refine lv_iload_n hx hb d_Scr_byteAt_4 rfl (lv_at hl 1 rfl) ?_
    refine lv_aload_n hx hb d_Scr_byteAt_5 rfl (lv_at hl 0 rfl) ?_
    refine ml_get (D := (dC, dI)) hx hb hts in_SC hown hK hP (55) (by decide) (dc_scr kc a d) rfl 1 (by decide) (hts _ (mC _ wd_116)) (fun _ h9 => h9) (v := .int (d.1 16 0)) rfl d_Scr_byteAt_6 ?_
    refine lv_icmp_ge (tgt := 24) hx hb d_Scr_byteAt_9 (by decide) (fun h_2 => ?_) (fun h_2 => ?_)
    · rw [if_pos h_2] at hres
      refine lv_iconst (v := -1) hx hb d_Scr_byteAt_24 (by decide) ?_
      subst hres
      exact ml_iret hx hb hr hlocks hP hK hD hS d_Scr_byteAt_25
    · rw [if_neg h_2] at hres
      refine lv_aload_n hx hb d_Scr_byteAt_12 rfl (lv_at hl 0 rfl) ?_
      refine ml_get (D := (dC, dI)) hx hb hts in_SC hown hK hP (55) (by decide) (dc_scr kc a d) rfl 1 (by decide) (hts _ (mC _ wd_116)) (fun _ h9 => h9) (v := .int (d.1 16 0)) rfl d_Scr_byteAt_13 ?_
      refine lv_iload_n hx hb d_Scr_byteAt_16 rfl (lv_at hl 1 rfl) ?_
      refine lv_isub hx hb d_Scr_byteAt_17 ?_
      refine lv_sipush (v := 4096) hx hb d_Scr_byteAt_18 (by decide) ?_
      refine lv_icmp_le (tgt := 26) hx hb d_Scr_byteAt_21 (by decide) (fun h_3 => ?_) (fun h_3 => ?_)
      · rw [if_pos h_3] at hres
        refine lv_aload_n hx hb d_Scr_byteAt_26 rfl (lv_at hl 0 rfl) ?_
        refine ml_get (D := (dC, dI)) hx hb hts in_SC hown hK hP (55) (by decide) (dc_scr kc a d) rfl 0 (by decide) (hts _ (mC _ wd_115)) (fun _ h9 => h9) (v := .ref (a 56)) rfl d_Scr_byteAt_27 ?_
        refine lv_iload_n hx hb d_Scr_byteAt_30 rfl (lv_at hl 1 rfl) ?_
        refine lv_sipush (v := 4095) hx hb d_Scr_byteAt_31 (by decide) ?_
        refine lv_iand hx hb d_Scr_byteAt_34 ?_
        refine ml_bald hx hb hK hP (56) 1 (by decide) (dc_sring kc a d) rfl (pk_andIn _ 12 (by decide) (by decide)) d_Scr_byteAt_35 ?_
        refine lv_sipush (v := 255) hx hb d_Scr_byteAt_36 (by decide) ?_
        refine lv_iand hx hb d_Scr_byteAt_39 ?_
        subst hres
        exact ml_iret hx hb hr hlocks hP hK hD hS d_Scr_byteAt_40
      · rw [if_neg h_3] at hres
        refine lv_iconst (v := -1) hx hb d_Scr_byteAt_24 (by decide) ?_
        subst hres
        exact ml_iret hx hb hr hlocks hP hK hD hS d_Scr_byteAt_25
