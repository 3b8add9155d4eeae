def sp_isProcess (pr : Int32) : Int32 :=
  (if pr < (0 : Int32) then (0 : Int32) else (if (15 : Int32) ≤ pr then (0 : Int32) else (1 : Int32)))
abbrev rm_isProcess : Room := { frames := 0, cells := 0, slots := 0, locals := 0 }
set_option maxHeartbeats 4000000 in
set_option maxRecDepth 100000 in
theorem c_isProcess (l : Launch) (dC : Nat → ClassId) (dI : Nat → Nat → Nat) (kc : Nat → ClassId) (a : Nat → Nat) (sz : Nat) (d : DK) (pr : Int32) (R' : Int32) (hres : sp_isProcess pr = R') : Met l y_isProcess ws_isProcess rm_isProcess (va_Pc [.int pr] (ml_B (dC, dI) vwCl (tysD kc) 57 a (dcell kc a d) sz)) (va_Qi (fun r (_ : Unit) => r = R') (fun _ t => ml_E (dC, dI) vwCl (tysD kc) 57 a (dcell kc a d) (va_A (ml 57 a (dcell kc a d)) sz) t) (va_A (ml 57 a (dcell kc a d)) sz)) 0 0 (va_A (ml 57 a (dcell kc a d)) sz) := by
  refine Met.ofW (cc := prog_1_method_20_code) (maxL := 1) (ret := (some .boolean)) (by decide) rfl ?_
  intro p e s m args below meth c s₁ B hml hv
  obtain ⟨rfl, hsz, hP, hK, hD0⟩ := hv
  have hx := B.exec
  have hb := B.bytes
  have hr := B.returns
  have hts := atoms_spec (ws := ws_isProcess) B.pre
  have hown : s.vm.findClass "HandleDesk" = some m.cls := findClass_of_methodNamed B.named
  have hlocks := B.notSynchronized
  subst hsz
  have hD := hD0.self (sz := s.heap.size)
  generalize hAe : va_A (ml 57 a (dcell kc a d)) s.heap.size = A at hD ⊢
  have hA : ∀ q : Nat, s.heap.size ≤ q → A q := fun q h => by rw [← hAe]; exact Or.inr h
  have hS : va_S A s.heap s.heap [] := va_S.rf
  have hl := lv_entry ([.int pr]) (n := 1) (Nat.le_of_ble_eq_true rfl)
  rw [lg_entry_eq]
  generalize (lg_sl ([.int pr]) ++ List.replicate (1 - (lg_sl ([.int pr])).length) Slot.unset).toArray = ls at hl ⊢
  have hl : lv_has ls 1 [(0, .int pr)] := hl
  rw [sp_isProcess] at hres
  refine lv_iload_n hx hb d_isProcess_0 rfl (lv_at hl 0 rfl) ?_
  refine lv_if_lt (tgt := 14) hx hb d_isProcess_1 (by decide) (fun h_1 => ?_) (fun h_1 => ?_)
  · rw [if_pos h_1] at hres
    refine lv_iconst (v := 0) hx hb d_isProcess_14 (by decide) ?_
    subst hres
    exact ml_zret hx hb hr (by decide) hlocks hP hK hD hS d_isProcess_15
  · rw [if_neg h_1] at hres
    refine lv_iload_n hx hb d_isProcess_4 rfl (lv_at hl 0 rfl) ?_
    refine lv_bipush (v := 15) hx hb d_isProcess_5 (by decide) ?_
    refine lv_icmp_ge (tgt := 14) hx hb d_isProcess_7 (by decide) (fun h_2 => ?_) (fun h_2 => ?_)
    · rw [if_pos h_2] at hres
      refine lv_iconst (v := 0) hx hb d_isProcess_14 (by decide) ?_
      subst hres
      exact ml_zret hx hb hr (by decide) hlocks hP hK hD hS d_isProcess_15
    · rw [if_neg h_2] at hres
      refine lv_iconst (v := 1) hx hb d_isProcess_10 (by decide) ?_
      refine lv_goto (tgt := 15) hx hb d_isProcess_11 (by decide) ?_
      subst hres
      exact ml_zret hx hb hr (by decide) hlocks hP hK hD hS d_isProcess_15
def sp_isDescriptor (x : Int32) : Int32 :=
  (if x < (0 : Int32) then (0 : Int32) else (if (16 : Int32) ≤ x then (0 : Int32) else (1 : Int32)))
abbrev rm_isDescriptor : Room := { frames := 0, cells := 0, slots := 0, locals := 0 }
set_option maxHeartbeats 4000000 in
set_option maxRecDepth 100000 in
theorem c_isDescriptor (l : Launch) (dC : Nat → ClassId) (dI : Nat → Nat → Nat) (kc : Nat → ClassId) (a : Nat → Nat) (sz : Nat) (d : DK) (x : Int32) (R' : Int32) (hres : sp_isDescriptor x = R') : Met l y_isDescriptor ws_isDescriptor rm_isDescriptor (va_Pc [.int x] (ml_B (dC, dI) vwCl (tysD kc) 57 a (dcell kc a d) sz)) (va_Qi (fun r (_ : Unit) => r = R') (fun _ t => ml_E (dC, dI) vwCl (tysD kc) 57 a (dcell kc a d) (va_A (ml 57 a (dcell kc a d)) sz) t) (va_A (ml 57 a (dcell kc a d)) sz)) 0 0 (va_A (ml 57 a (dcell kc a d)) sz) := by
  refine Met.ofW (cc := prog_1_method_21_code) (maxL := 1) (ret := (some .boolean)) (by decide) rfl ?_
  intro p e s m args below meth c s₁ B hml hv
  obtain ⟨rfl, hsz, hP, hK, hD0⟩ := hv
  have hx := B.exec
  have hb := B.bytes
  have hr := B.returns
  have hts := atoms_spec (ws := ws_isDescriptor) B.pre
  have hown : s.vm.findClass "HandleDesk" = some m.cls := findClass_of_methodNamed B.named
  have hlocks := B.notSynchronized
  subst hsz
  have hD := hD0.self (sz := s.heap.size)
  generalize hAe : va_A (ml 57 a (dcell kc a d)) s.heap.size = A at hD ⊢
  have hA : ∀ q : Nat, s.heap.size ≤ q → A q := fun q h => by rw [← hAe]; exact Or.inr h
  have hS : va_S A s.heap s.heap [] := va_S.rf
  have hl := lv_entry ([.int x]) (n := 1) (Nat.le_of_ble_eq_true rfl)
  rw [lg_entry_eq]
  generalize (lg_sl ([.int x]) ++ List.replicate (1 - (lg_sl ([.int x])).length) Slot.unset).toArray = ls at hl ⊢
  have hl : lv_has ls 1 [(0, .int x)] := hl
  rw [sp_isDescriptor] at hres
  refine lv_iload_n hx hb d_isDescriptor_0 rfl (lv_at hl 0 rfl) ?_
  refine lv_if_lt (tgt := 14) hx hb d_isDescriptor_1 (by decide) (fun h_1 => ?_) (fun h_1 => ?_)
  · rw [if_pos h_1] at hres
    refine lv_iconst (v := 0) hx hb d_isDescriptor_14 (by decide) ?_
    subst hres
    exact ml_zret hx hb hr (by decide) hlocks hP hK hD hS d_isDescriptor_15
  · rw [if_neg h_1] at hres
    refine lv_iload_n hx hb d_isDescriptor_4 rfl (lv_at hl 0 rfl) ?_
    refine lv_bipush (v := 16) hx hb d_isDescriptor_5 (by decide) ?_
    refine lv_icmp_ge (tgt := 14) hx hb d_isDescriptor_7 (by decide) (fun h_2 => ?_) (fun h_2 => ?_)
    · rw [if_pos h_2] at hres
      refine lv_iconst (v := 0) hx hb d_isDescriptor_14 (by decide) ?_
      subst hres
      exact ml_zret hx hb hr (by decide) hlocks hP hK hD hS d_isDescriptor_15
    · rw [if_neg h_2] at hres
      refine lv_iconst (v := 1) hx hb d_isDescriptor_10 (by decide) ?_
      refine lv_goto (tgt := 15) hx hb d_isDescriptor_11 (by decide) ?_
      subst hres
      exact ml_zret hx hb hr (by decide) hlocks hP hK hD hS d_isDescriptor_15
def sp_isOpenable (ki : Int32) : Int32 :=
  (if ki = (2 : Int32) then (1 : Int32) else (if ki = (3 : Int32) then (1 : Int32) else (0 : Int32)))
abbrev rm_isOpenable : Room := { frames := 0, cells := 0, slots := 0, locals := 0 }
set_option maxHeartbeats 4000000 in
set_option maxRecDepth 100000 in
theorem c_isOpenable (l : Launch) (dC : Nat → ClassId) (dI : Nat → Nat → Nat) (kc : Nat → ClassId) (a : Nat → Nat) (sz : Nat) (d : DK) (ki : Int32) (R' : Int32) (hres : sp_isOpenable ki = R') : Met l y_isOpenable ws_isOpenable rm_isOpenable (va_Pc [.int ki] (ml_B (dC, dI) vwCl (tysD kc) 57 a (dcell kc a d) sz)) (va_Qi (fun r (_ : Unit) => r = R') (fun _ t => ml_E (dC, dI) vwCl (tysD kc) 57 a (dcell kc a d) (va_A (ml 57 a (dcell kc a d)) sz) t) (va_A (ml 57 a (dcell kc a d)) sz)) 0 0 (va_A (ml 57 a (dcell kc a d)) sz) := by
  refine Met.ofW (cc := prog_1_method_22_code) (maxL := 1) (ret := (some .boolean)) (by decide) rfl ?_
  intro p e s m args below meth c s₁ B hml hv
  obtain ⟨rfl, hsz, hP, hK, hD0⟩ := hv
  have hx := B.exec
  have hb := B.bytes
  have hr := B.returns
  have hts := atoms_spec (ws := ws_isOpenable) B.pre
  have hown : s.vm.findClass "HandleDesk" = some m.cls := findClass_of_methodNamed B.named
  have hlocks := B.notSynchronized
  subst hsz
  have hD := hD0.self (sz := s.heap.size)
  generalize hAe : va_A (ml 57 a (dcell kc a d)) s.heap.size = A at hD ⊢
  have hA : ∀ q : Nat, s.heap.size ≤ q → A q := fun q h => by rw [← hAe]; exact Or.inr h
  have hS : va_S A s.heap s.heap [] := va_S.rf
  have hl := lv_entry ([.int ki]) (n := 1) (Nat.le_of_ble_eq_true rfl)
  rw [lg_entry_eq]
  generalize (lg_sl ([.int ki]) ++ List.replicate (1 - (lg_sl ([.int ki])).length) Slot.unset).toArray = ls at hl ⊢
  have hl : lv_has ls 1 [(0, .int ki)] := hl
  rw [sp_isOpenable] at hres
  refine lv_iload_n hx hb d_isOpenable_0 rfl (lv_at hl 0 rfl) ?_
  refine lv_iconst (v := 2) hx hb d_isOpenable_1 (by decide) ?_
  refine lv_icmp_eq (tgt := 10) hx hb d_isOpenable_2 (by decide) (fun h_1 => ?_) (fun h_1 => ?_)
  · rw [if_pos h_1] at hres
    refine lv_iconst (v := 1) hx hb d_isOpenable_10 (by decide) ?_
    refine lv_goto (tgt := 15) hx hb d_isOpenable_11 (by decide) ?_
    subst hres
    exact ml_zret hx hb hr (by decide) hlocks hP hK hD hS d_isOpenable_15
  · rw [if_neg h_1] at hres
    refine lv_iload_n hx hb d_isOpenable_5 rfl (lv_at hl 0 rfl) ?_
    refine lv_iconst (v := 3) hx hb d_isOpenable_6 (by decide) ?_
    refine lv_icmp_ne (tgt := 14) hx hb d_isOpenable_7 (by decide) (fun h_2 => ?_) (fun h_2 => ?_)
    · rw [if_neg h_2] at hres
      refine lv_iconst (v := 0) hx hb d_isOpenable_14 (by decide) ?_
      subst hres
      exact ml_zret hx hb hr (by decide) hlocks hP hK hD hS d_isOpenable_15
    · rw [if_pos h_2] at hres
      refine lv_iconst (v := 1) hx hb d_isOpenable_10 (by decide) ?_
      refine lv_goto (tgt := 15) hx hb d_isOpenable_11 (by decide) ?_
      subst hres
      exact ml_zret hx hb hr (by decide) hlocks hP hK hD hS d_isOpenable_15
def sp_isHow (hw : Int32) : Int32 :=
  (if hw < (1 : Int32) then (0 : Int32) else (if (3 : Int32) < hw then (0 : Int32) else (1 : Int32)))
abbrev rm_isHow : Room := { frames := 0, cells := 0, slots := 0, locals := 0 }
set_option maxHeartbeats 4000000 in
set_option maxRecDepth 100000 in
theorem c_isHow (l : Launch) (dC : Nat → ClassId) (dI : Nat → Nat → Nat) (kc : Nat → ClassId) (a : Nat → Nat) (sz : Nat) (d : DK) (hw : Int32) (R' : Int32) (hres : sp_isHow hw = R') : Met l y_isHow ws_isHow rm_isHow (va_Pc [.int hw] (ml_B (dC, dI) vwCl (tysD kc) 57 a (dcell kc a d) sz)) (va_Qi (fun r (_ : Unit) => r = R') (fun _ t => ml_E (dC, dI) vwCl (tysD kc) 57 a (dcell kc a d) (va_A (ml 57 a (dcell kc a d)) sz) t) (va_A (ml 57 a (dcell kc a d)) sz)) 0 0 (va_A (ml 57 a (dcell kc a d)) sz) := by
  refine Met.ofW (cc := prog_1_method_23_code) (maxL := 1) (ret := (some .boolean)) (by decide) rfl ?_
  intro p e s m args below meth c s₁ B hml hv
  obtain ⟨rfl, hsz, hP, hK, hD0⟩ := hv
  have hx := B.exec
  have hb := B.bytes
  have hr := B.returns
  have hts := atoms_spec (ws := ws_isHow) B.pre
  have hown : s.vm.findClass "HandleDesk" = some m.cls := findClass_of_methodNamed B.named
  have hlocks := B.notSynchronized
  subst hsz
  have hD := hD0.self (sz := s.heap.size)
  generalize hAe : va_A (ml 57 a (dcell kc a d)) s.heap.size = A at hD ⊢
  have hA : ∀ q : Nat, s.heap.size ≤ q → A q := fun q h => by rw [← hAe]; exact Or.inr h
  have hS : va_S A s.heap s.heap [] := va_S.rf
  have hl := lv_entry ([.int hw]) (n := 1) (Nat.le_of_ble_eq_true rfl)
  rw [lg_entry_eq]
  generalize (lg_sl ([.int hw]) ++ List.replicate (1 - (lg_sl ([.int hw])).length) Slot.unset).toArray = ls at hl ⊢
  have hl : lv_has ls 1 [(0, .int hw)] := hl
  rw [sp_isHow] at hres
  refine lv_iload_n hx hb d_isHow_0 rfl (lv_at hl 0 rfl) ?_
  refine lv_iconst (v := 1) hx hb d_isHow_1 (by decide) ?_
  refine lv_icmp_lt (tgt := 14) hx hb d_isHow_2 (by decide) (fun h_1 => ?_) (fun h_1 => ?_)
  · rw [if_pos h_1] at hres
    refine lv_iconst (v := 0) hx hb d_isHow_14 (by decide) ?_
    subst hres
    exact ml_zret hx hb hr (by decide) hlocks hP hK hD hS d_isHow_15
  · rw [if_neg h_1] at hres
    refine lv_iload_n hx hb d_isHow_5 rfl (lv_at hl 0 rfl) ?_
    refine lv_iconst (v := 3) hx hb d_isHow_6 (by decide) ?_
    refine lv_icmp_gt (tgt := 14) hx hb d_isHow_7 (by decide) (fun h_2 => ?_) (fun h_2 => ?_)
    · rw [if_pos h_2] at hres
      refine lv_iconst (v := 0) hx hb d_isHow_14 (by decide) ?_
      subst hres
      exact ml_zret hx hb hr (by decide) hlocks hP hK hD hS d_isHow_15
    · rw [if_neg h_2] at hres
      refine lv_iconst (v := 1) hx hb d_isHow_10 (by decide) ?_
      refine lv_goto (tgt := 15) hx hb d_isHow_11 (by decide) ?_
      subst hres
      exact ml_zret hx hb hr (by decide) hlocks hP hK hD hS d_isHow_15
def sp_oneIf (bt : Int32) : Int32 :=
  (if bt = (0 : Int32) then (0 : Int32) else (1 : Int32))
abbrev rm_oneIf : Room := { frames := 0, cells := 0, slots := 0, locals := 0 }
set_option maxHeartbeats 4000000 in
set_option maxRecDepth 100000 in
theorem c_oneIf (l : Launch) (dC : Nat → ClassId) (dI : Nat → Nat → Nat) (kc : Nat → ClassId) (a : Nat → Nat) (sz : Nat) (d : DK) (bt : Int32) (R' : Int32) (hres : sp_oneIf bt = R') : Met l y_oneIf ws_oneIf rm_oneIf (va_Pc [.int bt] (ml_B (dC, dI) vwCl (tysD kc) 57 a (dcell kc a d) sz)) (va_Qi (fun r (_ : Unit) => r = R') (fun _ t => ml_E (dC, dI) vwCl (tysD kc) 57 a (dcell kc a d) (va_A (ml 57 a (dcell kc a d)) sz) t) (va_A (ml 57 a (dcell kc a d)) sz)) 0 0 (va_A (ml 57 a (dcell kc a d)) sz) := by
  refine Met.ofW (cc := prog_1_method_24_code) (maxL := 1) (ret := (some .int)) (by decide) rfl ?_
  intro p e s m args below meth c s₁ B hml hv
  obtain ⟨rfl, hsz, hP, hK, hD0⟩ := hv
  have hx := B.exec
  have hb := B.bytes
  have hr := B.returns
  have hts := atoms_spec (ws := ws_oneIf) B.pre
  have hown : s.vm.findClass "HandleDesk" = some m.cls := findClass_of_methodNamed B.named
  have hlocks := B.notSynchronized
  subst hsz
  have hD := hD0.self (sz := s.heap.size)
  generalize hAe : va_A (ml 57 a (dcell kc a d)) s.heap.size = A at hD ⊢
  have hA : ∀ q : Nat, s.heap.size ≤ q → A q := fun q h => by rw [← hAe]; exact Or.inr h
  have hS : va_S A s.heap s.heap [] := va_S.rf
  have hl := lv_entry ([.int bt]) (n := 1) (Nat.le_of_ble_eq_true rfl)
  rw [lg_entry_eq]
  generalize (lg_sl ([.int bt]) ++ List.replicate (1 - (lg_sl ([.int bt])).length) Slot.unset).toArray = ls at hl ⊢
  have hl : lv_has ls 1 [(0, .int bt)] := hl
  rw [sp_oneIf] at hres
  refine lv_iload_n hx hb d_oneIf_0 rfl (lv_at hl 0 rfl) ?_
  refine lv_if_eq (tgt := 8) hx hb d_oneIf_1 (by decide) (fun h_1 => ?_) (fun h_1 => ?_)
  · rw [if_pos h_1] at hres
    refine lv_iconst (v := 0) hx hb d_oneIf_8 (by decide) ?_
    subst hres
    exact ml_iret hx hb hr hlocks hP hK hD hS d_oneIf_9
  · rw [if_neg h_1] at hres
    refine lv_iconst (v := 1) hx hb d_oneIf_4 (by decide) ?_
    refine lv_goto (tgt := 9) hx hb d_oneIf_5 (by decide) ?_
    subst hres
    exact ml_iret hx hb hr hlocks hP hK hD hS d_oneIf_9
def sp_File_begin (d : DK) (fl : Fin 32) (ki : Int32) (hw : Int32) : DK :=
  (if hw &&& (1 : Int32) = (0 : Int32) then (if hw &&& (2 : Int32) = (0 : Int32) then (sI (sI (sI (sI (sR (sI (sI d 2 fl.val ki) 3 fl.val (0 : Int32)) fl.val none) 4 fl.val (0 : Int32)) 5 fl.val (0 : Int32)) 6 fl.val (0 : Int32)) 7 fl.val (0 : Int32)) else (sI (sI (sI (sI (sR (sI (sI d 2 fl.val ki) 3 fl.val (0 : Int32)) fl.val none) 4 fl.val (0 : Int32)) 5 fl.val (1 : Int32)) 6 fl.val (0 : Int32)) 7 fl.val (0 : Int32))) else (if hw &&& (2 : Int32) = (0 : Int32) then (sI (sI (sI (sI (sR (sI (sI d 2 fl.val ki) 3 fl.val (0 : Int32)) fl.val none) 4 fl.val (1 : Int32)) 5 fl.val (0 : Int32)) 6 fl.val (0 : Int32)) 7 fl.val (0 : Int32)) else (sI (sI (sI (sI (sR (sI (sI d 2 fl.val ki) 3 fl.val (0 : Int32)) fl.val none) 4 fl.val (1 : Int32)) 5 fl.val (1 : Int32)) 6 fl.val (0 : Int32)) 7 fl.val (0 : Int32))))
abbrev rm_File_begin : Room := { frames := 0, cells := 0, slots := 0, locals := 0 }
set_option maxHeartbeats 4000000 in
set_option maxRecDepth 100000 in
theorem c_File_begin (l : Launch) (dC : Nat → ClassId) (dI : Nat → Nat → Nat) (kc : Nat → ClassId) (a : Nat → Nat) (sz : Nat) (d : DK) (fl : Fin 32) (ki : Int32) (hw : Int32) (d' : DK) (hres : sp_File_begin d fl ki hw = d') : Met l y_File_begin ws_File_begin rm_File_begin (va_Pc [.ref (a (fl.val + 3)), .int ki, .int hw] (ml_B (dC, dI) vwCl (tysD kc) 57 a (dcell kc a d) sz)) (va_Qv (fun (_ : Unit) => True) (fun _ t => ml_E (dC, dI) vwCl (tysD kc) 57 a (dcell kc a d') (va_A (ml 57 a (dcell kc a d)) sz) t) (va_A (ml 57 a (dcell kc a d)) sz)) 0 0 (va_A (ml 57 a (dcell kc a d)) sz) := by
  refine Met.ofW (cc := prog_3_method_2_code) (maxL := 3) (ret := (none : Option Jvm.ClassFile.FieldType)) (by decide) rfl ?_
  intro p e s m args below meth c s₁ B hml hv
  obtain ⟨rfl, hsz, hP, hK, hD0⟩ := hv
  have hx := B.exec
  have hb := B.bytes
  have hr := B.returns
  have hts := atoms_spec (ws := ws_File_begin) B.pre
  have hown : s.vm.findClass "HandleDesk$OpenFile" = some m.cls := findClass_of_methodNamed B.named
  have hlocks := B.notSynchronized
  subst hsz
  have hD := hD0.self (sz := s.heap.size)
  generalize hAe : va_A (ml 57 a (dcell kc a d)) s.heap.size = A at hD ⊢
  have hA : ∀ q : Nat, s.heap.size ≤ q → A q := fun q h => by rw [← hAe]; exact Or.inr h
  have hS : va_S A s.heap s.heap [] := va_S.rf
  have hl := lv_entry ([.ref (a (fl.val + 3)), .int ki, .int hw]) (n := 3) (Nat.le_of_ble_eq_true rfl)
  rw [lg_entry_eq]
  generalize (lg_sl ([.ref (a (fl.val + 3)), .int ki, .int hw]) ++ List.replicate (3 - (lg_sl ([.ref (a (fl.val + 3)), .int ki, .int hw])).length) Slot.unset).toArray = ls at hl ⊢
  have hl : lv_has ls 3 [(0, .ref (a (fl.val + 3))), (1, .int ki), (2, .int hw)] := hl
  rw [sp_File_begin] at hres
  refine lv_aload_n hx hb d_File_begin_0 rfl (lv_at hl 0 rfl) ?_
  refine lv_iload_n hx hb d_File_begin_1 rfl (lv_at hl 1 rfl) ?_
  refine ml_put (D := (dC, dI)) hx hb hts in_FC tyF tyF_ok nmF hown hK hP hD hS (fl.val + 3) (lt_file fl) (dc_file kc a d fl) rfl 1 (by decide) (hts _ (mC _ wd_25)) (fun _ h9 => h9) rfl (ty := .int) (by decide +kernel) rfl rfl (Nat.le_of_ble_eq_true rfl) (f' := (dcell kc a (sI d 2 fl.val ki))) (dw_2 fl ki) d_File_begin_2 (fun H locs hP hD hS => ?_)
  refine lv_aload_n hx hb d_File_begin_5 rfl (lv_at hl 0 rfl) ?_
  refine lv_iconst (v := 0) hx hb d_File_begin_6 (by decide) ?_
  refine ml_put (D := (dC, dI)) hx hb hts in_FC tyF tyF_ok nmF hown hK hP hD hS (fl.val + 3) (lt_file fl) (dc_file kc a (sI d 2 fl.val ki) fl) rfl 2 (by decide) (hts _ (mC _ wd_27)) (fun _ h9 => h9) rfl (ty := .int) (by decide +kernel) rfl rfl (Nat.le_of_ble_eq_true rfl) (f' := (dcell kc a (sI (sI d 2 fl.val ki) 3 fl.val (0 : Int32)))) (dw_3 fl (0 : Int32)) d_File_begin_7 (fun H locs hP hD hS => ?_)
  refine lv_aload_n hx hb d_File_begin_10 rfl (lv_at hl 0 rfl) ?_
  refine lv_null hx hb d_File_begin_11 ?_
  refine ml_put (D := (dC, dI)) hx hb hts in_FC tyF tyF_ok nmF hown hK hP hD hS (fl.val + 3) (lt_file fl) (dc_file kc a (sI (sI d 2 fl.val ki) 3 fl.val (0 : Int32)) fl) rfl 3 (by decide) (hts _ (mC _ wd_29)) (fun _ h9 => h9) rfl (ty := (.object "HandleDesk$Pipe")) (by decide +kernel) rfl rfl (Nat.le_of_ble_eq_true rfl) (f' := (dcell kc a (sR (sI (sI d 2 fl.val ki) 3 fl.val (0 : Int32)) fl.val none))) (dw_row fl none) d_File_begin_12 (fun H locs hP hD hS => ?_)
  refine lv_aload_n hx hb d_File_begin_15 rfl (lv_at hl 0 rfl) ?_
  refine lv_iload_n hx hb d_File_begin_16 rfl (lv_at hl 2 rfl) ?_
  refine lv_iconst (v := 1) hx hb d_File_begin_17 (by decide) ?_
  refine lv_iand hx hb d_File_begin_18 ?_
  refine lv_if_eq (tgt := 26) hx hb d_File_begin_19 (by decide) (fun h_1 => ?_) (fun h_1 => ?_)
  · rw [if_pos h_1] at hres
    refine lv_iconst (v := 0) hx hb d_File_begin_26 (by decide) ?_
    refine ml_put (D := (dC, dI)) hx hb hts in_FC tyF tyF_ok nmF hown hK hP hD hS (fl.val + 3) (lt_file fl) (dc_file kc a (sR (sI (sI d 2 fl.val ki) 3 fl.val (0 : Int32)) fl.val none) fl) rfl 4 (by decide) (hts _ (mC _ wd_31)) (fun _ h9 => h9) rfl (ty := .boolean) (by decide +kernel) rfl rfl (Nat.le_of_ble_eq_true rfl) (f' := (dcell kc a (sI (sR (sI (sI d 2 fl.val ki) 3 fl.val (0 : Int32)) fl.val none) 4 fl.val (0 : Int32)))) (dw_4 fl (0 : Int32)) d_File_begin_27 (fun H locs hP hD hS => ?_)
    refine lv_aload_n hx hb d_File_begin_30 rfl (lv_at hl 0 rfl) ?_
    refine lv_iload_n hx hb d_File_begin_31 rfl (lv_at hl 2 rfl) ?_
    refine lv_iconst (v := 2) hx hb d_File_begin_32 (by decide) ?_
    refine lv_iand hx hb d_File_begin_33 ?_
    refine lv_if_eq (tgt := 41) hx hb d_File_begin_34 (by decide) (fun h_2 => ?_) (fun h_2 => ?_)
    · rw [if_pos h_2] at hres
      refine lv_iconst (v := 0) hx hb d_File_begin_41 (by decide) ?_
      refine ml_put (D := (dC, dI)) hx hb hts in_FC tyF tyF_ok nmF hown hK hP hD hS (fl.val + 3) (lt_file fl) (dc_file kc a (sI (sR (sI (sI d 2 fl.val ki) 3 fl.val (0 : Int32)) fl.val none) 4 fl.val (0 : Int32)) fl) rfl 5 (by decide) (hts _ (mC _ wd_33)) (fun _ h9 => h9) rfl (ty := .boolean) (by decide +kernel) rfl rfl (Nat.le_of_ble_eq_true rfl) (f' := (dcell kc a (sI (sI (sR (sI (sI d 2 fl.val ki) 3 fl.val (0 : Int32)) fl.val none) 4 fl.val (0 : Int32)) 5 fl.val (0 : Int32)))) (dw_5 fl (0 : Int32)) d_File_begin_42 (fun H locs hP hD hS => ?_)
      refine lv_aload_n hx hb d_File_begin_45 rfl (lv_at hl 0 rfl) ?_
      refine lv_iconst (v := 0) hx hb d_File_begin_46 (by decide) ?_
      refine ml_put (D := (dC, dI)) hx hb hts in_FC tyF tyF_ok nmF hown hK hP hD hS (fl.val + 3) (lt_file fl) (dc_file kc a (sI (sI (sR (sI (sI d 2 fl.val ki) 3 fl.val (0 : Int32)) fl.val none) 4 fl.val (0 : Int32)) 5 fl.val (0 : Int32)) fl) rfl 6 (by decide) (hts _ (mC _ wd_35)) (fun _ h9 => h9) rfl (ty := .int) (by decide +kernel) rfl rfl (Nat.le_of_ble_eq_true rfl) (f' := (dcell kc a (sI (sI (sI (sR (sI (sI d 2 fl.val ki) 3 fl.val (0 : Int32)) fl.val none) 4 fl.val (0 : Int32)) 5 fl.val (0 : Int32)) 6 fl.val (0 : Int32)))) (dw_6 fl (0 : Int32)) d_File_begin_47 (fun H locs hP hD hS => ?_)
      refine lv_aload_n hx hb d_File_begin_50 rfl (lv_at hl 0 rfl) ?_
      refine lv_iconst (v := 0) hx hb d_File_begin_51 (by decide) ?_
      refine ml_put (D := (dC, dI)) hx hb hts in_FC tyF tyF_ok nmF hown hK hP hD hS (fl.val + 3) (lt_file fl) (dc_file kc a (sI (sI (sI (sR (sI (sI d 2 fl.val ki) 3 fl.val (0 : Int32)) fl.val none) 4 fl.val (0 : Int32)) 5 fl.val (0 : Int32)) 6 fl.val (0 : Int32)) fl) rfl 7 (by decide) (hts _ (mC _ wd_37)) (fun _ h9 => h9) rfl (ty := .int) (by decide +kernel) rfl rfl (Nat.le_of_ble_eq_true rfl) (f' := (dcell kc a (sI (sI (sI (sI (sR (sI (sI d 2 fl.val ki) 3 fl.val (0 : Int32)) fl.val none) 4 fl.val (0 : Int32)) 5 fl.val (0 : Int32)) 6 fl.val (0 : Int32)) 7 fl.val (0 : Int32)))) (dw_7 fl (0 : Int32)) d_File_begin_52 (fun H locs hP hD hS => ?_)
      subst hres
      exact ml_vret hx hb hr hlocks hP hK hD hS d_File_begin_55
    · rw [if_neg h_2] at hres
      refine lv_iconst (v := 1) hx hb d_File_begin_37 (by decide) ?_
      refine lv_goto (tgt := 42) hx hb d_File_begin_38 (by decide) ?_
      refine ml_put (D := (dC, dI)) hx hb hts in_FC tyF tyF_ok nmF hown hK hP hD hS (fl.val + 3) (lt_file fl) (dc_file kc a (sI (sR (sI (sI d 2 fl.val ki) 3 fl.val (0 : Int32)) fl.val none) 4 fl.val (0 : Int32)) fl) rfl 5 (by decide) (hts _ (mC _ wd_33)) (fun _ h9 => h9) rfl (ty := .boolean) (by decide +kernel) rfl rfl (Nat.le_of_ble_eq_true rfl) (f' := (dcell kc a (sI (sI (sR (sI (sI d 2 fl.val ki) 3 fl.val (0 : Int32)) fl.val none) 4 fl.val (0 : Int32)) 5 fl.val (1 : Int32)))) (dw_5 fl (1 : Int32)) d_File_begin_42 (fun H locs hP hD hS => ?_)
      refine lv_aload_n hx hb d_File_begin_45 rfl (lv_at hl 0 rfl) ?_
      refine lv_iconst (v := 0) hx hb d_File_begin_46 (by decide) ?_
      refine ml_put (D := (dC, dI)) hx hb hts in_FC tyF tyF_ok nmF hown hK hP hD hS (fl.val + 3) (lt_file fl) (dc_file kc a (sI (sI (sR (sI (sI d 2 fl.val ki) 3 fl.val (0 : Int32)) fl.val none) 4 fl.val (0 : Int32)) 5 fl.val (1 : Int32)) fl) rfl 6 (by decide) (hts _ (mC _ wd_35)) (fun _ h9 => h9) rfl (ty := .int) (by decide +kernel) rfl rfl (Nat.le_of_ble_eq_true rfl) (f' := (dcell kc a (sI (sI (sI (sR (sI (sI d 2 fl.val ki) 3 fl.val (0 : Int32)) fl.val none) 4 fl.val (0 : Int32)) 5 fl.val (1 : Int32)) 6 fl.val (0 : Int32)))) (dw_6 fl (0 : Int32)) d_File_begin_47 (fun H locs hP hD hS => ?_)
      refine lv_aload_n hx hb d_File_begin_50 rfl (lv_at hl 0 rfl) ?_
      refine lv_iconst (v := 0) hx hb d_File_begin_51 (by decide) ?_
      refine ml_put (D := (dC, dI)) hx hb hts in_FC tyF tyF_ok nmF hown hK hP hD hS (fl.val + 3) (lt_file fl) (dc_file kc a (sI (sI (sI (sR (sI (sI d 2 fl.val ki) 3 fl.val (0 : Int32)) fl.val none) 4 fl.val (0 : Int32)) 5 fl.val (1 : Int32)) 6 fl.val (0 : Int32)) fl) rfl 7 (by decide) (hts _ (mC _ wd_37)) (fun _ h9 => h9) rfl (ty := .int) (by decide +kernel) rfl rfl (Nat.le_of_ble_eq_true rfl) (f' := (dcell kc a (sI (sI (sI (sI (sR (sI (sI d 2 fl.val ki) 3 fl.val (0 : Int32)) fl.val none) 4 fl.val (0 : Int32)) 5 fl.val (1 : Int32)) 6 fl.val (0 : Int32)) 7 fl.val (0 : Int32)))) (dw_7 fl (0 : Int32)) d_File_begin_52 (fun H locs hP hD hS => ?_)
      subst hres
      exact ml_vret hx hb hr hlocks hP hK hD hS d_File_begin_55
  · rw [if_neg h_1] at hres
    refine lv_iconst (v := 1) hx hb d_File_begin_22 (by decide) ?_
    refine lv_goto (tgt := 27) hx hb d_File_begin_23 (by decide) ?_
    refine ml_put (D := (dC, dI)) hx hb hts in_FC tyF tyF_ok nmF hown hK hP hD hS (fl.val + 3) (lt_file fl) (dc_file kc a (sR (sI (sI d 2 fl.val ki) 3 fl.val (0 : Int32)) fl.val none) fl) rfl 4 (by decide) (hts _ (mC _ wd_31)) (fun _ h9 => h9) rfl (ty := .boolean) (by decide +kernel) rfl rfl (Nat.le_of_ble_eq_true rfl) (f' := (dcell kc a (sI (sR (sI (sI d 2 fl.val ki) 3 fl.val (0 : Int32)) fl.val none) 4 fl.val (1 : Int32)))) (dw_4 fl (1 : Int32)) d_File_begin_27 (fun H locs hP hD hS => ?_)
    refine lv_aload_n hx hb d_File_begin_30 rfl (lv_at hl 0 rfl) ?_
    refine lv_iload_n hx hb d_File_begin_31 rfl (lv_at hl 2 rfl) ?_
    refine lv_iconst (v := 2) hx hb d_File_begin_32 (by decide) ?_
    refine lv_iand hx hb d_File_begin_33 ?_
    refine lv_if_eq (tgt := 41) hx hb d_File_begin_34 (by decide) (fun h_3 => ?_) (fun h_3 => ?_)
    · rw [if_pos h_3] at hres
      refine lv_iconst (v := 0) hx hb d_File_begin_41 (by decide) ?_
      refine ml_put (D := (dC, dI)) hx hb hts in_FC tyF tyF_ok nmF hown hK hP hD hS (fl.val + 3) (lt_file fl) (dc_file kc a (sI (sR (sI (sI d 2 fl.val ki) 3 fl.val (0 : Int32)) fl.val none) 4 fl.val (1 : Int32)) fl) rfl 5 (by decide) (hts _ (mC _ wd_33)) (fun _ h9 => h9) rfl (ty := .boolean) (by decide +kernel) rfl rfl (Nat.le_of_ble_eq_true rfl) (f' := (dcell kc a (sI (sI (sR (sI (sI d 2 fl.val ki) 3 fl.val (0 : Int32)) fl.val none) 4 fl.val (1 : Int32)) 5 fl.val (0 : Int32)))) (dw_5 fl (0 : Int32)) d_File_begin_42 (fun H locs hP hD hS => ?_)
      refine lv_aload_n hx hb d_File_begin_45 rfl (lv_at hl 0 rfl) ?_
      refine lv_iconst (v := 0) hx hb d_File_begin_46 (by decide) ?_
      refine ml_put (D := (dC, dI)) hx hb hts in_FC tyF tyF_ok nmF hown hK hP hD hS (fl.val + 3) (lt_file fl) (dc_file kc a (sI (sI (sR (sI (sI d 2 fl.val ki) 3 fl.val (0 : Int32)) fl.val none) 4 fl.val (1 : Int32)) 5 fl.val (0 : Int32)) fl) rfl 6 (by decide) (hts _ (mC _ wd_35)) (fun _ h9 => h9) rfl (ty := .int) (by decide +kernel) rfl rfl (Nat.le_of_ble_eq_true rfl) (f' := (dcell kc a (sI (sI (sI (sR (sI (sI d 2 fl.val ki) 3 fl.val (0 : Int32)) fl.val none) 4 fl.val (1 : Int32)) 5 fl.val (0 : Int32)) 6 fl.val (0 : Int32)))) (dw_6 fl (0 : Int32)) d_File_begin_47 (fun H locs hP hD hS => ?_)
      refine lv_aload_n hx hb d_File_begin_50 rfl (lv_at hl 0 rfl) ?_
      refine lv_iconst (v := 0) hx hb d_File_begin_51 (by decide) ?_
      refine ml_put (D := (dC, dI)) hx hb hts in_FC tyF tyF_ok nmF hown hK hP hD hS (fl.val + 3) (lt_file fl) (dc_file kc a (sI (sI (sI (sR (sI (sI d 2 fl.val ki) 3 fl.val (0 : Int32)) fl.val none) 4 fl.val (1 : Int32)) 5 fl.val (0 : Int32)) 6 fl.val (0 : Int32)) fl) rfl 7 (by decide) (hts _ (mC _ wd_37)) (fun _ h9 => h9) rfl (ty := .int) (by decide +kernel) rfl rfl (Nat.le_of_ble_eq_true rfl) (f' := (dcell kc a (sI (sI (sI (sI (sR (sI (sI d 2 fl.val ki) 3 fl.val (0 : Int32)) fl.val none) 4 fl.val (1 : Int32)) 5 fl.val (0 : Int32)) 6 fl.val (0 : Int32)) 7 fl.val (0 : Int32)))) (dw_7 fl (0 : Int32)) d_File_begin_52 (fun H locs hP hD hS => ?_)
      subst hres
      exact ml_vret hx hb hr hlocks hP hK hD hS d_File_begin_55
    · rw [if_neg h_3] at hres
      refine lv_iconst (v := 1) hx hb d_File_begin_37 (by decide) ?_
      refine lv_goto (tgt := 42) hx hb d_File_begin_38 (by decide) ?_
      refine ml_put (D := (dC, dI)) hx hb hts in_FC tyF tyF_ok nmF hown hK hP hD hS (fl.val + 3) (lt_file fl) (dc_file kc a (sI (sR (sI (sI d 2 fl.val ki) 3 fl.val (0 : Int32)) fl.val none) 4 fl.val (1 : Int32)) fl) rfl 5 (by decide) (hts _ (mC _ wd_33)) (fun _ h9 => h9) rfl (ty := .boolean) (by decide +kernel) rfl rfl (Nat.le_of_ble_eq_true rfl) (f' := (dcell kc a (sI (sI (sR (sI (sI d 2 fl.val ki) 3 fl.val (0 : Int32)) fl.val none) 4 fl.val (1 : Int32)) 5 fl.val (1 : Int32)))) (dw_5 fl (1 : Int32)) d_File_begin_42 (fun H locs hP hD hS => ?_)
      refine lv_aload_n hx hb d_File_begin_45 rfl (lv_at hl 0 rfl) ?_
      refine lv_iconst (v := 0) hx hb d_File_begin_46 (by decide) ?_
      refine ml_put (D := (dC, dI)) hx hb hts in_FC tyF tyF_ok nmF hown hK hP hD hS (fl.val + 3) (lt_file fl) (dc_file kc a (sI (sI (sR (sI (sI d 2 fl.val ki) 3 fl.val (0 : Int32)) fl.val none) 4 fl.val (1 : Int32)) 5 fl.val (1 : Int32)) fl) rfl 6 (by decide) (hts _ (mC _ wd_35)) (fun _ h9 => h9) rfl (ty := .int) (by decide +kernel) rfl rfl (Nat.le_of_ble_eq_true rfl) (f' := (dcell kc a (sI (sI (sI (sR (sI (sI d 2 fl.val ki) 3 fl.val (0 : Int32)) fl.val none) 4 fl.val (1 : Int32)) 5 fl.val (1 : Int32)) 6 fl.val (0 : Int32)))) (dw_6 fl (0 : Int32)) d_File_begin_47 (fun H locs hP hD hS => ?_)
      refine lv_aload_n hx hb d_File_begin_50 rfl (lv_at hl 0 rfl) ?_
      refine lv_iconst (v := 0) hx hb d_File_begin_51 (by decide) ?_
      refine ml_put (D := (dC, dI)) hx hb hts in_FC tyF tyF_ok nmF hown hK hP hD hS (fl.val + 3) (lt_file fl) (dc_file kc a (sI (sI (sI (sR (sI (sI d 2 fl.val ki) 3 fl.val (0 : Int32)) fl.val none) 4 fl.val (1 : Int32)) 5 fl.val (1 : Int32)) 6 fl.val (0 : Int32)) fl) rfl 7 (by decide) (hts _ (mC _ wd_37)) (fun _ h9 => h9) rfl (ty := .int) (by decide +kernel) rfl rfl (Nat.le_of_ble_eq_true rfl) (f' := (dcell kc a (sI (sI (sI (sI (sR (sI (sI d 2 fl.val ki) 3 fl.val (0 : Int32)) fl.val none) 4 fl.val (1 : Int32)) 5 fl.val (1 : Int32)) 6 fl.val (0 : Int32)) 7 fl.val (0 : Int32)))) (dw_7 fl (0 : Int32)) d_File_begin_52 (fun H locs hP hD hS => ?_)
      subst hres
      exact ml_vret hx hb hr hlocks hP hK hD hS d_File_begin_55
def sp_Pipe_begin (d : DK) (pk : Fin 8) : DK :=
  (sI (sI (sI (sI d 8 pk.val (0 : Int32)) 9 pk.val (0 : Int32)) 10 pk.val (1 : Int32)) 11 pk.val (1 : Int32))
abbrev rm_Pipe_begin : Room := { frames := 0, cells := 0, slots := 0, locals := 0 }
set_option maxHeartbeats 4000000 in
set_option maxRecDepth 100000 in
theorem c_Pipe_begin (l : Launch) (dC : Nat → ClassId) (dI : Nat → Nat → Nat) (kc : Nat → ClassId) (a : Nat → Nat) (sz : Nat) (d : DK) (pk : Fin 8) (d' : DK) (hres : sp_Pipe_begin d pk = d') : Met l y_Pipe_begin ws_Pipe_begin rm_Pipe_begin (va_Pc [.ref (a (2 * pk.val + 36))] (ml_B (dC, dI) vwCl (tysD kc) 57 a (dcell kc a d) sz)) (va_Qv (fun (_ : Unit) => True) (fun _ t => ml_E (dC, dI) vwCl (tysD kc) 57 a (dcell kc a d') (va_A (ml 57 a (dcell kc a d)) sz) t) (va_A (ml 57 a (dcell kc a d)) sz)) 0 0 (va_A (ml 57 a (dcell kc a d)) sz) := by
  refine Met.ofW (cc := prog_4_method_2_code) (maxL := 1) (ret := (none : Option Jvm.ClassFile.FieldType)) (by decide) rfl ?_
  intro p e s m args below meth c s₁ B hml hv
  obtain ⟨rfl, hsz, hP, hK, hD0⟩ := hv
  have hx := B.exec
  have hb := B.bytes
  have hr := B.returns
  have hts := atoms_spec (ws := ws_Pipe_begin) B.pre
  have hown : s.vm.findClass "HandleDesk$Pipe" = some m.cls := findClass_of_methodNamed B.named
  have hlocks := B.notSynchronized
  subst hsz
  have hD := hD0.self (sz := s.heap.size)
  generalize hAe : va_A (ml 57 a (dcell kc a d)) s.heap.size = A at hD ⊢
  have hA : ∀ q : Nat, s.heap.size ≤ q → A q := fun q h => by rw [← hAe]; exact Or.inr h
  have hS : va_S A s.heap s.heap [] := va_S.rf
  have hl := lv_entry ([.ref (a (2 * pk.val + 36))]) (n := 1) (Nat.le_of_ble_eq_true rfl)
  rw [lg_entry_eq]
  generalize (lg_sl ([.ref (a (2 * pk.val + 36))]) ++ List.replicate (1 - (lg_sl ([.ref (a (2 * pk.val + 36))])).length) Slot.unset).toArray = ls at hl ⊢
  have hl : lv_has ls 1 [(0, .ref (a (2 * pk.val + 36)))] := hl
  rw [sp_Pipe_begin] at hres
  refine lv_aload_n hx hb d_Pipe_begin_0 rfl (lv_at hl 0 rfl) ?_
  refine lv_iconst (v := 0) hx hb d_Pipe_begin_1 (by decide) ?_
  refine ml_put (D := (dC, dI)) hx hb hts in_PC tyP tyP_ok nmP hown hK hP hD hS (2 * pk.val + 36) (lt_pipe pk) (dc_pipe kc a d pk) rfl 2 (by decide) (hts _ (mC _ wd_66)) (fun _ h9 => h9) rfl (ty := .int) (by decide +kernel) rfl rfl (Nat.le_of_ble_eq_true rfl) (f' := (dcell kc a (sI d 8 pk.val (0 : Int32)))) (dw_8 pk (0 : Int32)) d_Pipe_begin_2 (fun H locs hP hD hS => ?_)
  refine lv_aload_n hx hb d_Pipe_begin_5 rfl (lv_at hl 0 rfl) ?_
  refine lv_iconst (v := 0) hx hb d_Pipe_begin_6 (by decide) ?_
  refine ml_put (D := (dC, dI)) hx hb hts in_PC tyP tyP_ok nmP hown hK hP hD hS (2 * pk.val + 36) (lt_pipe pk) (dc_pipe kc a (sI d 8 pk.val (0 : Int32)) pk) rfl 3 (by decide) (hts _ (mC _ wd_67)) (fun _ h9 => h9) rfl (ty := .int) (by decide +kernel) rfl rfl (Nat.le_of_ble_eq_true rfl) (f' := (dcell kc a (sI (sI d 8 pk.val (0 : Int32)) 9 pk.val (0 : Int32)))) (dw_9 pk (0 : Int32)) d_Pipe_begin_7 (fun H locs hP hD hS => ?_)
  refine lv_aload_n hx hb d_Pipe_begin_10 rfl (lv_at hl 0 rfl) ?_
  refine lv_iconst (v := 1) hx hb d_Pipe_begin_11 (by decide) ?_
  refine ml_put (D := (dC, dI)) hx hb hts in_PC tyP tyP_ok nmP hown hK hP hD hS (2 * pk.val + 36) (lt_pipe pk) (dc_pipe kc a (sI (sI d 8 pk.val (0 : Int32)) 9 pk.val (0 : Int32)) pk) rfl 4 (by decide) (hts _ (mC _ wd_69)) (fun _ h9 => h9) rfl (ty := .boolean) (by decide +kernel) rfl rfl (Nat.le_of_ble_eq_true rfl) (f' := (dcell kc a (sI (sI (sI d 8 pk.val (0 : Int32)) 9 pk.val (0 : Int32)) 10 pk.val (1 : Int32)))) (dw_10 pk (1 : Int32)) d_Pipe_begin_12 (fun H locs hP hD hS => ?_)
  refine lv_aload_n hx hb d_Pipe_begin_15 rfl (lv_at hl 0 rfl) ?_
  refine lv_iconst (v := 1) hx hb d_Pipe_begin_16 (by decide) ?_
  refine ml_put (D := (dC, dI)) hx hb hts in_PC tyP tyP_ok nmP hown hK hP hD hS (2 * pk.val + 36) (lt_pipe pk) (dc_pipe kc a (sI (sI (sI d 8 pk.val (0 : Int32)) 9 pk.val (0 : Int32)) 10 pk.val (1 : Int32)) pk) rfl 5 (by decide) (hts _ (mC _ wd_71)) (fun _ h9 => h9) rfl (ty := .boolean) (by decide +kernel) rfl rfl (Nat.le_of_ble_eq_true rfl) (f' := (dcell kc a (sI (sI (sI (sI d 8 pk.val (0 : Int32)) 9 pk.val (0 : Int32)) 10 pk.val (1 : Int32)) 11 pk.val (1 : Int32)))) (dw_11 pk (1 : Int32)) d_Pipe_begin_17 (fun H locs hP hD hS => ?_)
  subst hres
  exact ml_vret hx hb hr hlocks hP hK hD hS d_Pipe_begin_20
def sp_Pipe_isGone (d : DK) (pk : Fin 8) : Int32 :=
  (if d.1 10 pk.val = (0 : Int32) then (if d.1 11 pk.val = (0 : Int32) then (1 : Int32) else (0 : Int32)) else (0 : Int32))
abbrev rm_Pipe_isGone : Room := { frames := 0, cells := 0, slots := 0, locals := 0 }
set_option maxHeartbeats 4000000 in
set_option maxRecDepth 100000 in
theorem c_Pipe_isGone (l : Launch) (dC : Nat → ClassId) (dI : Nat → Nat → Nat) (kc : Nat → ClassId) (a : Nat → Nat) (sz : Nat) (d : DK) (pk : Fin 8) (R' : Int32) (hres : sp_Pipe_isGone d pk = R') : Met l y_Pipe_isGone ws_Pipe_isGone rm_Pipe_isGone (va_Pc [.ref (a (2 * pk.val + 36))] (ml_B (dC, dI) vwCl (tysD kc) 57 a (dcell kc a d) sz)) (va_Qi (fun r (_ : Unit) => r = R') (fun _ t => ml_E (dC, dI) vwCl (tysD kc) 57 a (dcell kc a d) (va_A (ml 57 a (dcell kc a d)) sz) t) (va_A (ml 57 a (dcell kc a d)) sz)) 0 0 (va_A (ml 57 a (dcell kc a d)) sz) := by
  refine Met.ofW (cc := prog_4_method_3_code) (maxL := 1) (ret := (some .boolean)) (by decide) rfl ?_
  intro p e s m args below meth c s₁ B hml hv
  obtain ⟨rfl, hsz, hP, hK, hD0⟩ := hv
  have hx := B.exec
  have hb := B.bytes
  have hr := B.returns
  have hts := atoms_spec (ws := ws_Pipe_isGone) B.pre
  have hown : s.vm.findClass "HandleDesk$Pipe" = some m.cls := findClass_of_methodNamed B.named
  have hlocks := B.notSynchronized
  subst hsz
  have hD := hD0.self (sz := s.heap.size)
  generalize hAe : va_A (ml 57 a (dcell kc a d)) s.heap.size = A at hD ⊢
  have hA : ∀ q : Nat, s.heap.size ≤ q → A q := fun q h => by rw [← hAe]; exact Or.inr h
  have hS : va_S A s.heap s.heap [] := va_S.rf
  have hl := lv_entry ([.ref (a (2 * pk.val + 36))]) (n := 1) (Nat.le_of_ble_eq_true rfl)
  rw [lg_entry_eq]
  generalize (lg_sl ([.ref (a (2 * pk.val + 36))]) ++ List.replicate (1 - (lg_sl ([.ref (a (2 * pk.val + 36))])).length) Slot.unset).toArray = ls at hl ⊢
  have hl : lv_has ls 1 [(0, .ref (a (2 * pk.val + 36)))] := hl
  rw [sp_Pipe_isGone] at hres
  refine lv_aload_n hx hb d_Pipe_isGone_0 rfl (lv_at hl 0 rfl) ?_
  refine ml_get (D := (dC, dI)) hx hb hts in_PC hown hK hP (2 * pk.val + 36) (lt_pipe pk) (dc_pipe kc a d pk) rfl 4 (by decide) (hts _ (mC _ wd_69)) (fun _ h9 => h9) (v := .int (d.1 10 pk.val)) rfl d_Pipe_isGone_1 ?_
  refine lv_if_ne (tgt := 18) hx hb d_Pipe_isGone_4 (by decide) (fun h_1 => ?_) (fun h_1 => ?_)
  · rw [if_neg h_1] at hres
    refine lv_iconst (v := 0) hx hb d_Pipe_isGone_18 (by decide) ?_
    subst hres
    exact ml_zret hx hb hr (by decide) hlocks hP hK hD hS d_Pipe_isGone_19
  · rw [if_pos h_1] at hres
    refine lv_aload_n hx hb d_Pipe_isGone_7 rfl (lv_at hl 0 rfl) ?_
    refine ml_get (D := (dC, dI)) hx hb hts in_PC hown hK hP (2 * pk.val + 36) (lt_pipe pk) (dc_pipe kc a d pk) rfl 5 (by decide) (hts _ (mC _ wd_71)) (fun _ h9 => h9) (v := .int (d.1 11 pk.val)) rfl d_Pipe_isGone_8 ?_
    refine lv_if_ne (tgt := 18) hx hb d_Pipe_isGone_11 (by decide) (fun h_2 => ?_) (fun h_2 => ?_)
    · rw [if_neg h_2] at hres
      refine lv_iconst (v := 0) hx hb d_Pipe_isGone_18 (by decide) ?_
      subst hres
      exact ml_zret hx hb hr (by decide) hlocks hP hK hD hS d_Pipe_isGone_19
    · rw [if_pos h_2] at hres
      refine lv_iconst (v := 1) hx hb d_Pipe_isGone_14 (by decide) ?_
      refine lv_goto (tgt := 19) hx hb d_Pipe_isGone_15 (by decide) ?_
      subst hres
      exact ml_zret hx hb hr (by decide) hlocks hP hK hD hS d_Pipe_isGone_19
def sp_Pipe_isFull (d : DK) (pk : Fin 8) : Int32 :=
  (if (d.1 9 pk.val) < (512 : Int32) then (0 : Int32) else (1 : Int32))
abbrev rm_Pipe_isFull : Room := { frames := 0, cells := 0, slots := 0, locals := 0 }
set_option maxHeartbeats 4000000 in
set_option maxRecDepth 100000 in
theorem c_Pipe_isFull (l : Launch) (dC : Nat → ClassId) (dI : Nat → Nat → Nat) (kc : Nat → ClassId) (a : Nat → Nat) (sz : Nat) (d : DK) (pk : Fin 8) (R' : Int32) (hres : sp_Pipe_isFull d pk = R') : Met l y_Pipe_isFull ws_Pipe_isFull rm_Pipe_isFull (va_Pc [.ref (a (2 * pk.val + 36))] (ml_B (dC, dI) vwCl (tysD kc) 57 a (dcell kc a d) sz)) (va_Qi (fun r (_ : Unit) => r = R') (fun _ t => ml_E (dC, dI) vwCl (tysD kc) 57 a (dcell kc a d) (va_A (ml 57 a (dcell kc a d)) sz) t) (va_A (ml 57 a (dcell kc a d)) sz)) 0 0 (va_A (ml 57 a (dcell kc a d)) sz) := by
  refine Met.ofW (cc := prog_4_method_4_code) (maxL := 1) (ret := (some .boolean)) (by decide) rfl ?_
  intro p e s m args below meth c s₁ B hml hv
  obtain ⟨rfl, hsz, hP, hK, hD0⟩ := hv
  have hx := B.exec
  have hb := B.bytes
  have hr := B.returns
  have hts := atoms_spec (ws := ws_Pipe_isFull) B.pre
  have hown : s.vm.findClass "HandleDesk$Pipe" = some m.cls := findClass_of_methodNamed B.named
  have hlocks := B.notSynchronized
  subst hsz
  have hD := hD0.self (sz := s.heap.size)
  generalize hAe : va_A (ml 57 a (dcell kc a d)) s.heap.size = A at hD ⊢
  have hA : ∀ q : Nat, s.heap.size ≤ q → A q := fun q h => by rw [← hAe]; exact Or.inr h
  have hS : va_S A s.heap s.heap [] := va_S.rf
  have hl := lv_entry ([.ref (a (2 * pk.val + 36))]) (n := 1) (Nat.le_of_ble_eq_true rfl)
  rw [lg_entry_eq]
  generalize (lg_sl ([.ref (a (2 * pk.val + 36))]) ++ List.replicate (1 - (lg_sl ([.ref (a (2 * pk.val + 36))])).length) Slot.unset).toArray = ls at hl ⊢
  have hl : lv_has ls 1 [(0, .ref (a (2 * pk.val + 36)))] := hl
  rw [sp_Pipe_isFull] at hres
  refine lv_aload_n hx hb d_Pipe_isFull_0 rfl (lv_at hl 0 rfl) ?_
  refine ml_get (D := (dC, dI)) hx hb hts in_PC hown hK hP (2 * pk.val + 36) (lt_pipe pk) (dc_pipe kc a d pk) rfl 3 (by decide) (hts _ (mC _ wd_67)) (fun _ h9 => h9) (v := .int (d.1 9 pk.val)) rfl d_Pipe_isFull_1 ?_
  refine lv_sipush (v := 512) hx hb d_Pipe_isFull_4 (by decide) ?_
  refine lv_icmp_lt (tgt := 14) hx hb d_Pipe_isFull_7 (by decide) (fun h_1 => ?_) (fun h_1 => ?_)
  · rw [if_pos h_1] at hres
    refine lv_iconst (v := 0) hx hb d_Pipe_isFull_14 (by decide) ?_
    subst hres
    exact ml_zret hx hb hr (by decide) hlocks hP hK hD hS d_Pipe_isFull_15
  · rw [if_neg h_1] at hres
    refine lv_iconst (v := 1) hx hb d_Pipe_isFull_10 (by decide) ?_
    refine lv_goto (tgt := 15) hx hb d_Pipe_isFull_11 (by decide) ?_
    subst hres
    exact ml_zret hx hb hr (by decide) hlocks hP hK hD hS d_Pipe_isFull_15
def sp_Pipe_endClosed (d : DK) (pk : Fin 8) (bt : Int32) : DK :=
  (if bt = (0 : Int32) then (sI d 11 pk.val (0 : Int32)) else (sI d 10 pk.val (0 : Int32)))
abbrev rm_Pipe_endClosed : Room := { frames := 0, cells := 0, slots := 0, locals := 0 }
set_option maxHeartbeats 4000000 in
set_option maxRecDepth 100000 in
theorem c_Pipe_endClosed (l : Launch) (dC : Nat → ClassId) (dI : Nat → Nat → Nat) (kc : Nat → ClassId) (a : Nat → Nat) (sz : Nat) (d : DK) (pk : Fin 8) (bt : Int32) (d' : DK) (hres : sp_Pipe_endClosed d pk bt = d') : Met l y_Pipe_endClosed ws_Pipe_endClosed rm_Pipe_endClosed (va_Pc [.ref (a (2 * pk.val + 36)), .int bt] (ml_B (dC, dI) vwCl (tysD kc) 57 a (dcell kc a d) sz)) (va_Qv (fun (_ : Unit) => True) (fun _ t => ml_E (dC, dI) vwCl (tysD kc) 57 a (dcell kc a d') (va_A (ml 57 a (dcell kc a d)) sz) t) (va_A (ml 57 a (dcell kc a d)) sz)) 0 0 (va_A (ml 57 a (dcell kc a d)) sz) := by
  refine Met.ofW (cc := prog_4_method_5_code) (maxL := 2) (ret := (none : Option Jvm.ClassFile.FieldType)) (by decide) rfl ?_
  intro p e s m args below meth c s₁ B hml hv
  obtain ⟨rfl, hsz, hP, hK, hD0⟩ := hv
  have hx := B.exec
  have hb := B.bytes
  have hr := B.returns
  have hts := atoms_spec (ws := ws_Pipe_endClosed) B.pre
  have hown : s.vm.findClass "HandleDesk$Pipe" = some m.cls := findClass_of_methodNamed B.named
  have hlocks := B.notSynchronized
  subst hsz
  have hD := hD0.self (sz := s.heap.size)
  generalize hAe : va_A (ml 57 a (dcell kc a d)) s.heap.size = A at hD ⊢
  have hA : ∀ q : Nat, s.heap.size ≤ q → A q := fun q h => by rw [← hAe]; exact Or.inr h
  have hS : va_S A s.heap s.heap [] := va_S.rf
  have hl := lv_entry ([.ref (a (2 * pk.val + 36)), .int bt]) (n := 2) (Nat.le_of_ble_eq_true rfl)
  rw [lg_entry_eq]
  generalize (lg_sl ([.ref (a (2 * pk.val + 36)), .int bt]) ++ List.replicate (2 - (lg_sl ([.ref (a (2 * pk.val + 36)), .int bt])).length) Slot.unset).toArray = ls at hl ⊢
  have hl : lv_has ls 2 [(0, .ref (a (2 * pk.val + 36))), (1, .int bt)] := hl
  rw [sp_Pipe_endClosed] at hres
  refine lv_iload_n hx hb d_Pipe_endClosed_0 rfl (lv_at hl 1 rfl) ?_
  refine lv_if_eq (tgt := 12) hx hb d_Pipe_endClosed_1 (by decide) (fun h_1 => ?_) (fun h_1 => ?_)
  · rw [if_pos h_1] at hres
    refine lv_aload_n hx hb d_Pipe_endClosed_12 rfl (lv_at hl 0 rfl) ?_
    refine lv_iconst (v := 0) hx hb d_Pipe_endClosed_13 (by decide) ?_
    refine ml_put (D := (dC, dI)) hx hb hts in_PC tyP tyP_ok nmP hown hK hP hD hS (2 * pk.val + 36) (lt_pipe pk) (dc_pipe kc a d pk) rfl 5 (by decide) (hts _ (mC _ wd_71)) (fun _ h9 => h9) rfl (ty := .boolean) (by decide +kernel) rfl rfl (Nat.le_of_ble_eq_true rfl) (f' := (dcell kc a (sI d 11 pk.val (0 : Int32)))) (dw_11 pk (0 : Int32)) d_Pipe_endClosed_14 (fun H locs hP hD hS => ?_)
    subst hres
    exact ml_vret hx hb hr hlocks hP hK hD hS d_Pipe_endClosed_17
  · rw [if_neg h_1] at hres
    refine lv_aload_n hx hb d_Pipe_endClosed_4 rfl (lv_at hl 0 rfl) ?_
    refine lv_iconst (v := 0) hx hb d_Pipe_endClosed_5 (by decide) ?_
    refine ml_put (D := (dC, dI)) hx hb hts in_PC tyP tyP_ok nmP hown hK hP hD hS (2 * pk.val + 36) (lt_pipe pk) (dc_pipe kc a d pk) rfl 4 (by decide) (hts _ (mC _ wd_69)) (fun _ h9 => h9) rfl (ty := .boolean) (by decide +kernel) rfl rfl (Nat.le_of_ble_eq_true rfl) (f' := (dcell kc a (sI d 10 pk.val (0 : Int32)))) (dw_10 pk (0 : Int32)) d_Pipe_endClosed_6 (fun H locs hP hD hS => ?_)
    refine lv_goto (tgt := 17) hx hb d_Pipe_endClosed_9 (by decide) ?_
    subst hres
    exact ml_vret hx hb hr hlocks hP hK hD hS d_Pipe_endClosed_17
def sp_Pipe_addLast (d : DK) (pk : Fin 8) (bt : Int32) : DK :=
  (sI (sI d (18 + pk.val) (((d.1 8 pk.val) + (d.1 9 pk.val)) &&& (511 : Int32)).toNatClampNeg (vp_nar .byte bt.toInt8.toInt32)) 9 pk.val (((sI d (18 + pk.val) (((d.1 8 pk.val) + (d.1 9 pk.val)) &&& (511 : Int32)).toNatClampNeg (vp_nar .byte bt.toInt8.toInt32)).1 9 pk.val) + (1 : Int32)))
abbrev rm_Pipe_addLast : Room := { frames := 0, cells := 0, slots := 0, locals := 0 }
set_option maxHeartbeats 4000000 in
set_option maxRecDepth 100000 in
theorem c_Pipe_addLast (l : Launch) (dC : Nat → ClassId) (dI : Nat → Nat → Nat) (kc : Nat → ClassId) (a : Nat → Nat) (sz : Nat) (d : DK) (pk : Fin 8) (bt : Int32) (d' : DK) (hres : sp_Pipe_addLast d pk bt = d') : Met l y_Pipe_addLast ws_Pipe_addLast rm_Pipe_addLast (va_Pc [.ref (a (2 * pk.val + 36)), .int bt] (ml_B (dC, dI) vwCl (tysD kc) 57 a (dcell kc a d) sz)) (va_Qv (fun (_ : Unit) => True) (fun _ t => ml_E (dC, dI) vwCl (tysD kc) 57 a (dcell kc a d') (va_A (ml 57 a (dcell kc a d)) sz) t) (va_A (ml 57 a (dcell kc a d)) sz)) 0 0 (va_A (ml 57 a (dcell kc a d)) sz) := by
  refine Met.ofW (cc := prog_4_method_6_code) (maxL := 2) (ret := (none : Option Jvm.ClassFile.FieldType)) (by decide) rfl ?_
  intro p e s m args below meth c s₁ B hml hv
  obtain ⟨rfl, hsz, hP, hK, hD0⟩ := hv
  have hx := B.exec
  have hb := B.bytes
  have hr := B.returns
  have hts := atoms_spec (ws := ws_Pipe_addLast) B.pre
  have hown : s.vm.findClass "HandleDesk$Pipe" = some m.cls := findClass_of_methodNamed B.named
  have hlocks := B.notSynchronized
  subst hsz
  have hD := hD0.self (sz := s.heap.size)
  generalize hAe : va_A (ml 57 a (dcell kc a d)) s.heap.size = A at hD ⊢
  have hA : ∀ q : Nat, s.heap.size ≤ q → A q := fun q h => by rw [← hAe]; exact Or.inr h
  have hS : va_S A s.heap s.heap [] := va_S.rf
  have hl := lv_entry ([.ref (a (2 * pk.val + 36)), .int bt]) (n := 2) (Nat.le_of_ble_eq_true rfl)
  rw [lg_entry_eq]
  generalize (lg_sl ([.ref (a (2 * pk.val + 36)), .int bt]) ++ List.replicate (2 - (lg_sl ([.ref (a (2 * pk.val + 36)), .int bt])).length) Slot.unset).toArray = ls at hl ⊢
  have hl : lv_has ls 2 [(0, .ref (a (2 * pk.val + 36))), (1, .int bt)] := hl
  rw [sp_Pipe_addLast] at hres
  refine lv_aload_n hx hb d_Pipe_addLast_0 rfl (lv_at hl 0 rfl) ?_
  refine ml_get (D := (dC, dI)) hx hb hts in_PC hown hK hP (2 * pk.val + 36) (lt_pipe pk) (dc_pipe kc a d pk) rfl 1 (by decide) (hts _ (mC _ wd_65)) (fun _ h9 => h9) (v := .ref (a (2 * pk.val + 37))) rfl d_Pipe_addLast_1 ?_
  refine lv_aload_n hx hb d_Pipe_addLast_4 rfl (lv_at hl 0 rfl) ?_
  refine ml_get (D := (dC, dI)) hx hb hts in_PC hown hK hP (2 * pk.val + 36) (lt_pipe pk) (dc_pipe kc a d pk) rfl 2 (by decide) (hts _ (mC _ wd_66)) (fun _ h9 => h9) (v := .int (d.1 8 pk.val)) rfl d_Pipe_addLast_5 ?_
  refine lv_aload_n hx hb d_Pipe_addLast_8 rfl (lv_at hl 0 rfl) ?_
  refine ml_get (D := (dC, dI)) hx hb hts in_PC hown hK hP (2 * pk.val + 36) (lt_pipe pk) (dc_pipe kc a d pk) rfl 3 (by decide) (hts _ (mC _ wd_67)) (fun _ h9 => h9) (v := .int (d.1 9 pk.val)) rfl d_Pipe_addLast_9 ?_
  refine lv_iadd hx hb d_Pipe_addLast_12 ?_
  refine lv_sipush (v := 511) hx hb d_Pipe_addLast_13 (by decide) ?_
  refine lv_iand hx hb d_Pipe_addLast_16 ?_
  refine lv_iload_n hx hb d_Pipe_addLast_17 rfl (lv_at hl 1 rfl) ?_
  refine lv_i2b (v := bt.toInt8.toInt32) hx hb d_Pipe_addLast_18 rfl ?_
  refine ml_bast hx hb hK hP hD hS (2 * pk.val + 37) 1 (lt_ring pk) (dc_ring kc a d pk) rfl (pk_andIn _ 9 (by decide) (by decide)) (f' := (dcell kc a (sI d (18 + pk.val) (((d.1 8 pk.val) + (d.1 9 pk.val)) &&& (511 : Int32)).toNatClampNeg (vp_nar .byte bt.toInt8.toInt32)))) (dw_ring pk (((d.1 8 pk.val) + (d.1 9 pk.val)) &&& (511 : Int32)).toNatClampNeg (vp_nar .byte bt.toInt8.toInt32)) d_Pipe_addLast_19 (fun H locs hP hD hS => ?_)
  refine lv_aload_n hx hb d_Pipe_addLast_20 rfl (lv_at hl 0 rfl) ?_
  refine lv_dup hx hb d_Pipe_addLast_21 rfl ?_
  refine ml_get (D := (dC, dI)) hx hb hts in_PC hown hK hP (2 * pk.val + 36) (lt_pipe pk) (dc_pipe kc a (sI d (18 + pk.val) (((d.1 8 pk.val) + (d.1 9 pk.val)) &&& (511 : Int32)).toNatClampNeg (vp_nar .byte bt.toInt8.toInt32)) pk) rfl 3 (by decide) (hts _ (mC _ wd_67)) (fun _ h9 => h9) (v := .int ((sI d (18 + pk.val) (((d.1 8 pk.val) + (d.1 9 pk.val)) &&& (511 : Int32)).toNatClampNeg (vp_nar .byte bt.toInt8.toInt32)).1 9 pk.val)) rfl d_Pipe_addLast_22 ?_
  refine lv_iconst (v := 1) hx hb d_Pipe_addLast_25 (by decide) ?_
  refine lv_iadd hx hb d_Pipe_addLast_26 ?_
  refine ml_put (D := (dC, dI)) hx hb hts in_PC tyP tyP_ok nmP hown hK hP hD hS (2 * pk.val + 36) (lt_pipe pk) (dc_pipe kc a (sI d (18 + pk.val) (((d.1 8 pk.val) + (d.1 9 pk.val)) &&& (511 : Int32)).toNatClampNeg (vp_nar .byte bt.toInt8.toInt32)) pk) rfl 3 (by decide) (hts _ (mC _ wd_67)) (fun _ h9 => h9) rfl (ty := .int) (by decide +kernel) rfl rfl (Nat.le_of_ble_eq_true rfl) (f' := (dcell kc a (sI (sI d (18 + pk.val) (((d.1 8 pk.val) + (d.1 9 pk.val)) &&& (511 : Int32)).toNatClampNeg (vp_nar .byte bt.toInt8.toInt32)) 9 pk.val (((sI d (18 + pk.val) (((d.1 8 pk.val) + (d.1 9 pk.val)) &&& (511 : Int32)).toNatClampNeg (vp_nar .byte bt.toInt8.toInt32)).1 9 pk.val) + (1 : Int32))))) (dw_9 pk (((sI d (18 + pk.val) (((d.1 8 pk.val) + (d.1 9 pk.val)) &&& (511 : Int32)).toNatClampNeg (vp_nar .byte bt.toInt8.toInt32)).1 9 pk.val) + (1 : Int32))) d_Pipe_addLast_27 (fun H locs hP hD hS => ?_)
  subst hres
  exact ml_vret hx hb hr hlocks hP hK hD hS d_Pipe_addLast_30
def sp_Pipe_removeFirst (d : DK) (pk : Fin 8) : Int32 × DK :=
  ((d.1 (18 + pk.val) ((d.1 8 pk.val) &&& (511 : Int32)).toNatClampNeg) &&& (255 : Int32), sI (sI d 8 pk.val (((d.1 8 pk.val) + (1 : Int32)) &&& (511 : Int32))) 9 pk.val (((sI d 8 pk.val (((d.1 8 pk.val) + (1 : Int32)) &&& (511 : Int32))).1 9 pk.val) - (1 : Int32)))
abbrev rm_Pipe_removeFirst : Room := { frames := 0, cells := 0, slots := 0, locals := 0 }
set_option maxHeartbeats 4000000 in
set_option maxRecDepth 100000 in
theorem c_Pipe_removeFirst (l : Launch) (dC : Nat → ClassId) (dI : Nat → Nat → Nat) (kc : Nat → ClassId) (a : Nat → Nat) (sz : Nat) (d : DK) (pk : Fin 8) (R' : Int32) (d' : DK) (hres : sp_Pipe_removeFirst d pk = (R', d')) : Met l y_Pipe_removeFirst ws_Pipe_removeFirst rm_Pipe_removeFirst (va_Pc [.ref (a (2 * pk.val + 36))] (ml_B (dC, dI) vwCl (tysD kc) 57 a (dcell kc a d) sz)) (va_Qi (fun r (_ : Unit) => r = R') (fun _ t => ml_E (dC, dI) vwCl (tysD kc) 57 a (dcell kc a d') (va_A (ml 57 a (dcell kc a d)) sz) t) (va_A (ml 57 a (dcell kc a d)) sz)) 0 0 (va_A (ml 57 a (dcell kc a d)) sz) := by
  refine Met.ofW (cc := prog_4_method_7_code) (maxL := 2) (ret := (some .int)) (by decide) rfl ?_
  intro p e s m args below meth c s₁ B hml hv
  obtain ⟨rfl, hsz, hP, hK, hD0⟩ := hv
  have hx := B.exec
  have hb := B.bytes
  have hr := B.returns
  have hts := atoms_spec (ws := ws_Pipe_removeFirst) B.pre
  have hown : s.vm.findClass "HandleDesk$Pipe" = some m.cls := findClass_of_methodNamed B.named
  have hlocks := B.notSynchronized
  subst hsz
  have hD := hD0.self (sz := s.heap.size)
  generalize hAe : va_A (ml 57 a (dcell kc a d)) s.heap.size = A at hD ⊢
  have hA : ∀ q : Nat, s.heap.size ≤ q → A q := fun q h => by rw [← hAe]; exact Or.inr h
  have hS : va_S A s.heap s.heap [] := va_S.rf
  have hl := lv_entry ([.ref (a (2 * pk.val + 36))]) (n := 2) (Nat.le_of_ble_eq_true rfl)
  rw [lg_entry_eq]
  generalize (lg_sl ([.ref (a (2 * pk.val + 36))]) ++ List.replicate (2 - (lg_sl ([.ref (a (2 * pk.val + 36))])).length) Slot.unset).toArray = ls at hl ⊢
  have hl : lv_has ls 2 [(0, .ref (a (2 * pk.val + 36)))] := hl
  rw [sp_Pipe_removeFirst] at hres
  refine lv_aload_n hx hb d_Pipe_removeFirst_0 rfl (lv_at hl 0 rfl) ?_
  refine ml_get (D := (dC, dI)) hx hb hts in_PC hown hK hP (2 * pk.val + 36) (lt_pipe pk) (dc_pipe kc a d pk) rfl 1 (by decide) (hts _ (mC _ wd_65)) (fun _ h9 => h9) (v := .ref (a (2 * pk.val + 37))) rfl d_Pipe_removeFirst_1 ?_
  refine lv_aload_n hx hb d_Pipe_removeFirst_4 rfl (lv_at hl 0 rfl) ?_
  refine ml_get (D := (dC, dI)) hx hb hts in_PC hown hK hP (2 * pk.val + 36) (lt_pipe pk) (dc_pipe kc a d pk) rfl 2 (by decide) (hts _ (mC _ wd_66)) (fun _ h9 => h9) (v := .int (d.1 8 pk.val)) rfl d_Pipe_removeFirst_5 ?_
  refine lv_sipush (v := 511) hx hb d_Pipe_removeFirst_8 (by decide) ?_
  refine lv_iand hx hb d_Pipe_removeFirst_11 ?_
  refine ml_bald hx hb hK hP (2 * pk.val + 37) 1 (lt_ring pk) (dc_ring kc a d pk) rfl (pk_andIn _ 9 (by decide) (by decide)) d_Pipe_removeFirst_12 ?_
  refine lv_sipush (v := 255) hx hb d_Pipe_removeFirst_13 (by decide) ?_
  refine lv_iand hx hb d_Pipe_removeFirst_16 ?_
  refine lv_istore_n (lv' := [(1, .int ((d.1 (18 + pk.val) ((d.1 8 pk.val) &&& (511 : Int32)).toNatClampNeg) &&& (255 : Int32))), (0, .ref (a (2 * pk.val + 36)))]) hx hb d_Pipe_removeFirst_17 rfl hl (by decide) rfl (fun ls hl => ?_)
  refine lv_aload_n hx hb d_Pipe_removeFirst_18 rfl (lv_at hl 1 rfl) ?_
  refine lv_aload_n hx hb d_Pipe_removeFirst_19 rfl (lv_at hl 1 rfl) ?_
  refine ml_get (D := (dC, dI)) hx hb hts in_PC hown hK hP (2 * pk.val + 36) (lt_pipe pk) (dc_pipe kc a d pk) rfl 2 (by decide) (hts _ (mC _ wd_66)) (fun _ h9 => h9) (v := .int (d.1 8 pk.val)) rfl d_Pipe_removeFirst_20 ?_
  refine lv_iconst (v := 1) hx hb d_Pipe_removeFirst_23 (by decide) ?_
  refine lv_iadd hx hb d_Pipe_removeFirst_24 ?_
  refine lv_sipush (v := 511) hx hb d_Pipe_removeFirst_25 (by decide) ?_
  refine lv_iand hx hb d_Pipe_removeFirst_28 ?_
  refine ml_put (D := (dC, dI)) hx hb hts in_PC tyP tyP_ok nmP hown hK hP hD hS (2 * pk.val + 36) (lt_pipe pk) (dc_pipe kc a d pk) rfl 2 (by decide) (hts _ (mC _ wd_66)) (fun _ h9 => h9) rfl (ty := .int) (by decide +kernel) rfl rfl (Nat.le_of_ble_eq_true rfl) (f' := (dcell kc a (sI d 8 pk.val (((d.1 8 pk.val) + (1 : Int32)) &&& (511 : Int32))))) (dw_8 pk (((d.1 8 pk.val) + (1 : Int32)) &&& (511 : Int32))) d_Pipe_removeFirst_29 (fun H locs hP hD hS => ?_)
  refine lv_aload_n hx hb d_Pipe_removeFirst_32 rfl (lv_at hl 1 rfl) ?_
  refine lv_dup hx hb d_Pipe_removeFirst_33 rfl ?_
  refine ml_get (D := (dC, dI)) hx hb hts in_PC hown hK hP (2 * pk.val + 36) (lt_pipe pk) (dc_pipe kc a (sI d 8 pk.val (((d.1 8 pk.val) + (1 : Int32)) &&& (511 : Int32))) pk) rfl 3 (by decide) (hts _ (mC _ wd_67)) (fun _ h9 => h9) (v := .int ((sI d 8 pk.val (((d.1 8 pk.val) + (1 : Int32)) &&& (511 : Int32))).1 9 pk.val)) rfl d_Pipe_removeFirst_34 ?_
  refine lv_iconst (v := 1) hx hb d_Pipe_removeFirst_37 (by decide) ?_
  refine lv_isub hx hb d_Pipe_removeFirst_38 ?_
  refine ml_put (D := (dC, dI)) hx hb hts in_PC tyP tyP_ok nmP hown hK hP hD hS (2 * pk.val + 36) (lt_pipe pk) (dc_pipe kc a (sI d 8 pk.val (((d.1 8 pk.val) + (1 : Int32)) &&& (511 : Int32))) pk) rfl 3 (by decide) (hts _ (mC _ wd_67)) (fun _ h9 => h9) rfl (ty := .int) (by decide +kernel) rfl rfl (Nat.le_of_ble_eq_true rfl) (f' := (dcell kc a (sI (sI d 8 pk.val (((d.1 8 pk.val) + (1 : Int32)) &&& (511 : Int32))) 9 pk.val (((sI d 8 pk.val (((d.1 8 pk.val) + (1 : Int32)) &&& (511 : Int32))).1 9 pk.val) - (1 : Int32))))) (dw_9 pk (((sI d 8 pk.val (((d.1 8 pk.val) + (1 : Int32)) &&& (511 : Int32))).1 9 pk.val) - (1 : Int32))) d_Pipe_removeFirst_39 (fun H locs hP hD hS => ?_)
  refine lv_iload_n hx hb d_Pipe_removeFirst_42 rfl (lv_at hl 0 rfl) ?_
  obtain ⟨rfl, rfl⟩ := Prod.mk.inj hres
  exact ml_iret hx hb hr hlocks hP hK hD hS d_Pipe_removeFirst_43
