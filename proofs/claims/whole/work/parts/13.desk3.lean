def sp_fileOf (d : DK) (pr : Int32) (x : Int32) : Option (Fin 32) :=
  (if (sp_isProcess pr) = (0 : Int32) then none else (if (sp_isDescriptor x) = (0 : Int32) then none else (oc (d.2.1 ((pr * (16 : Int32)) + x).toNatClampNeg) none (fun i_4 => (some i_4)))))
abbrev rm_fileOf : Room := { frames := 1, cells := 0, slots := 0, locals := 20 }
set_option maxHeartbeats 4000000 in
set_option maxRecDepth 100000 in
theorem c_fileOf (l : Launch) (dC : Nat → ClassId) (dI : Nat → Nat → Nat) (kc : Nat → ClassId) (a : Nat → Nat) (sz : Nat) (d : DK) (pr : Int32) (x : Int32) (R' : Option (Fin 32)) (hres : sp_fileOf d pr x = R') : Met l y_fileOf ws_fileOf rm_fileOf (va_Pc [.ref (a 0), .int pr, .int x] (ml_B (dC, dI) vwCl (tysD kc) 57 a (dcell kc a d) sz)) (va_Qq (fun r (_ : Unit) => r = R'.map (fun i => a (i.val + 3))) (fun _ t => ml_E (dC, dI) vwCl (tysD kc) 57 a (dcell kc a d) (va_A (ml 57 a (dcell kc a d)) sz) t) (va_A (ml 57 a (dcell kc a d)) sz)) 0 0 (va_A (ml 57 a (dcell kc a d)) sz) := by
  refine Met.ofW (cc := prog_1_method_25_code) (maxL := 3) (ret := (some (.object "HandleDesk$OpenFile"))) (by decide) rfl ?_
  intro p e s m args below meth c s₁ B hml hv
  obtain ⟨rfl, hsz, hP, hK, hD0⟩ := hv
  have hx := B.exec
  have hb := B.bytes
  have hr := B.returns
  have hts := atoms_spec (ws := ws_fileOf) B.pre
  have hown : s.vm.findClass "HandleDesk" = some m.cls := findClass_of_methodNamed B.named
  have hlocks := B.notSynchronized
  subst hsz
  have hD := hD0.self (sz := s.heap.size)
  generalize hAe : va_A (ml 57 a (dcell kc a d)) s.heap.size = A at hD ⊢
  have hA : ∀ q : Nat, s.heap.size ≤ q → A q := fun q h => by rw [← hAe]; exact Or.inr h
  have hS : va_S A s.heap s.heap [] := va_S.rf
  have hl := lv_entry ([.ref (a 0), .int pr, .int x]) (n := 3) (Nat.le_of_ble_eq_true rfl)
  rw [lg_entry_eq]
  generalize (lg_sl ([.ref (a 0), .int pr, .int x]) ++ List.replicate (3 - (lg_sl ([.ref (a 0), .int pr, .int x])).length) Slot.unset).toArray = ls at hl ⊢
  have hl : lv_has ls 3 [(0, .ref (a 0)), (1, .int pr), (2, .int x)] := hl
  rw [sp_fileOf] at hres
  refine lv_iload_n hx hb d_fileOf_0 rfl (lv_at hl 1 rfl) ?_
  refine ml_calli (va_runS (As := [.int pr]) (rest := []) ⟨hx, hb, hml, hown, hts⟩ (c_isProcess l dC dI kc a _ d pr _ rfl) (cwS 1 hts (gd_S mC wd_149 wd_150 wd_1 wd_151) rfl rfl rfl hd_isProcess ⟨Nat.le_of_ble_eq_true rfl, Nat.le_of_ble_eq_true rfl⟩) ⟨ml_blind, ml_pre hP hK hD⟩ rfl rfl hl.1 rfl (lv_room (Nat.le_of_ble_eq_true rfl)) d_fileOf_1 ⟨Nat.zero_le _, Nat.zero_le _⟩) hD hS hA (fun H locs hP hD hS => ?_)
  refine lv_if_eq (tgt := 14) hx hb d_fileOf_4 (by decide) (fun h_1 => ?_) (fun h_1 => ?_)
  · rw [if_pos h_1] at hres
    refine lv_null hx hb d_fileOf_14 ?_
    subst hres
    exact ml_aretN hx hb hr hlocks hP hK hD hS d_fileOf_15
  · rw [if_neg h_1] at hres
    refine lv_iload_n hx hb d_fileOf_7 rfl (lv_at hl 2 rfl) ?_
    refine ml_calli (va_runS (As := [.int x]) (rest := []) ⟨hx, hb, hml, hown, hts⟩ (c_isDescriptor l dC dI kc a _ d x _ rfl) (cwS 1 hts (gd_S mC wd_166 wd_167 wd_1 wd_168) rfl rfl rfl hd_isDescriptor ⟨Nat.le_of_ble_eq_true rfl, Nat.le_of_ble_eq_true rfl⟩) ⟨ml_blind, ml_pre hP hK hD⟩ rfl rfl hl.1 rfl (lv_room (Nat.le_of_ble_eq_true rfl)) d_fileOf_8 ⟨Nat.zero_le _, Nat.zero_le _⟩) hD hS hA (fun H locs hP hD hS => ?_)
    refine lv_if_ne (tgt := 16) hx hb d_fileOf_11 (by decide) (fun h_2 => ?_) (fun h_2 => ?_)
    · rw [if_neg h_2] at hres
      refine lv_aload_n hx hb d_fileOf_16 rfl (lv_at hl 0 rfl) ?_
      refine ml_get (D := (dC, dI)) hx hb hts in_DC hown hK hP (0) (by decide) (dc_desk kc a d) rfl 0 (by decide) (hts _ (mC _ wd_123)) (fun _ h9 => h9) (v := .ref (a 1)) rfl d_fileOf_17 ?_
      refine lv_iload_n hx hb d_fileOf_20 rfl (lv_at hl 1 rfl) ?_
      refine lv_bipush (v := 16) hx hb d_fileOf_21 (by decide) ?_
      refine lv_imul hx hb d_fileOf_23 ?_
      refine lv_iload_n hx hb d_fileOf_24 rfl (lv_at hl 2 rfl) ?_
      refine lv_iadd hx hb d_fileOf_25 ?_
      refine dk_ald_named hx hb hK hP (dk_in (by assumption) (by assumption)) d_fileOf_26 (fun q_3 => ?_) (fun i_4 q_3 => ?_)
      · rw [q_3, oc_n] at hres
        subst hres
        exact ml_aretN hx hb hr hlocks hP hK hD hS d_fileOf_27
      · rw [q_3, oc_s] at hres
        subst hres
        exact ml_aretS hx hb hr hlocks hP hK hD hS d_fileOf_27
    · rw [if_pos h_2] at hres
      refine lv_null hx hb d_fileOf_14 ?_
      subst hres
      exact ml_aretN hx hb hr hlocks hP hK hD hS d_fileOf_15
def lp_freeDescriptor (d : DK) (pr : Int32) : Nat → Nat → Int32
  | 0, _ => 0
  | n + 1, j =>
    (if (16 : Int32) ≤ (nI j) then (-1 : Int32) else (oc (sp_fileOf d pr (nI j)) (nI j) (fun i_3 => (lp_freeDescriptor d pr n (j + 1)))))
def sp_freeDescriptor (d : DK) (pr : Int32) (st : Nat) : Int32 :=
  (lp_freeDescriptor d pr (17 - st) st)
abbrev rm_freeDescriptor : Room := { frames := 2, cells := 0, slots := 0, locals := 42 }
set_option maxHeartbeats 4000000 in
set_option maxRecDepth 100000 in
theorem c_freeDescriptor (l : Launch) (dC : Nat → ClassId) (dI : Nat → Nat → Nat) (kc : Nat → ClassId) (a : Nat → Nat) (sz : Nat) (d : DK) (pr : Int32) (st : Nat) (hst : st ≤ 16) (R' : Int32) (hres : sp_freeDescriptor d pr st = R') : Met l y_freeDescriptor ws_freeDescriptor rm_freeDescriptor (va_Pc [.ref (a 0), .int pr, .int (nI st)] (ml_B (dC, dI) vwCl (tysD kc) 57 a (dcell kc a d) sz)) (va_Qi (fun r (_ : Unit) => r = R') (fun _ t => ml_E (dC, dI) vwCl (tysD kc) 57 a (dcell kc a d) (va_A (ml 57 a (dcell kc a d)) sz) t) (va_A (ml 57 a (dcell kc a d)) sz)) 0 0 (va_A (ml 57 a (dcell kc a d)) sz) := by
  refine Met.ofW (cc := prog_1_method_26_code) (maxL := 4) (ret := (some .int)) (by decide) rfl ?_
  intro p e s m args below meth c s₁ B hml hv
  obtain ⟨rfl, hsz, hP, hK, hD0⟩ := hv
  have hx := B.exec
  have hb := B.bytes
  have hr := B.returns
  have hts := atoms_spec (ws := ws_freeDescriptor) B.pre
  have hown : s.vm.findClass "HandleDesk" = some m.cls := findClass_of_methodNamed B.named
  have hlocks := B.notSynchronized
  subst hsz
  have hD := hD0.self (sz := s.heap.size)
  generalize hAe : va_A (ml 57 a (dcell kc a d)) s.heap.size = A at hD ⊢
  have hA : ∀ q : Nat, s.heap.size ≤ q → A q := fun q h => by rw [← hAe]; exact Or.inr h
  have hS : va_S A s.heap s.heap [] := va_S.rf
  have loop : ∀ (n j : Nat) (H : Heap) (locs : List Loc) (ls : Array Slot), j ≤ 16 → j + n = 16 + 1 → lp_freeDescriptor d pr n j = R' → va_P (dC, dI) vwCl (ml 57 a (dcell kc a d)) H → va_D A (ml 57 a (dcell kc a d)) → va_S A s.heap H locs → lv_has ls 4 [(0, .ref (a 0)), (1, .int pr), (3, .int (nI j))] → W p l e rm_freeDescriptor s m ([.ref (a 0), .int pr, .int (nI st)] : List Value).toArray below meth c H locs 0 0 (MQ below (va_Qi (fun r (_ : Unit) => r = R') (fun _ t => ml_E (dC, dI) vwCl (tysD kc) 57 a (dcell kc a d) A t) A) ([.ref (a 0), .int pr, .int (nI st)] : List Value).toArray s 0 0 A) (F0 m 2 ls []) := by
    intro n
    induction n with
    | zero =>
      intro j H locs ls hj hn
      exact absurd hn (by omega)
    | succ n ih =>
      intro j H locs ls hj hn  hres hP hD hS hl
      rw [lp_freeDescriptor] at hres
      refine lv_iload_n hx hb d_freeDescriptor_2 rfl (lv_at hl 2 rfl) ?_
      refine lv_bipush (v := 16) hx hb d_freeDescriptor_3 (by decide) ?_
      refine lv_icmp_ge (tgt := 25) hx hb d_freeDescriptor_5 (by decide) (fun h_1 => ?_) (fun h_1 => ?_)
      · rw [if_pos h_1] at hres
        refine lv_iconst (v := -1) hx hb d_freeDescriptor_25 (by decide) ?_
        subst hres
        exact ml_iret hx hb hr hlocks hP hK hD hS d_freeDescriptor_26
      · rw [if_neg h_1] at hres
        refine lv_aload_n hx hb d_freeDescriptor_8 rfl (lv_at hl 0 rfl) ?_
        refine lv_iload_n hx hb d_freeDescriptor_9 rfl (lv_at hl 1 rfl) ?_
        refine lv_iload_n hx hb d_freeDescriptor_10 rfl (lv_at hl 2 rfl) ?_
        refine ml_callq (va_runV (As := [.int pr, .int (nI j)]) (rest := []) ⟨hx, hb, hml, hown, hts⟩ (c_fileOf l dC dI kc a _ d pr (nI j) _ rfl) (cwV 2 hts (gd_V mC wd_162 wd_164 ws_1 wd_1 wd_165) rfl rfl rfl hd_fileOf ⟨Nat.le_of_ble_eq_true rfl, Nat.le_of_ble_eq_true rfl⟩) ⟨ml_blind, va_recv hK hP (ci := 0) rfl (ml_at (by decide) (dc_desk kc a d)), ml_pre hP hK hD⟩ rfl rfl hl.1 rfl (lv_room (Nat.le_of_ble_eq_true rfl)) d_freeDescriptor_11 ⟨Nat.zero_le _, Nat.zero_le _⟩) hD hS hA (fun H locs hP hD hS => ?_)
        refine ml_split (fun q_2 => ?_) (fun i_3 q_2 => ?_)
        · rw [q_2, oc_n] at hres
          refine lv_ifnonnullN hx hb d_freeDescriptor_14 ?_
          refine lv_iload_n hx hb d_freeDescriptor_17 rfl (lv_at hl 2 rfl) ?_
          subst hres
          exact ml_iret hx hb hr hlocks hP hK hD hS d_freeDescriptor_18
        · rw [q_2, oc_s] at hres
          refine lv_ifnonnull (tgt := 19) hx hb d_freeDescriptor_14 (by decide) ?_
          refine lv_iinc (v := nI (j + 1)) (lv' := [(3, .int (nI (j + 1))), (0, .ref (a 0)), (1, .int pr)]) hx hb d_freeDescriptor_19 hl (k := 2) rfl (nI_1 j) (by decide) rfl (fun ls hl => ?_)
          refine lv_goto (tgt := 2) hx hb d_freeDescriptor_22 (by decide) ?_
          exact ih (j + 1) _ _ ls (lp_adv (b := (16 : Int32)) (B := 16) rfl (by decide) hj (by assumption)) (by omega) hres hP hD hS (lv_sub hl [1, 2, 0] rfl)
  have hl := lv_entry ([.ref (a 0), .int pr, .int (nI st)]) (n := 4) (Nat.le_of_ble_eq_true rfl)
  rw [lg_entry_eq]
  generalize (lg_sl ([.ref (a 0), .int pr, .int (nI st)]) ++ List.replicate (4 - (lg_sl ([.ref (a 0), .int pr, .int (nI st)])).length) Slot.unset).toArray = ls at hl ⊢
  have hl : lv_has ls 4 [(0, .ref (a 0)), (1, .int pr), (2, .int (nI st))] := hl
  rw [sp_freeDescriptor] at hres
  refine lv_iload_n hx hb d_freeDescriptor_0 rfl (lv_at hl 2 rfl) ?_
  refine lv_istore_n (lv' := [(3, .int (nI st)), (0, .ref (a 0)), (1, .int pr), (2, .int (nI st))]) hx hb d_freeDescriptor_1 rfl hl (by decide) rfl (fun ls hl => ?_)
  exact loop _ st _ _ ls hst (by omega) hres hP hD hS (lv_sub hl [1, 2, 0] rfl)
def lp_usedDescriptors (d : DK) (pr : Int32) : Nat → Nat → Int32 → Int32
  | 0, _, _ => 0
  | n + 1, j, us =>
    (if (16 : Int32) ≤ (nI j) then us else (oc (sp_fileOf d pr (nI j)) (lp_usedDescriptors d pr n (j + 1) us) (fun i_3 => (lp_usedDescriptors d pr n (j + 1) (us + (1 : Int32))))))
def sp_usedDescriptors (d : DK) (pr : Int32) : Int32 :=
  (lp_usedDescriptors d pr (16 + 1) 0 (0 : Int32))
abbrev rm_usedDescriptors : Room := { frames := 2, cells := 0, slots := 0, locals := 42 }
set_option maxHeartbeats 4000000 in
set_option maxRecDepth 100000 in
theorem c_usedDescriptors (l : Launch) (dC : Nat → ClassId) (dI : Nat → Nat → Nat) (kc : Nat → ClassId) (a : Nat → Nat) (sz : Nat) (d : DK) (pr : Int32) (R' : Int32) (hres : sp_usedDescriptors d pr = R') : Met l y_usedDescriptors ws_usedDescriptors rm_usedDescriptors (va_Pc [.ref (a 0), .int pr] (ml_B (dC, dI) vwCl (tysD kc) 57 a (dcell kc a d) sz)) (va_Qi (fun r (_ : Unit) => r = R') (fun _ t => ml_E (dC, dI) vwCl (tysD kc) 57 a (dcell kc a d) (va_A (ml 57 a (dcell kc a d)) sz) t) (va_A (ml 57 a (dcell kc a d)) sz)) 0 0 (va_A (ml 57 a (dcell kc a d)) sz) := by
  refine Met.ofW (cc := prog_1_method_27_code) (maxL := 4) (ret := (some .int)) (by decide) rfl ?_
  intro p e s m args below meth c s₁ B hml hv
  obtain ⟨rfl, hsz, hP, hK, hD0⟩ := hv
  have hx := B.exec
  have hb := B.bytes
  have hr := B.returns
  have hts := atoms_spec (ws := ws_usedDescriptors) B.pre
  have hown : s.vm.findClass "HandleDesk" = some m.cls := findClass_of_methodNamed B.named
  have hlocks := B.notSynchronized
  subst hsz
  have hD := hD0.self (sz := s.heap.size)
  generalize hAe : va_A (ml 57 a (dcell kc a d)) s.heap.size = A at hD ⊢
  have hA : ∀ q : Nat, s.heap.size ≤ q → A q := fun q h => by rw [← hAe]; exact Or.inr h
  have hS : va_S A s.heap s.heap [] := va_S.rf
  have loop : ∀ (n j : Nat) (us : Int32) (H : Heap) (locs : List Loc) (ls : Array Slot), j ≤ 16 → j + n = 16 + 1 → lp_usedDescriptors d pr n j us = R' → va_P (dC, dI) vwCl (ml 57 a (dcell kc a d)) H → va_D A (ml 57 a (dcell kc a d)) → va_S A s.heap H locs → lv_has ls 4 [(0, .ref (a 0)), (1, .int pr), (2, .int us), (3, .int (nI j))] → W p l e rm_usedDescriptors s m ([.ref (a 0), .int pr] : List Value).toArray below meth c H locs 0 0 (MQ below (va_Qi (fun r (_ : Unit) => r = R') (fun _ t => ml_E (dC, dI) vwCl (tysD kc) 57 a (dcell kc a d) A t) A) ([.ref (a 0), .int pr] : List Value).toArray s 0 0 A) (F0 m 4 ls []) := by
    intro n
    induction n with
    | zero =>
      intro j us H locs ls hj hn
      exact absurd hn (by omega)
    | succ n ih =>
      intro j us H locs ls hj hn  hres hP hD hS hl
      rw [lp_usedDescriptors] at hres
      refine lv_iload_n hx hb d_usedDescriptors_4 rfl (lv_at hl 3 rfl) ?_
      refine lv_bipush (v := 16) hx hb d_usedDescriptors_5 (by decide) ?_
      refine lv_icmp_ge (tgt := 28) hx hb d_usedDescriptors_7 (by decide) (fun h_1 => ?_) (fun h_1 => ?_)
      · rw [if_pos h_1] at hres
        refine lv_iload_n hx hb d_usedDescriptors_28 rfl (lv_at hl 2 rfl) ?_
        subst hres
        exact ml_iret hx hb hr hlocks hP hK hD hS d_usedDescriptors_29
      · rw [if_neg h_1] at hres
        refine lv_aload_n hx hb d_usedDescriptors_10 rfl (lv_at hl 0 rfl) ?_
        refine lv_iload_n hx hb d_usedDescriptors_11 rfl (lv_at hl 1 rfl) ?_
        refine lv_iload_n hx hb d_usedDescriptors_12 rfl (lv_at hl 3 rfl) ?_
        refine ml_callq (va_runV (As := [.int pr, .int (nI j)]) (rest := []) ⟨hx, hb, hml, hown, hts⟩ (c_fileOf l dC dI kc a _ d pr (nI j) _ rfl) (cwV 2 hts (gd_V mC wd_162 wd_164 ws_1 wd_1 wd_165) rfl rfl rfl hd_fileOf ⟨Nat.le_of_ble_eq_true rfl, Nat.le_of_ble_eq_true rfl⟩) ⟨ml_blind, va_recv hK hP (ci := 0) rfl (ml_at (by decide) (dc_desk kc a d)), ml_pre hP hK hD⟩ rfl rfl hl.1 rfl (lv_room (Nat.le_of_ble_eq_true rfl)) d_usedDescriptors_13 ⟨Nat.zero_le _, Nat.zero_le _⟩) hD hS hA (fun H locs hP hD hS => ?_)
        refine ml_split (fun q_2 => ?_) (fun i_3 q_2 => ?_)
        · rw [q_2, oc_n] at hres
          refine lv_ifnullN (tgt := 22) hx hb d_usedDescriptors_16 (by decide) ?_
          refine lv_iinc (v := nI (j + 1)) (lv' := [(3, .int (nI (j + 1))), (0, .ref (a 0)), (1, .int pr), (2, .int us)]) hx hb d_usedDescriptors_22 hl (k := 3) rfl (nI_1 j) (by decide) rfl (fun ls hl => ?_)
          refine lv_goto (tgt := 4) hx hb d_usedDescriptors_25 (by decide) ?_
          exact ih (j + 1) us _ _ ls (lp_adv (b := (16 : Int32)) (B := 16) rfl (by decide) hj (by assumption)) (by omega) hres hP hD hS (lv_sub hl [1, 2, 3, 0] rfl)
        · rw [q_2, oc_s] at hres
          refine lv_ifnull hx hb d_usedDescriptors_16 ?_
          refine lv_iinc (v := us + (1 : Int32)) (lv' := [(2, .int (us + (1 : Int32))), (0, .ref (a 0)), (1, .int pr), (3, .int (nI j))]) hx hb d_usedDescriptors_19 hl (k := 2) rfl rfl (by decide) rfl (fun ls hl => ?_)
          refine lv_iinc (v := nI (j + 1)) (lv' := [(3, .int (nI (j + 1))), (2, .int (us + (1 : Int32))), (0, .ref (a 0)), (1, .int pr)]) hx hb d_usedDescriptors_22 hl (k := 3) rfl (nI_1 j) (by decide) rfl (fun ls hl => ?_)
          refine lv_goto (tgt := 4) hx hb d_usedDescriptors_25 (by decide) ?_
          exact ih (j + 1) (us + (1 : Int32)) _ _ ls (lp_adv (b := (16 : Int32)) (B := 16) rfl (by decide) hj (by assumption)) (by omega) hres hP hD hS (lv_sub hl [2, 3, 1, 0] rfl)
  have hl := lv_entry ([.ref (a 0), .int pr]) (n := 4) (Nat.le_of_ble_eq_true rfl)
  rw [lg_entry_eq]
  generalize (lg_sl ([.ref (a 0), .int pr]) ++ List.replicate (4 - (lg_sl ([.ref (a 0), .int pr])).length) Slot.unset).toArray = ls at hl ⊢
  have hl : lv_has ls 4 [(0, .ref (a 0)), (1, .int pr)] := hl
  rw [sp_usedDescriptors] at hres
  refine lv_iconst (v := 0) hx hb d_usedDescriptors_0 (by decide) ?_
  refine lv_istore_n (lv' := [(2, .int (0 : Int32)), (0, .ref (a 0)), (1, .int pr)]) hx hb d_usedDescriptors_1 rfl hl (by decide) rfl (fun ls hl => ?_)
  refine lv_iconst (v := 0) hx hb d_usedDescriptors_2 (by decide) ?_
  refine lv_istore_n (lv' := [(3, .int (0 : Int32)), (2, .int (0 : Int32)), (0, .ref (a 0)), (1, .int pr)]) hx hb d_usedDescriptors_3 rfl hl (by decide) rfl (fun ls hl => ?_)
  exact loop _ 0 (0 : Int32) _ _ ls (Nat.zero_le _) (by omega) hres hP hD hS (lv_sub hl [2, 3, 1, 0] rfl)
def lp_freeFile (d : DK)  : Nat → Nat → Option (Fin 32)
  | 0, _ => none
  | n + 1, j =>
    (if (32 : Int32) ≤ (nI j) then none else (if d.1 7 (Fin.ofNat 32 (nI j).toNatClampNeg).val = (0 : Int32) then (some (Fin.ofNat 32 (nI j).toNatClampNeg)) else (lp_freeFile d n (j + 1))))
def sp_freeFile (d : DK) (st : Nat) : Option (Fin 32) :=
  (if (0 : Int32) ≤ (nI st) then (lp_freeFile d (33 - st) st) else none)
abbrev rm_freeFile : Room := { frames := 0, cells := 0, slots := 0, locals := 0 }
set_option maxHeartbeats 4000000 in
set_option maxRecDepth 100000 in
theorem c_freeFile (l : Launch) (dC : Nat → ClassId) (dI : Nat → Nat → Nat) (kc : Nat → ClassId) (a : Nat → Nat) (sz : Nat) (d : DK) (st : Nat) (hst : st ≤ 32) (R' : Option (Fin 32)) (hres : sp_freeFile d st = R') : Met l y_freeFile ws_freeFile rm_freeFile (va_Pc [.ref (a 0), .int (nI st)] (ml_B (dC, dI) vwCl (tysD kc) 57 a (dcell kc a d) sz)) (va_Qq (fun r (_ : Unit) => r = R'.map (fun i => a (i.val + 3))) (fun _ t => ml_E (dC, dI) vwCl (tysD kc) 57 a (dcell kc a d) (va_A (ml 57 a (dcell kc a d)) sz) t) (va_A (ml 57 a (dcell kc a d)) sz)) 0 0 (va_A (ml 57 a (dcell kc a d)) sz) := by
  refine Met.ofW (cc := prog_1_method_28_code) (maxL := 4) (ret := (some (.object "HandleDesk$OpenFile"))) (by decide) rfl ?_
  intro p e s m args below meth c s₁ B hml hv
  obtain ⟨rfl, hsz, hP, hK, hD0⟩ := hv
  have hx := B.exec
  have hb := B.bytes
  have hr := B.returns
  have hts := atoms_spec (ws := ws_freeFile) B.pre
  have hown : s.vm.findClass "HandleDesk" = some m.cls := findClass_of_methodNamed B.named
  have hlocks := B.notSynchronized
  subst hsz
  have hD := hD0.self (sz := s.heap.size)
  generalize hAe : va_A (ml 57 a (dcell kc a d)) s.heap.size = A at hD ⊢
  have hA : ∀ q : Nat, s.heap.size ≤ q → A q := fun q h => by rw [← hAe]; exact Or.inr h
  have hS : va_S A s.heap s.heap [] := va_S.rf
  have loop : ∀ (n j : Nat) (H : Heap) (locs : List Loc) (ls : Array Slot), j ≤ 32 → j + n = 32 + 1 → lp_freeFile d n j = R' → va_P (dC, dI) vwCl (ml 57 a (dcell kc a d)) H → va_D A (ml 57 a (dcell kc a d)) → va_S A s.heap H locs → lv_has ls 4 [(0, .ref (a 0)), (2, .int (nI j))] → W p l e rm_freeFile s m ([.ref (a 0), .int (nI st)] : List Value).toArray below meth c H locs 0 0 (MQ below (va_Qq (fun r (_ : Unit) => r = R'.map (fun i => a (i.val + 3))) (fun _ t => ml_E (dC, dI) vwCl (tysD kc) 57 a (dcell kc a d) A t) A) ([.ref (a 0), .int (nI st)] : List Value).toArray s 0 0 A) (F0 m 8 ls []) := by
    intro n
    induction n with
    | zero =>
      intro j H locs ls hj hn
      exact absurd hn (by omega)
    | succ n ih =>
      intro j H locs ls hj hn  hres hP hD hS hl
      rw [lp_freeFile] at hres
      refine lv_iload_n hx hb d_freeFile_8 rfl (lv_at hl 1 rfl) ?_
      refine lv_aload_n hx hb d_freeFile_9 rfl (lv_at hl 0 rfl) ?_
      refine ml_get (D := (dC, dI)) hx hb hts in_DC hown hK hP (0) (by decide) (dc_desk kc a d) rfl 1 (by decide) (hts _ (mC _ wd_124)) (fun _ h9 => h9) (v := .ref (a 2)) rfl d_freeFile_10 ?_
      refine ml_alen hx hb hK hP (2) 2 (by decide) (dc_files kc a d) rfl (v := 32) rfl d_freeFile_13 ?_
      refine lv_icmp_ge (tgt := 43) hx hb d_freeFile_14 (by decide) (fun h_1 => ?_) (fun h_1 => ?_)
      · rw [if_pos h_1] at hres
        refine lv_null hx hb d_freeFile_43 ?_
        subst hres
        exact ml_aretN hx hb hr hlocks hP hK hD hS d_freeFile_44
      · rw [if_neg h_1] at hres
        refine lv_aload_n hx hb d_freeFile_17 rfl (lv_at hl 0 rfl) ?_
        refine ml_get (D := (dC, dI)) hx hb hts in_DC hown hK hP (0) (by decide) (dc_desk kc a d) rfl 1 (by decide) (hts _ (mC _ wd_124)) (fun _ h9 => h9) (v := .ref (a 2)) rfl d_freeFile_18 ?_
        refine lv_iload_n hx hb d_freeFile_21 rfl (lv_at hl 1 rfl) ?_
        refine dk_ald_files hx hb hK hP (lp_in (b := (32 : Int32)) (B := 32) rfl (by decide) hj (by assumption)) d_freeFile_22 ?_
        refine lv_astore_n (lv' := [(3, .ref (a ((Fin.ofNat 32 (nI j).toNatClampNeg).val + 3))), (0, .ref (a 0)), (2, .int (nI j))]) hx hb d_freeFile_23 rfl hl (by decide) rfl (fun ls hl => ?_)
        refine lv_aload_n hx hb d_freeFile_24 rfl (lv_at hl 0 rfl) ?_
        refine lv_ifnull hx hb d_freeFile_25 ?_
        refine lv_aload_n hx hb d_freeFile_28 rfl (lv_at hl 0 rfl) ?_
        refine ml_get (D := (dC, dI)) hx hb hts in_FC hown hK hP ((Fin.ofNat 32 (nI j).toNatClampNeg).val + 3) (lt_file (Fin.ofNat 32 (nI j).toNatClampNeg)) (dc_file kc a d (Fin.ofNat 32 (nI j).toNatClampNeg)) rfl 7 (by decide) (hts _ (mC _ wd_38)) (fun _ h9 => h9) (v := .int (d.1 7 (Fin.ofNat 32 (nI j).toNatClampNeg).val)) rfl d_freeFile_29 ?_
        refine lv_if_ne (tgt := 37) hx hb d_freeFile_32 (by decide) (fun h_2 => ?_) (fun h_2 => ?_)
        · rw [if_neg h_2] at hres
          refine lv_iinc (v := nI (j + 1)) (lv' := [(2, .int (nI (j + 1))), (3, .ref (a ((Fin.ofNat 32 (nI j).toNatClampNeg).val + 3))), (0, .ref (a 0))]) hx hb d_freeFile_37 hl (k := 2) rfl (nI_1 j) (by decide) rfl (fun ls hl => ?_)
          refine lv_goto (tgt := 8) hx hb d_freeFile_40 (by decide) ?_
          exact ih (j + 1) _ _ ls (lp_adv (b := (32 : Int32)) (B := 32) rfl (by decide) hj (by assumption)) (by omega) hres hP hD hS (lv_sub hl [2, 0] rfl)
        · rw [if_pos h_2] at hres
          refine lv_aload_n hx hb d_freeFile_35 rfl (lv_at hl 0 rfl) ?_
          subst hres
          exact ml_aretS hx hb hr hlocks hP hK hD hS d_freeFile_36
  have hl := lv_entry ([.ref (a 0), .int (nI st)]) (n := 4) (Nat.le_of_ble_eq_true rfl)
  rw [lg_entry_eq]
  generalize (lg_sl ([.ref (a 0), .int (nI st)]) ++ List.replicate (4 - (lg_sl ([.ref (a 0), .int (nI st)])).length) Slot.unset).toArray = ls at hl ⊢
  have hl : lv_has ls 4 [(0, .ref (a 0)), (1, .int (nI st))] := hl
  rw [sp_freeFile] at hres
  refine lv_iload_n hx hb d_freeFile_0 rfl (lv_at hl 1 rfl) ?_
  refine lv_if_ge (tgt := 6) hx hb d_freeFile_1 (by decide) (fun h_3 => ?_) (fun h_3 => ?_)
  · rw [if_pos h_3] at hres
    refine lv_iload_n hx hb d_freeFile_6 rfl (lv_at hl 1 rfl) ?_
    refine lv_istore_n (lv' := [(2, .int (nI st)), (0, .ref (a 0)), (1, .int (nI st))]) hx hb d_freeFile_7 rfl hl (by decide) rfl (fun ls hl => ?_)
    exact loop _ st _ _ ls hst (by omega) hres hP hD hS (lv_sub hl [1, 0] rfl)
  · rw [if_neg h_3] at hres
    refine lv_null hx hb d_freeFile_4 ?_
    subst hres
    exact ml_aretN hx hb hr hlocks hP hK hD hS d_freeFile_5
def lp_freePipe (d : DK)  : Nat → Nat → Option (Fin 8)
  | 0, _ => none
  | n + 1, j =>
    (if (8 : Int32) ≤ (nI j) then none else (if (sp_Pipe_isGone d (Fin.ofNat 8 (nI j).toNatClampNeg)) = (0 : Int32) then (lp_freePipe d n (j + 1)) else (some (Fin.ofNat 8 (nI j).toNatClampNeg))))
def sp_freePipe (d : DK)  : Option (Fin 8) :=
  (lp_freePipe d (8 + 1) 0)
abbrev rm_freePipe : Room := { frames := 1, cells := 0, slots := 0, locals := 20 }
set_option maxHeartbeats 4000000 in
set_option maxRecDepth 100000 in
theorem c_freePipe (l : Launch) (dC : Nat → ClassId) (dI : Nat → Nat → Nat) (kc : Nat → ClassId) (a : Nat → Nat) (sz : Nat) (d : DK) (R' : Option (Fin 8)) (hres : sp_freePipe d = R') : Met l y_freePipe ws_freePipe rm_freePipe (va_Pc [.ref (a 0)] (ml_B (dC, dI) vwCl (tysD kc) 57 a (dcell kc a d) sz)) (va_Qq (fun r (_ : Unit) => r = R'.map (fun i => a (2 * i.val + 36))) (fun _ t => ml_E (dC, dI) vwCl (tysD kc) 57 a (dcell kc a d) (va_A (ml 57 a (dcell kc a d)) sz) t) (va_A (ml 57 a (dcell kc a d)) sz)) 0 0 (va_A (ml 57 a (dcell kc a d)) sz) := by
  refine Met.ofW (cc := prog_1_method_29_code) (maxL := 3) (ret := (some (.object "HandleDesk$Pipe"))) (by decide) rfl ?_
  intro p e s m args below meth c s₁ B hml hv
  obtain ⟨rfl, hsz, hP, hK, hD0⟩ := hv
  have hx := B.exec
  have hb := B.bytes
  have hr := B.returns
  have hts := atoms_spec (ws := ws_freePipe) B.pre
  have hown : s.vm.findClass "HandleDesk" = some m.cls := findClass_of_methodNamed B.named
  have hlocks := B.notSynchronized
  subst hsz
  have hD := hD0.self (sz := s.heap.size)
  generalize hAe : va_A (ml 57 a (dcell kc a d)) s.heap.size = A at hD ⊢
  have hA : ∀ q : Nat, s.heap.size ≤ q → A q := fun q h => by rw [← hAe]; exact Or.inr h
  have hS : va_S A s.heap s.heap [] := va_S.rf
  have loop : ∀ (n j : Nat) (H : Heap) (locs : List Loc) (ls : Array Slot), j ≤ 8 → j + n = 8 + 1 → lp_freePipe d n j = R' → va_P (dC, dI) vwCl (ml 57 a (dcell kc a d)) H → va_D A (ml 57 a (dcell kc a d)) → va_S A s.heap H locs → lv_has ls 3 [(0, .ref (a 0)), (1, .int (nI j))] → W p l e rm_freePipe s m ([.ref (a 0)] : List Value).toArray below meth c H locs 0 0 (MQ below (va_Qq (fun r (_ : Unit) => r = R'.map (fun i => a (2 * i.val + 36))) (fun _ t => ml_E (dC, dI) vwCl (tysD kc) 57 a (dcell kc a d) A t) A) ([.ref (a 0)] : List Value).toArray s 0 0 A) (F0 m 2 ls []) := by
    intro n
    induction n with
    | zero =>
      intro j H locs ls hj hn
      exact absurd hn (by omega)
    | succ n ih =>
      intro j H locs ls hj hn  hres hP hD hS hl
      rw [lp_freePipe] at hres
      refine lv_iload_n hx hb d_freePipe_2 rfl (lv_at hl 1 rfl) ?_
      refine lv_aload_n hx hb d_freePipe_3 rfl (lv_at hl 0 rfl) ?_
      refine ml_get (D := (dC, dI)) hx hb hts in_DC hown hK hP (0) (by decide) (dc_desk kc a d) rfl 2 (by decide) (hts _ (mC _ wd_125)) (fun _ h9 => h9) (v := .ref (a 35)) rfl d_freePipe_4 ?_
      refine ml_alen hx hb hK hP (35) 3 (by decide) (dc_pipes kc a d) rfl (v := 8) rfl d_freePipe_7 ?_
      refine lv_icmp_ge (tgt := 37) hx hb d_freePipe_8 (by decide) (fun h_1 => ?_) (fun h_1 => ?_)
      · rw [if_pos h_1] at hres
        refine lv_null hx hb d_freePipe_37 ?_
        subst hres
        exact ml_aretN hx hb hr hlocks hP hK hD hS d_freePipe_38
      · rw [if_neg h_1] at hres
        refine lv_aload_n hx hb d_freePipe_11 rfl (lv_at hl 0 rfl) ?_
        refine ml_get (D := (dC, dI)) hx hb hts in_DC hown hK hP (0) (by decide) (dc_desk kc a d) rfl 2 (by decide) (hts _ (mC _ wd_125)) (fun _ h9 => h9) (v := .ref (a 35)) rfl d_freePipe_12 ?_
        refine lv_iload_n hx hb d_freePipe_15 rfl (lv_at hl 1 rfl) ?_
        refine dk_ald_pipes hx hb hK hP (lp_in (b := (8 : Int32)) (B := 8) rfl (by decide) hj (by assumption)) d_freePipe_16 ?_
        refine lv_astore_n (lv' := [(2, .ref (a (2 * (Fin.ofNat 8 (nI j).toNatClampNeg).val + 36))), (0, .ref (a 0)), (1, .int (nI j))]) hx hb d_freePipe_17 rfl hl (by decide) rfl (fun ls hl => ?_)
        refine lv_aload_n hx hb d_freePipe_18 rfl (lv_at hl 0 rfl) ?_
        refine lv_ifnull hx hb d_freePipe_19 ?_
        refine lv_aload_n hx hb d_freePipe_22 rfl (lv_at hl 0 rfl) ?_
        refine ml_calli (va_runV (As := []) (rest := []) ⟨hx, hb, hml, hown, hts⟩ (c_Pipe_isGone l dC dI kc a _ d (Fin.ofNat 8 (nI j).toNatClampNeg) _ rfl) (cwV 0 hts (gd_V mC wd_189 wd_190 wd_191 wd_3 wd_192) rfl rfl rfl hd_Pipe_isGone ⟨Nat.le_of_ble_eq_true rfl, Nat.le_of_ble_eq_true rfl⟩) ⟨ml_blind, va_recv hK hP (ci := 2) rfl (ml_at (lt_pipe (Fin.ofNat 8 (nI j).toNatClampNeg)) (dc_pipe kc a d (Fin.ofNat 8 (nI j).toNatClampNeg))), ml_pre hP hK hD⟩ rfl rfl hl.1 rfl (lv_room (Nat.le_of_ble_eq_true rfl)) d_freePipe_23 ⟨Nat.zero_le _, Nat.zero_le _⟩) hD hS hA (fun H locs hP hD hS => ?_)
        refine lv_if_eq (tgt := 31) hx hb d_freePipe_26 (by decide) (fun h_2 => ?_) (fun h_2 => ?_)
        · rw [if_pos h_2] at hres
          refine lv_iinc (v := nI (j + 1)) (lv' := [(1, .int (nI (j + 1))), (2, .ref (a (2 * (Fin.ofNat 8 (nI j).toNatClampNeg).val + 36))), (0, .ref (a 0))]) hx hb d_freePipe_31 hl (k := 2) rfl (nI_1 j) (by decide) rfl (fun ls hl => ?_)
          refine lv_goto (tgt := 2) hx hb d_freePipe_34 (by decide) ?_
          exact ih (j + 1) _ _ ls (lp_adv (b := (8 : Int32)) (B := 8) rfl (by decide) hj (by assumption)) (by omega) hres hP hD hS (lv_sub hl [2, 0] rfl)
        · rw [if_neg h_2] at hres
          refine lv_aload_n hx hb d_freePipe_29 rfl (lv_at hl 0 rfl) ?_
          subst hres
          exact ml_aretS hx hb hr hlocks hP hK hD hS d_freePipe_30
  have hl := lv_entry ([.ref (a 0)]) (n := 3) (Nat.le_of_ble_eq_true rfl)
  rw [lg_entry_eq]
  generalize (lg_sl ([.ref (a 0)]) ++ List.replicate (3 - (lg_sl ([.ref (a 0)])).length) Slot.unset).toArray = ls at hl ⊢
  have hl : lv_has ls 3 [(0, .ref (a 0))] := hl
  rw [sp_freePipe] at hres
  refine lv_iconst (v := 0) hx hb d_freePipe_0 (by decide) ?_
  refine lv_istore_n (lv' := [(1, .int (0 : Int32)), (0, .ref (a 0))]) hx hb d_freePipe_1 rfl hl (by decide) rfl (fun ls hl => ?_)
  exact loop _ 0 _ _ ls (Nat.zero_le _) (by omega) hres hP hD hS (lv_sub hl [1, 0] rfl)
def sp_joinEnds (d : DK) (pk : Fin 8) (fl : Fin 32) (fm : Fin 32) : DK :=
  (sR (sp_File_begin (sR (sp_File_begin (sp_Pipe_begin d pk) fl (1 : Int32) (1 : Int32)) fl.val (some pk)) fm (1 : Int32) (2 : Int32)) fm.val (some pk))
abbrev rm_joinEnds : Room := { frames := 1, cells := 0, slots := 0, locals := 22 }
set_option maxHeartbeats 4000000 in
set_option maxRecDepth 100000 in
theorem c_joinEnds (l : Launch) (dC : Nat → ClassId) (dI : Nat → Nat → Nat) (kc : Nat → ClassId) (a : Nat → Nat) (sz : Nat) (d : DK) (pk : Fin 8) (fl : Fin 32) (fm : Fin 32) (d' : DK) (hres : sp_joinEnds d pk fl fm = d') : Met l y_joinEnds ws_joinEnds rm_joinEnds (va_Pc [.ref (a (2 * pk.val + 36)), .ref (a (fl.val + 3)), .ref (a (fm.val + 3))] (ml_B (dC, dI) vwCl (tysD kc) 57 a (dcell kc a d) sz)) (va_Qv (fun (_ : Unit) => True) (fun _ t => ml_E (dC, dI) vwCl (tysD kc) 57 a (dcell kc a d') (va_A (ml 57 a (dcell kc a d)) sz) t) (va_A (ml 57 a (dcell kc a d)) sz)) 0 0 (va_A (ml 57 a (dcell kc a d)) sz) := by
  refine Met.ofW (cc := prog_1_method_30_code) (maxL := 3) (ret := (none : Option Jvm.ClassFile.FieldType)) (by decide) rfl ?_
  intro p e s m args below meth c s₁ B hml hv
  obtain ⟨rfl, hsz, hP, hK, hD0⟩ := hv
  have hx := B.exec
  have hb := B.bytes
  have hr := B.returns
  have hts := atoms_spec (ws := ws_joinEnds) B.pre
  have hown : s.vm.findClass "HandleDesk" = some m.cls := findClass_of_methodNamed B.named
  have hlocks := B.notSynchronized
  subst hsz
  have hD := hD0.self (sz := s.heap.size)
  generalize hAe : va_A (ml 57 a (dcell kc a d)) s.heap.size = A at hD ⊢
  have hA : ∀ q : Nat, s.heap.size ≤ q → A q := fun q h => by rw [← hAe]; exact Or.inr h
  have hS : va_S A s.heap s.heap [] := va_S.rf
  have hl := lv_entry ([.ref (a (2 * pk.val + 36)), .ref (a (fl.val + 3)), .ref (a (fm.val + 3))]) (n := 3) (Nat.le_of_ble_eq_true rfl)
  rw [lg_entry_eq]
  generalize (lg_sl ([.ref (a (2 * pk.val + 36)), .ref (a (fl.val + 3)), .ref (a (fm.val + 3))]) ++ List.replicate (3 - (lg_sl ([.ref (a (2 * pk.val + 36)), .ref (a (fl.val + 3)), .ref (a (fm.val + 3))])).length) Slot.unset).toArray = ls at hl ⊢
  have hl : lv_has ls 3 [(0, .ref (a (2 * pk.val + 36))), (1, .ref (a (fl.val + 3))), (2, .ref (a (fm.val + 3)))] := hl
  rw [sp_joinEnds] at hres
  refine lv_aload_n hx hb d_joinEnds_0 rfl (lv_at hl 0 rfl) ?_
  refine ml_callv (va_runV (As := []) (rest := []) ⟨hx, hb, hml, hown, hts⟩ (c_Pipe_begin l dC dI kc a _ d pk _ rfl) (cwV 0 hts (gd_V mC wd_196 wd_197 wd_198 wd_3 wd_199) rfl rfl rfl hd_Pipe_begin ⟨Nat.le_of_ble_eq_true rfl, Nat.le_of_ble_eq_true rfl⟩) ⟨ml_blind, va_recv hK hP (ci := 2) rfl (ml_at (lt_pipe pk) (dc_pipe kc a d pk)), ml_pre hP hK hD⟩ rfl rfl hl.1 rfl (lv_room (Nat.le_of_ble_eq_true rfl)) d_joinEnds_1 ⟨Nat.zero_le _, Nat.zero_le _⟩) hD hS hA (fun H locs hP hD hS => ?_)
  refine lv_aload_n hx hb d_joinEnds_4 rfl (lv_at hl 1 rfl) ?_
  refine lv_iconst (v := 1) hx hb d_joinEnds_5 (by decide) ?_
  refine lv_iconst (v := 1) hx hb d_joinEnds_6 (by decide) ?_
  refine ml_callv (va_runV (As := [.int (1 : Int32), .int (1 : Int32)]) (rest := []) ⟨hx, hb, hml, hown, hts⟩ (c_File_begin l dC dI kc a _ (sp_Pipe_begin d pk) fl (1 : Int32) (1 : Int32) _ rfl) (cwV 2 hts (gd_V mC wd_173 wd_174 wd_175 wd_2 wd_176) rfl rfl rfl hd_File_begin ⟨Nat.le_of_ble_eq_true rfl, Nat.le_of_ble_eq_true rfl⟩) ⟨ml_blind, va_recv hK hP (ci := 1) rfl (ml_at (lt_file fl) (dc_file kc a (sp_Pipe_begin d pk) fl)), ml_pre hP hK hD⟩ rfl rfl hl.1 rfl (lv_room (Nat.le_of_ble_eq_true rfl)) d_joinEnds_7 ⟨Nat.zero_le _, Nat.zero_le _⟩) hD hS hA (fun H locs hP hD hS => ?_)
  refine lv_aload_n hx hb d_joinEnds_10 rfl (lv_at hl 1 rfl) ?_
  refine lv_aload_n hx hb d_joinEnds_11 rfl (lv_at hl 0 rfl) ?_
  refine ml_put (D := (dC, dI)) hx hb hts in_FC tyF tyF_ok nmF hown hK hP hD hS (fl.val + 3) (lt_file fl) (dc_file kc a (sp_File_begin (sp_Pipe_begin d pk) fl (1 : Int32) (1 : Int32)) fl) rfl 3 (by decide) (hts _ (mC _ wd_30)) (fun _ h9 => h9) rfl (ty := (.object "HandleDesk$Pipe")) (by decide +kernel) rfl rfl (Nat.le_of_ble_eq_true rfl) (f' := (dcell kc a (sR (sp_File_begin (sp_Pipe_begin d pk) fl (1 : Int32) (1 : Int32)) fl.val (some pk)))) (dw_row fl (some pk)) d_joinEnds_12 (fun H locs hP hD hS => ?_)
  refine lv_aload_n hx hb d_joinEnds_15 rfl (lv_at hl 2 rfl) ?_
  refine lv_iconst (v := 1) hx hb d_joinEnds_16 (by decide) ?_
  refine lv_iconst (v := 2) hx hb d_joinEnds_17 (by decide) ?_
  refine ml_callv (va_runV (As := [.int (1 : Int32), .int (2 : Int32)]) (rest := []) ⟨hx, hb, hml, hown, hts⟩ (c_File_begin l dC dI kc a _ (sR (sp_File_begin (sp_Pipe_begin d pk) fl (1 : Int32) (1 : Int32)) fl.val (some pk)) fm (1 : Int32) (2 : Int32) _ rfl) (cwV 2 hts (gd_V mC wd_173 wd_174 wd_175 wd_2 wd_176) rfl rfl rfl hd_File_begin ⟨Nat.le_of_ble_eq_true rfl, Nat.le_of_ble_eq_true rfl⟩) ⟨ml_blind, va_recv hK hP (ci := 1) rfl (ml_at (lt_file fm) (dc_file kc a (sR (sp_File_begin (sp_Pipe_begin d pk) fl (1 : Int32) (1 : Int32)) fl.val (some pk)) fm)), ml_pre hP hK hD⟩ rfl rfl hl.1 rfl (lv_room (Nat.le_of_ble_eq_true rfl)) d_joinEnds_18 ⟨Nat.zero_le _, Nat.zero_le _⟩) hD hS hA (fun H locs hP hD hS => ?_)
  refine lv_aload_n hx hb d_joinEnds_21 rfl (lv_at hl 2 rfl) ?_
  refine lv_aload_n hx hb d_joinEnds_22 rfl (lv_at hl 0 rfl) ?_
  refine ml_put (D := (dC, dI)) hx hb hts in_FC tyF tyF_ok nmF hown hK hP hD hS (fm.val + 3) (lt_file fm) (dc_file kc a (sp_File_begin (sR (sp_File_begin (sp_Pipe_begin d pk) fl (1 : Int32) (1 : Int32)) fl.val (some pk)) fm (1 : Int32) (2 : Int32)) fm) rfl 3 (by decide) (hts _ (mC _ wd_30)) (fun _ h9 => h9) rfl (ty := (.object "HandleDesk$Pipe")) (by decide +kernel) rfl rfl (Nat.le_of_ble_eq_true rfl) (f' := (dcell kc a (sR (sp_File_begin (sR (sp_File_begin (sp_Pipe_begin d pk) fl (1 : Int32) (1 : Int32)) fl.val (some pk)) fm (1 : Int32) (2 : Int32)) fm.val (some pk)))) (dw_row fm (some pk)) d_joinEnds_23 (fun H locs hP hD hS => ?_)
  subst hres
  exact ml_vret hx hb hr hlocks hP hK hD hS d_joinEnds_26
def sp_setName (d : DK) (pr : Int32) (x : Int32) (fl : Fin 32) : DK :=
  (if (sp_isProcess pr) = (0 : Int32) then d else (if (sp_isDescriptor x) = (0 : Int32) then d else (sI (sN d ((pr * (16 : Int32)) + x).toNatClampNeg (some fl)) 7 fl.val (((sN d ((pr * (16 : Int32)) + x).toNatClampNeg (some fl)).1 7 fl.val) + (1 : Int32)))))
abbrev rm_setName : Room := { frames := 1, cells := 0, slots := 0, locals := 20 }
set_option maxHeartbeats 4000000 in
set_option maxRecDepth 100000 in
theorem c_setName (l : Launch) (dC : Nat → ClassId) (dI : Nat → Nat → Nat) (kc : Nat → ClassId) (a : Nat → Nat) (sz : Nat) (d : DK) (pr : Int32) (x : Int32) (fl : Fin 32) (d' : DK) (hres : sp_setName d pr x fl = d') : Met l y_setName ws_setName rm_setName (va_Pc [.ref (a 0), .int pr, .int x, .ref (a (fl.val + 3))] (ml_B (dC, dI) vwCl (tysD kc) 57 a (dcell kc a d) sz)) (va_Qv (fun (_ : Unit) => True) (fun _ t => ml_E (dC, dI) vwCl (tysD kc) 57 a (dcell kc a d') (va_A (ml 57 a (dcell kc a d)) sz) t) (va_A (ml 57 a (dcell kc a d)) sz)) 0 0 (va_A (ml 57 a (dcell kc a d)) sz) := by
  refine Met.ofW (cc := prog_1_method_31_code) (maxL := 4) (ret := (none : Option Jvm.ClassFile.FieldType)) (by decide) rfl ?_
  intro p e s m args below meth c s₁ B hml hv
  obtain ⟨rfl, hsz, hP, hK, hD0⟩ := hv
  have hx := B.exec
  have hb := B.bytes
  have hr := B.returns
  have hts := atoms_spec (ws := ws_setName) B.pre
  have hown : s.vm.findClass "HandleDesk" = some m.cls := findClass_of_methodNamed B.named
  have hlocks := B.notSynchronized
  subst hsz
  have hD := hD0.self (sz := s.heap.size)
  generalize hAe : va_A (ml 57 a (dcell kc a d)) s.heap.size = A at hD ⊢
  have hA : ∀ q : Nat, s.heap.size ≤ q → A q := fun q h => by rw [← hAe]; exact Or.inr h
  have hS : va_S A s.heap s.heap [] := va_S.rf
  have hl := lv_entry ([.ref (a 0), .int pr, .int x, .ref (a (fl.val + 3))]) (n := 4) (Nat.le_of_ble_eq_true rfl)
  rw [lg_entry_eq]
  generalize (lg_sl ([.ref (a 0), .int pr, .int x, .ref (a (fl.val + 3))]) ++ List.replicate (4 - (lg_sl ([.ref (a 0), .int pr, .int x, .ref (a (fl.val + 3))])).length) Slot.unset).toArray = ls at hl ⊢
  have hl : lv_has ls 4 [(0, .ref (a 0)), (1, .int pr), (2, .int x), (3, .ref (a (fl.val + 3)))] := hl
  rw [sp_setName] at hres
  refine lv_iload_n hx hb d_setName_0 rfl (lv_at hl 1 rfl) ?_
  refine ml_calli (va_runS (As := [.int pr]) (rest := []) ⟨hx, hb, hml, hown, hts⟩ (c_isProcess l dC dI kc a _ d pr _ rfl) (cwS 1 hts (gd_S mC wd_149 wd_150 wd_1 wd_151) rfl rfl rfl hd_isProcess ⟨Nat.le_of_ble_eq_true rfl, Nat.le_of_ble_eq_true rfl⟩) ⟨ml_blind, ml_pre hP hK hD⟩ rfl rfl hl.1 rfl (lv_room (Nat.le_of_ble_eq_true rfl)) d_setName_1 ⟨Nat.zero_le _, Nat.zero_le _⟩) hD hS hA (fun H locs hP hD hS => ?_)
  refine lv_if_eq (tgt := 36) hx hb d_setName_4 (by decide) (fun h_1 => ?_) (fun h_1 => ?_)
  · rw [if_pos h_1] at hres
    subst hres
    exact ml_vret hx hb hr hlocks hP hK hD hS d_setName_36
  · rw [if_neg h_1] at hres
    refine lv_iload_n hx hb d_setName_7 rfl (lv_at hl 2 rfl) ?_
    refine ml_calli (va_runS (As := [.int x]) (rest := []) ⟨hx, hb, hml, hown, hts⟩ (c_isDescriptor l dC dI kc a _ d x _ rfl) (cwS 1 hts (gd_S mC wd_166 wd_167 wd_1 wd_168) rfl rfl rfl hd_isDescriptor ⟨Nat.le_of_ble_eq_true rfl, Nat.le_of_ble_eq_true rfl⟩) ⟨ml_blind, ml_pre hP hK hD⟩ rfl rfl hl.1 rfl (lv_room (Nat.le_of_ble_eq_true rfl)) d_setName_8 ⟨Nat.zero_le _, Nat.zero_le _⟩) hD hS hA (fun H locs hP hD hS => ?_)
    refine lv_if_eq (tgt := 36) hx hb d_setName_11 (by decide) (fun h_2 => ?_) (fun h_2 => ?_)
    · rw [if_pos h_2] at hres
      subst hres
      exact ml_vret hx hb hr hlocks hP hK hD hS d_setName_36
    · rw [if_neg h_2] at hres
      refine lv_aload_n hx hb d_setName_14 rfl (lv_at hl 0 rfl) ?_
      refine ml_get (D := (dC, dI)) hx hb hts in_DC hown hK hP (0) (by decide) (dc_desk kc a d) rfl 0 (by decide) (hts _ (mC _ wd_123)) (fun _ h9 => h9) (v := .ref (a 1)) rfl d_setName_15 ?_
      refine lv_iload_n hx hb d_setName_18 rfl (lv_at hl 1 rfl) ?_
      refine lv_bipush (v := 16) hx hb d_setName_19 (by decide) ?_
      refine lv_imul hx hb d_setName_21 ?_
      refine lv_iload_n hx hb d_setName_22 rfl (lv_at hl 2 rfl) ?_
      refine lv_iadd hx hb d_setName_23 ?_
      refine lv_aload_n hx hb d_setName_24 rfl (lv_at hl 3 rfl) ?_
      refine dk_ast_named hx hb hK hP hD hS (dk_in (by assumption) (by assumption)) d_setName_25 (fun H locs hP hD hS => ?_)
      refine lv_aload_n hx hb d_setName_26 rfl (lv_at hl 3 rfl) ?_
      refine lv_dup hx hb d_setName_27 rfl ?_
      refine ml_get (D := (dC, dI)) hx hb hts in_FC hown hK hP (fl.val + 3) (lt_file fl) (dc_file kc a (sN d ((pr * (16 : Int32)) + x).toNatClampNeg (some fl)) fl) rfl 7 (by decide) (hts _ (mC _ wd_38)) (fun _ h9 => h9) (v := .int ((sN d ((pr * (16 : Int32)) + x).toNatClampNeg (some fl)).1 7 fl.val)) rfl d_setName_28 ?_
      refine lv_iconst (v := 1) hx hb d_setName_31 (by decide) ?_
      refine lv_iadd hx hb d_setName_32 ?_
      refine ml_put (D := (dC, dI)) hx hb hts in_FC tyF tyF_ok nmF hown hK hP hD hS (fl.val + 3) (lt_file fl) (dc_file kc a (sN d ((pr * (16 : Int32)) + x).toNatClampNeg (some fl)) fl) rfl 7 (by decide) (hts _ (mC _ wd_38)) (fun _ h9 => h9) rfl (ty := .int) (by decide +kernel) rfl rfl (Nat.le_of_ble_eq_true rfl) (f' := (dcell kc a (sI (sN d ((pr * (16 : Int32)) + x).toNatClampNeg (some fl)) 7 fl.val (((sN d ((pr * (16 : Int32)) + x).toNatClampNeg (some fl)).1 7 fl.val) + (1 : Int32))))) (dw_7 fl (((sN d ((pr * (16 : Int32)) + x).toNatClampNeg (some fl)).1 7 fl.val) + (1 : Int32))) d_setName_33 (fun H locs hP hD hS => ?_)
      subst hres
      exact ml_vret hx hb hr hlocks hP hK hD hS d_setName_36
def sp_dropName (d : DK) (pr : Int32) (x : Int32) (fl : Fin 32) : Int32 × DK :=
  (if (sp_isProcess pr) = (0 : Int32) then ((0 : Int32), d) else (if (sp_isDescriptor x) = (0 : Int32) then ((0 : Int32), d) else (if ((sI (sN d ((pr * (16 : Int32)) + x).toNatClampNeg none) 7 fl.val (((sN d ((pr * (16 : Int32)) + x).toNatClampNeg none).1 7 fl.val) - (1 : Int32))).1 7 fl.val) ≤ (0 : Int32) then (oc ((sI (sN d ((pr * (16 : Int32)) + x).toNatClampNeg none) 7 fl.val (((sN d ((pr * (16 : Int32)) + x).toNatClampNeg none).1 7 fl.val) - (1 : Int32))).2.2 fl.val) (if (sI (sN d ((pr * (16 : Int32)) + x).toNatClampNeg none) 7 fl.val (((sN d ((pr * (16 : Int32)) + x).toNatClampNeg none).1 7 fl.val) - (1 : Int32))).1 2 fl.val = (2 : Int32) then ((1 : Int32), sI (sN d ((pr * (16 : Int32)) + x).toNatClampNeg none) 7 fl.val (((sN d ((pr * (16 : Int32)) + x).toNatClampNeg none).1 7 fl.val) - (1 : Int32))) else ((0 : Int32), sI (sN d ((pr * (16 : Int32)) + x).toNatClampNeg none) 7 fl.val (((sN d ((pr * (16 : Int32)) + x).toNatClampNeg none).1 7 fl.val) - (1 : Int32)))) (fun i_5 => (if (sp_Pipe_endClosed (sI (sN d ((pr * (16 : Int32)) + x).toNatClampNeg none) 7 fl.val (((sN d ((pr * (16 : Int32)) + x).toNatClampNeg none).1 7 fl.val) - (1 : Int32))) i_5 ((sI (sN d ((pr * (16 : Int32)) + x).toNatClampNeg none) 7 fl.val (((sN d ((pr * (16 : Int32)) + x).toNatClampNeg none).1 7 fl.val) - (1 : Int32))).1 4 fl.val)).1 2 fl.val = (2 : Int32) then ((1 : Int32), (sp_Pipe_endClosed (sI (sN d ((pr * (16 : Int32)) + x).toNatClampNeg none) 7 fl.val (((sN d ((pr * (16 : Int32)) + x).toNatClampNeg none).1 7 fl.val) - (1 : Int32))) i_5 ((sI (sN d ((pr * (16 : Int32)) + x).toNatClampNeg none) 7 fl.val (((sN d ((pr * (16 : Int32)) + x).toNatClampNeg none).1 7 fl.val) - (1 : Int32))).1 4 fl.val))) else ((0 : Int32), (sp_Pipe_endClosed (sI (sN d ((pr * (16 : Int32)) + x).toNatClampNeg none) 7 fl.val (((sN d ((pr * (16 : Int32)) + x).toNatClampNeg none).1 7 fl.val) - (1 : Int32))) i_5 ((sI (sN d ((pr * (16 : Int32)) + x).toNatClampNeg none) 7 fl.val (((sN d ((pr * (16 : Int32)) + x).toNatClampNeg none).1 7 fl.val) - (1 : Int32))).1 4 fl.val)))))) else ((0 : Int32), sI (sN d ((pr * (16 : Int32)) + x).toNatClampNeg none) 7 fl.val (((sN d ((pr * (16 : Int32)) + x).toNatClampNeg none).1 7 fl.val) - (1 : Int32))))))
abbrev rm_dropName : Room := { frames := 1, cells := 0, slots := 0, locals := 21 }
set_option maxHeartbeats 4000000 in
set_option maxRecDepth 100000 in
theorem c_dropName (l : Launch) (dC : Nat → ClassId) (dI : Nat → Nat → Nat) (kc : Nat → ClassId) (a : Nat → Nat) (sz : Nat) (d : DK) (pr : Int32) (x : Int32) (fl : Fin 32) (R' : Int32) (d' : DK) (hres : sp_dropName d pr x fl = (R', d')) : Met l y_dropName ws_dropName rm_dropName (va_Pc [.ref (a 0), .int pr, .int x, .ref (a (fl.val + 3))] (ml_B (dC, dI) vwCl (tysD kc) 57 a (dcell kc a d) sz)) (va_Qi (fun r (_ : Unit) => r = R') (fun _ t => ml_E (dC, dI) vwCl (tysD kc) 57 a (dcell kc a d') (va_A (ml 57 a (dcell kc a d)) sz) t) (va_A (ml 57 a (dcell kc a d)) sz)) 0 0 (va_A (ml 57 a (dcell kc a d)) sz) := by
  refine Met.ofW (cc := prog_1_method_32_code) (maxL := 4) (ret := (some .boolean)) (by decide) rfl ?_
  intro p e s m args below meth c s₁ B hml hv
  obtain ⟨rfl, hsz, hP, hK, hD0⟩ := hv
  have hx := B.exec
  have hb := B.bytes
  have hr := B.returns
  have hts := atoms_spec (ws := ws_dropName) B.pre
  have hown : s.vm.findClass "HandleDesk" = some m.cls := findClass_of_methodNamed B.named
  have hlocks := B.notSynchronized
  subst hsz
  have hD := hD0.self (sz := s.heap.size)
  generalize hAe : va_A (ml 57 a (dcell kc a d)) s.heap.size = A at hD ⊢
  have hA : ∀ q : Nat, s.heap.size ≤ q → A q := fun q h => by rw [← hAe]; exact Or.inr h
  have hS : va_S A s.heap s.heap [] := va_S.rf
  have hl := lv_entry ([.ref (a 0), .int pr, .int x, .ref (a (fl.val + 3))]) (n := 4) (Nat.le_of_ble_eq_true rfl)
  rw [lg_entry_eq]
  generalize (lg_sl ([.ref (a 0), .int pr, .int x, .ref (a (fl.val + 3))]) ++ List.replicate (4 - (lg_sl ([.ref (a 0), .int pr, .int x, .ref (a (fl.val + 3))])).length) Slot.unset).toArray = ls at hl ⊢
  have hl : lv_has ls 4 [(0, .ref (a 0)), (1, .int pr), (2, .int x), (3, .ref (a (fl.val + 3)))] := hl
  rw [sp_dropName] at hres
  refine lv_iload_n hx hb d_dropName_0 rfl (lv_at hl 1 rfl) ?_
  refine ml_calli (va_runS (As := [.int pr]) (rest := []) ⟨hx, hb, hml, hown, hts⟩ (c_isProcess l dC dI kc a _ d pr _ rfl) (cwS 1 hts (gd_S mC wd_149 wd_150 wd_1 wd_151) rfl rfl rfl hd_isProcess ⟨Nat.le_of_ble_eq_true rfl, Nat.le_of_ble_eq_true rfl⟩) ⟨ml_blind, ml_pre hP hK hD⟩ rfl rfl hl.1 rfl (lv_room (Nat.le_of_ble_eq_true rfl)) d_dropName_1 ⟨Nat.zero_le _, Nat.zero_le _⟩) hD hS hA (fun H locs hP hD hS => ?_)
  refine lv_if_eq (tgt := 14) hx hb d_dropName_4 (by decide) (fun h_1 => ?_) (fun h_1 => ?_)
  · rw [if_pos h_1] at hres
    refine lv_iconst (v := 0) hx hb d_dropName_14 (by decide) ?_
    obtain ⟨rfl, rfl⟩ := Prod.mk.inj hres
    exact ml_zret hx hb hr (by decide) hlocks hP hK hD hS d_dropName_15
  · rw [if_neg h_1] at hres
    refine lv_iload_n hx hb d_dropName_7 rfl (lv_at hl 2 rfl) ?_
    refine ml_calli (va_runS (As := [.int x]) (rest := []) ⟨hx, hb, hml, hown, hts⟩ (c_isDescriptor l dC dI kc a _ d x _ rfl) (cwS 1 hts (gd_S mC wd_166 wd_167 wd_1 wd_168) rfl rfl rfl hd_isDescriptor ⟨Nat.le_of_ble_eq_true rfl, Nat.le_of_ble_eq_true rfl⟩) ⟨ml_blind, ml_pre hP hK hD⟩ rfl rfl hl.1 rfl (lv_room (Nat.le_of_ble_eq_true rfl)) d_dropName_8 ⟨Nat.zero_le _, Nat.zero_le _⟩) hD hS hA (fun H locs hP hD hS => ?_)
    refine lv_if_ne (tgt := 16) hx hb d_dropName_11 (by decide) (fun h_2 => ?_) (fun h_2 => ?_)
    · rw [if_neg h_2] at hres
      refine lv_aload_n hx hb d_dropName_16 rfl (lv_at hl 0 rfl) ?_
      refine ml_get (D := (dC, dI)) hx hb hts in_DC hown hK hP (0) (by decide) (dc_desk kc a d) rfl 0 (by decide) (hts _ (mC _ wd_123)) (fun _ h9 => h9) (v := .ref (a 1)) rfl d_dropName_17 ?_
      refine lv_iload_n hx hb d_dropName_20 rfl (lv_at hl 1 rfl) ?_
      refine lv_bipush (v := 16) hx hb d_dropName_21 (by decide) ?_
      refine lv_imul hx hb d_dropName_23 ?_
      refine lv_iload_n hx hb d_dropName_24 rfl (lv_at hl 2 rfl) ?_
      refine lv_iadd hx hb d_dropName_25 ?_
      refine lv_null hx hb d_dropName_26 ?_
      refine dk_astN_named hx hb hK hP hD hS (dk_in (by assumption) (by assumption)) d_dropName_27 (fun H locs hP hD hS => ?_)
      refine lv_aload_n hx hb d_dropName_28 rfl (lv_at hl 3 rfl) ?_
      refine lv_dup hx hb d_dropName_29 rfl ?_
      refine ml_get (D := (dC, dI)) hx hb hts in_FC hown hK hP (fl.val + 3) (lt_file fl) (dc_file kc a (sN d ((pr * (16 : Int32)) + x).toNatClampNeg none) fl) rfl 7 (by decide) (hts _ (mC _ wd_38)) (fun _ h9 => h9) (v := .int ((sN d ((pr * (16 : Int32)) + x).toNatClampNeg none).1 7 fl.val)) rfl d_dropName_30 ?_
      refine lv_iconst (v := 1) hx hb d_dropName_33 (by decide) ?_
      refine lv_isub hx hb d_dropName_34 ?_
      refine ml_put (D := (dC, dI)) hx hb hts in_FC tyF tyF_ok nmF hown hK hP hD hS (fl.val + 3) (lt_file fl) (dc_file kc a (sN d ((pr * (16 : Int32)) + x).toNatClampNeg none) fl) rfl 7 (by decide) (hts _ (mC _ wd_38)) (fun _ h9 => h9) rfl (ty := .int) (by decide +kernel) rfl rfl (Nat.le_of_ble_eq_true rfl) (f' := (dcell kc a (sI (sN d ((pr * (16 : Int32)) + x).toNatClampNeg none) 7 fl.val (((sN d ((pr * (16 : Int32)) + x).toNatClampNeg none).1 7 fl.val) - (1 : Int32))))) (dw_7 fl (((sN d ((pr * (16 : Int32)) + x).toNatClampNeg none).1 7 fl.val) - (1 : Int32))) d_dropName_35 (fun H locs hP hD hS => ?_)
      refine lv_aload_n hx hb d_dropName_38 rfl (lv_at hl 3 rfl) ?_
      refine ml_get (D := (dC, dI)) hx hb hts in_FC hown hK hP (fl.val + 3) (lt_file fl) (dc_file kc a (sI (sN d ((pr * (16 : Int32)) + x).toNatClampNeg none) 7 fl.val (((sN d ((pr * (16 : Int32)) + x).toNatClampNeg none).1 7 fl.val) - (1 : Int32))) fl) rfl 7 (by decide) (hts _ (mC _ wd_38)) (fun _ h9 => h9) (v := .int ((sI (sN d ((pr * (16 : Int32)) + x).toNatClampNeg none) 7 fl.val (((sN d ((pr * (16 : Int32)) + x).toNatClampNeg none).1 7 fl.val) - (1 : Int32))).1 7 fl.val)) rfl d_dropName_39 ?_
      refine lv_if_le (tgt := 47) hx hb d_dropName_42 (by decide) (fun h_3 => ?_) (fun h_3 => ?_)
      · rw [if_pos h_3] at hres
        refine lv_aload_n hx hb d_dropName_47 rfl (lv_at hl 3 rfl) ?_
        refine ml_get (D := (dC, dI)) hx hb hts in_FC hown hK hP (fl.val + 3) (lt_file fl) (dc_file kc a (sI (sN d ((pr * (16 : Int32)) + x).toNatClampNeg none) 7 fl.val (((sN d ((pr * (16 : Int32)) + x).toNatClampNeg none).1 7 fl.val) - (1 : Int32))) fl) rfl 3 (by decide) (hts _ (mC _ wd_30)) (fun _ h9 => h9) (v := va_rf (((sI (sN d ((pr * (16 : Int32)) + x).toNatClampNeg none) 7 fl.val (((sN d ((pr * (16 : Int32)) + x).toNatClampNeg none).1 7 fl.val) - (1 : Int32))).2.2 fl.val).map (fun i => a (2 * i.val + 36)))) rfl d_dropName_48 ?_
        refine ml_split (fun q_4 => ?_) (fun i_5 q_4 => ?_)
        · rw [q_4, oc_n] at hres
          refine lv_ifnullN (tgt := 65) hx hb d_dropName_51 (by decide) ?_
          refine lv_aload_n hx hb d_dropName_65 rfl (lv_at hl 3 rfl) ?_
          refine ml_get (D := (dC, dI)) hx hb hts in_FC hown hK hP (fl.val + 3) (lt_file fl) (dc_file kc a (sI (sN d ((pr * (16 : Int32)) + x).toNatClampNeg none) 7 fl.val (((sN d ((pr * (16 : Int32)) + x).toNatClampNeg none).1 7 fl.val) - (1 : Int32))) fl) rfl 1 (by decide) (hts _ (mC _ wd_26)) (fun _ h9 => h9) (v := .int ((sI (sN d ((pr * (16 : Int32)) + x).toNatClampNeg none) 7 fl.val (((sN d ((pr * (16 : Int32)) + x).toNatClampNeg none).1 7 fl.val) - (1 : Int32))).1 2 fl.val)) rfl d_dropName_66 ?_
          refine lv_iconst (v := 2) hx hb d_dropName_69 (by decide) ?_
          refine lv_icmp_ne (tgt := 77) hx hb d_dropName_70 (by decide) (fun h_6 => ?_) (fun h_6 => ?_)
          · rw [if_neg h_6] at hres
            refine lv_iconst (v := 0) hx hb d_dropName_77 (by decide) ?_
            obtain ⟨rfl, rfl⟩ := Prod.mk.inj hres
            exact ml_zret hx hb hr (by decide) hlocks hP hK hD hS d_dropName_78
          · rw [if_pos h_6] at hres
            refine lv_iconst (v := 1) hx hb d_dropName_73 (by decide) ?_
            refine lv_goto (tgt := 78) hx hb d_dropName_74 (by decide) ?_
            obtain ⟨rfl, rfl⟩ := Prod.mk.inj hres
            exact ml_zret hx hb hr (by decide) hlocks hP hK hD hS d_dropName_78
        · rw [q_4, oc_s] at hres
          refine lv_ifnull hx hb d_dropName_51 ?_
          refine lv_aload_n hx hb d_dropName_54 rfl (lv_at hl 3 rfl) ?_
          refine ml_get (D := (dC, dI)) hx hb hts in_FC hown hK hP (fl.val + 3) (lt_file fl) (dc_file kc a (sI (sN d ((pr * (16 : Int32)) + x).toNatClampNeg none) 7 fl.val (((sN d ((pr * (16 : Int32)) + x).toNatClampNeg none).1 7 fl.val) - (1 : Int32))) fl) rfl 3 (by decide) (hts _ (mC _ wd_30)) (fun _ h9 => h9) (v := va_rf (((sI (sN d ((pr * (16 : Int32)) + x).toNatClampNeg none) 7 fl.val (((sN d ((pr * (16 : Int32)) + x).toNatClampNeg none).1 7 fl.val) - (1 : Int32))).2.2 fl.val).map (fun i => a (2 * i.val + 36)))) rfl d_dropName_55 ?_
          refine ml_isS q_4 ?_
          refine lv_aload_n hx hb d_dropName_58 rfl (lv_at hl 3 rfl) ?_
          refine ml_get (D := (dC, dI)) hx hb hts in_FC hown hK hP (fl.val + 3) (lt_file fl) (dc_file kc a (sI (sN d ((pr * (16 : Int32)) + x).toNatClampNeg none) 7 fl.val (((sN d ((pr * (16 : Int32)) + x).toNatClampNeg none).1 7 fl.val) - (1 : Int32))) fl) rfl 4 (by decide) (hts _ (mC _ wd_32)) (fun _ h9 => h9) (v := .int ((sI (sN d ((pr * (16 : Int32)) + x).toNatClampNeg none) 7 fl.val (((sN d ((pr * (16 : Int32)) + x).toNatClampNeg none).1 7 fl.val) - (1 : Int32))).1 4 fl.val)) rfl d_dropName_59 ?_
          refine ml_callv (va_runV (As := [.int ((sI (sN d ((pr * (16 : Int32)) + x).toNatClampNeg none) 7 fl.val (((sN d ((pr * (16 : Int32)) + x).toNatClampNeg none).1 7 fl.val) - (1 : Int32))).1 4 fl.val)]) (rest := []) ⟨hx, hb, hml, hown, hts⟩ (c_Pipe_endClosed l dC dI kc a _ (sI (sN d ((pr * (16 : Int32)) + x).toNatClampNeg none) 7 fl.val (((sN d ((pr * (16 : Int32)) + x).toNatClampNeg none).1 7 fl.val) - (1 : Int32))) i_5 ((sI (sN d ((pr * (16 : Int32)) + x).toNatClampNeg none) 7 fl.val (((sN d ((pr * (16 : Int32)) + x).toNatClampNeg none).1 7 fl.val) - (1 : Int32))).1 4 fl.val) _ rfl) (cwV 1 hts (gd_V mC wd_212 wd_213 wd_214 wd_3 wd_215) rfl rfl rfl hd_Pipe_endClosed ⟨Nat.le_of_ble_eq_true rfl, Nat.le_of_ble_eq_true rfl⟩) ⟨ml_blind, va_recv hK hP (ci := 2) rfl (ml_at (lt_pipe i_5) (dc_pipe kc a (sI (sN d ((pr * (16 : Int32)) + x).toNatClampNeg none) 7 fl.val (((sN d ((pr * (16 : Int32)) + x).toNatClampNeg none).1 7 fl.val) - (1 : Int32))) i_5)), ml_pre hP hK hD⟩ rfl rfl hl.1 rfl (lv_room (Nat.le_of_ble_eq_true rfl)) d_dropName_62 ⟨Nat.zero_le _, Nat.zero_le _⟩) hD hS hA (fun H locs hP hD hS => ?_)
          refine lv_aload_n hx hb d_dropName_65 rfl (lv_at hl 3 rfl) ?_
          refine ml_get (D := (dC, dI)) hx hb hts in_FC hown hK hP (fl.val + 3) (lt_file fl) (dc_file kc a (sp_Pipe_endClosed (sI (sN d ((pr * (16 : Int32)) + x).toNatClampNeg none) 7 fl.val (((sN d ((pr * (16 : Int32)) + x).toNatClampNeg none).1 7 fl.val) - (1 : Int32))) i_5 ((sI (sN d ((pr * (16 : Int32)) + x).toNatClampNeg none) 7 fl.val (((sN d ((pr * (16 : Int32)) + x).toNatClampNeg none).1 7 fl.val) - (1 : Int32))).1 4 fl.val)) fl) rfl 1 (by decide) (hts _ (mC _ wd_26)) (fun _ h9 => h9) (v := .int ((sp_Pipe_endClosed (sI (sN d ((pr * (16 : Int32)) + x).toNatClampNeg none) 7 fl.val (((sN d ((pr * (16 : Int32)) + x).toNatClampNeg none).1 7 fl.val) - (1 : Int32))) i_5 ((sI (sN d ((pr * (16 : Int32)) + x).toNatClampNeg none) 7 fl.val (((sN d ((pr * (16 : Int32)) + x).toNatClampNeg none).1 7 fl.val) - (1 : Int32))).1 4 fl.val)).1 2 fl.val)) rfl d_dropName_66 ?_
          refine lv_iconst (v := 2) hx hb d_dropName_69 (by decide) ?_
          refine lv_icmp_ne (tgt := 77) hx hb d_dropName_70 (by decide) (fun h_7 => ?_) (fun h_7 => ?_)
          · rw [if_neg h_7] at hres
            refine lv_iconst (v := 0) hx hb d_dropName_77 (by decide) ?_
            obtain ⟨rfl, rfl⟩ := Prod.mk.inj hres
            exact ml_zret hx hb hr (by decide) hlocks hP hK hD hS d_dropName_78
          · rw [if_pos h_7] at hres
            refine lv_iconst (v := 1) hx hb d_dropName_73 (by decide) ?_
            refine lv_goto (tgt := 78) hx hb d_dropName_74 (by decide) ?_
            obtain ⟨rfl, rfl⟩ := Prod.mk.inj hres
            exact ml_zret hx hb hr (by decide) hlocks hP hK hD hS d_dropName_78
      · rw [if_neg h_3] at hres
        refine lv_iconst (v := 0) hx hb d_dropName_45 (by decide) ?_
        obtain ⟨rfl, rfl⟩ := Prod.mk.inj hres
        exact ml_zret hx hb hr (by decide) hlocks hP hK hD hS d_dropName_46
    · rw [if_pos h_2] at hres
      refine lv_iconst (v := 0) hx hb d_dropName_14 (by decide) ?_
      obtain ⟨rfl, rfl⟩ := Prod.mk.inj hres
      exact ml_zret hx hb hr (by decide) hlocks hP hK hD hS d_dropName_15
def sp_keepLeft (d : DK) (ino : Int32) : DK :=
  (if (d.1 0 0) < (0 : Int32) then d else (if (16 : Int32) ≤ (d.1 0 0) then d else (sI (sI d 1 (d.1 0 0).toNatClampNeg ino) 0 0 (((sI d 1 (d.1 0 0).toNatClampNeg ino).1 0 0) + (1 : Int32)))))
abbrev rm_keepLeft : Room := { frames := 0, cells := 0, slots := 0, locals := 0 }
set_option maxHeartbeats 4000000 in
set_option maxRecDepth 100000 in
theorem c_keepLeft (l : Launch) (dC : Nat → ClassId) (dI : Nat → Nat → Nat) (kc : Nat → ClassId) (a : Nat → Nat) (sz : Nat) (d : DK) (ino : Int32) (d' : DK) (hres : sp_keepLeft d ino = d') : Met l y_keepLeft ws_keepLeft rm_keepLeft (va_Pc [.ref (a 0), .int ino] (ml_B (dC, dI) vwCl (tysD kc) 57 a (dcell kc a d) sz)) (va_Qv (fun (_ : Unit) => True) (fun _ t => ml_E (dC, dI) vwCl (tysD kc) 57 a (dcell kc a d') (va_A (ml 57 a (dcell kc a d)) sz) t) (va_A (ml 57 a (dcell kc a d)) sz)) 0 0 (va_A (ml 57 a (dcell kc a d)) sz) := by
  refine Met.ofW (cc := prog_1_method_33_code) (maxL := 2) (ret := (none : Option Jvm.ClassFile.FieldType)) (by decide) rfl ?_
  intro p e s m args below meth c s₁ B hml hv
  obtain ⟨rfl, hsz, hP, hK, hD0⟩ := hv
  have hx := B.exec
  have hb := B.bytes
  have hr := B.returns
  have hts := atoms_spec (ws := ws_keepLeft) B.pre
  have hown : s.vm.findClass "HandleDesk" = some m.cls := findClass_of_methodNamed B.named
  have hlocks := B.notSynchronized
  subst hsz
  have hD := hD0.self (sz := s.heap.size)
  generalize hAe : va_A (ml 57 a (dcell kc a d)) s.heap.size = A at hD ⊢
  have hA : ∀ q : Nat, s.heap.size ≤ q → A q := fun q h => by rw [← hAe]; exact Or.inr h
  have hS : va_S A s.heap s.heap [] := va_S.rf
  have hl := lv_entry ([.ref (a 0), .int ino]) (n := 2) (Nat.le_of_ble_eq_true rfl)
  rw [lg_entry_eq]
  generalize (lg_sl ([.ref (a 0), .int ino]) ++ List.replicate (2 - (lg_sl ([.ref (a 0), .int ino])).length) Slot.unset).toArray = ls at hl ⊢
  have hl : lv_has ls 2 [(0, .ref (a 0)), (1, .int ino)] := hl
  rw [sp_keepLeft] at hres
  refine lv_aload_n hx hb d_keepLeft_0 rfl (lv_at hl 0 rfl) ?_
  refine ml_get (D := (dC, dI)) hx hb hts in_DC hown hK hP (0) (by decide) (dc_desk kc a d) rfl 4 (by decide) (hts _ (mC _ wd_127)) (fun _ h9 => h9) (v := .int (d.1 0 0)) rfl d_keepLeft_1 ?_
  refine lv_if_lt (tgt := 39) hx hb d_keepLeft_4 (by decide) (fun h_1 => ?_) (fun h_1 => ?_)
  · rw [if_pos h_1] at hres
    subst hres
    exact ml_vret hx hb hr hlocks hP hK hD hS d_keepLeft_39
  · rw [if_neg h_1] at hres
    refine lv_aload_n hx hb d_keepLeft_7 rfl (lv_at hl 0 rfl) ?_
    refine ml_get (D := (dC, dI)) hx hb hts in_DC hown hK hP (0) (by decide) (dc_desk kc a d) rfl 4 (by decide) (hts _ (mC _ wd_127)) (fun _ h9 => h9) (v := .int (d.1 0 0)) rfl d_keepLeft_8 ?_
    refine lv_aload_n hx hb d_keepLeft_11 rfl (lv_at hl 0 rfl) ?_
    refine ml_get (D := (dC, dI)) hx hb hts in_DC hown hK hP (0) (by decide) (dc_desk kc a d) rfl 3 (by decide) (hts _ (mC _ wd_126)) (fun _ h9 => h9) (v := .ref (a 52)) rfl d_keepLeft_12 ?_
    refine ml_alen hx hb hK hP (52) 0 (by decide) (dc_left kc a d) rfl (v := 16) rfl d_keepLeft_15 ?_
    refine lv_icmp_ge (tgt := 39) hx hb d_keepLeft_16 (by decide) (fun h_2 => ?_) (fun h_2 => ?_)
    · rw [if_pos h_2] at hres
      subst hres
      exact ml_vret hx hb hr hlocks hP hK hD hS d_keepLeft_39
    · rw [if_neg h_2] at hres
      refine lv_aload_n hx hb d_keepLeft_19 rfl (lv_at hl 0 rfl) ?_
      refine ml_get (D := (dC, dI)) hx hb hts in_DC hown hK hP (0) (by decide) (dc_desk kc a d) rfl 3 (by decide) (hts _ (mC _ wd_126)) (fun _ h9 => h9) (v := .ref (a 52)) rfl d_keepLeft_20 ?_
      refine lv_aload_n hx hb d_keepLeft_23 rfl (lv_at hl 0 rfl) ?_
      refine ml_get (D := (dC, dI)) hx hb hts in_DC hown hK hP (0) (by decide) (dc_desk kc a d) rfl 4 (by decide) (hts _ (mC _ wd_127)) (fun _ h9 => h9) (v := .int (d.1 0 0)) rfl d_keepLeft_24 ?_
      refine lv_iload_n hx hb d_keepLeft_27 rfl (lv_at hl 1 rfl) ?_
      refine ml_iast hx hb hK hP hD hS (52) 0 (by decide) (dc_left kc a d) rfl (in_cmp (b := (16 : Int32)) rfl (by decide) (by assumption) (by assumption)) (f' := (dcell kc a (sI d 1 (d.1 0 0).toNatClampNeg ino))) (dw_left (d.1 0 0).toNatClampNeg ino) d_keepLeft_28 (fun H locs hP hD hS => ?_)
      refine lv_aload_n hx hb d_keepLeft_29 rfl (lv_at hl 0 rfl) ?_
      refine lv_dup hx hb d_keepLeft_30 rfl ?_
      refine ml_get (D := (dC, dI)) hx hb hts in_DC hown hK hP (0) (by decide) (dc_desk kc a (sI d 1 (d.1 0 0).toNatClampNeg ino)) rfl 4 (by decide) (hts _ (mC _ wd_127)) (fun _ h9 => h9) (v := .int ((sI d 1 (d.1 0 0).toNatClampNeg ino).1 0 0)) rfl d_keepLeft_31 ?_
      refine lv_iconst (v := 1) hx hb d_keepLeft_34 (by decide) ?_
      refine lv_iadd hx hb d_keepLeft_35 ?_
      refine ml_put (D := (dC, dI)) hx hb hts in_DC tyD tyD_ok nmD hown hK hP hD hS (0) (by decide) (dc_desk kc a (sI d 1 (d.1 0 0).toNatClampNeg ino)) rfl 4 (by decide) (hts _ (mC _ wd_127)) (fun _ h9 => h9) rfl (ty := .int) (by decide +kernel) rfl rfl (Nat.le_of_ble_eq_true rfl) (f' := (dcell kc a (sI (sI d 1 (d.1 0 0).toNatClampNeg ino) 0 0 (((sI d 1 (d.1 0 0).toNatClampNeg ino).1 0 0) + (1 : Int32))))) (dw_0 (((sI d 1 (d.1 0 0).toNatClampNeg ino).1 0 0) + (1 : Int32))) d_keepLeft_36 (fun H locs hP hD hS => ?_)
      subst hres
      exact ml_vret hx hb hr hlocks hP hK hD hS d_keepLeft_39
def lp_takeBack (bt : Int32) : Nat → Nat → DK → DK
  | 0, _, d => d
  | n + 1, j, d =>
    (if bt ≤ (nI j) then d else (lp_takeBack bt n (j + 1) (sp_Scr_addLast (sp_Scr_addLast (sp_Scr_addLast (sp_Con_dropLastOfLine d) (8 : Int32)) (32 : Int32)) (8 : Int32))))
def sp_takeBack (d : DK) (bt : Int32) : DK :=
  (lp_takeBack bt (bt.toNatClampNeg + 1) 0 d)
abbrev rm_takeBack : Room := { frames := 1, cells := 0, slots := 0, locals := 21 }
set_option maxHeartbeats 4000000 in
set_option maxRecDepth 100000 in
theorem c_takeBack (l : Launch) (dC : Nat → ClassId) (dI : Nat → Nat → Nat) (kc : Nat → ClassId) (a : Nat → Nat) (sz : Nat) (d : DK) (bt : Int32) (d' : DK) (hres : sp_takeBack d bt = d') : Met l y_takeBack ws_takeBack rm_takeBack (va_Pc [.ref (a 0), .int bt] (ml_B (dC, dI) vwCl (tysD kc) 57 a (dcell kc a d) sz)) (va_Qv (fun (_ : Unit) => True) (fun _ t => ml_E (dC, dI) vwCl (tysD kc) 57 a (dcell kc a d') (va_A (ml 57 a (dcell kc a d)) sz) t) (va_A (ml 57 a (dcell kc a d)) sz)) 0 0 (va_A (ml 57 a (dcell kc a d)) sz) := by
  refine Met.ofW (cc := prog_1_method_34_code) (maxL := 3) (ret := (none : Option Jvm.ClassFile.FieldType)) (by decide) rfl ?_
  intro p e s m args below meth c s₁ B hml hv
  obtain ⟨rfl, hsz, hP, hK, hD0⟩ := hv
  have hx := B.exec
  have hb := B.bytes
  have hr := B.returns
  have hts := atoms_spec (ws := ws_takeBack) B.pre
  have hown : s.vm.findClass "HandleDesk" = some m.cls := findClass_of_methodNamed B.named
  have hlocks := B.notSynchronized
  subst hsz
  have hD := hD0.self (sz := s.heap.size)
  generalize hAe : va_A (ml 57 a (dcell kc a d)) s.heap.size = A at hD ⊢
  have hA : ∀ q : Nat, s.heap.size ≤ q → A q := fun q h => by rw [← hAe]; exact Or.inr h
  have hS : va_S A s.heap s.heap [] := va_S.rf
  have loop : ∀ (n j : Nat) (d : DK) (H : Heap) (locs : List Loc) (ls : Array Slot), j ≤ bt.toNatClampNeg → j + n = bt.toNatClampNeg + 1 → lp_takeBack bt n j d = d' → va_P (dC, dI) vwCl (ml 57 a (dcell kc a d)) H → va_D A (ml 57 a (dcell kc a d)) → va_S A s.heap H locs → lv_has ls 3 [(0, .ref (a 0)), (1, .int bt), (2, .int (nI j))] → W p l e rm_takeBack s m ([.ref (a 0), .int bt] : List Value).toArray below meth c H locs 0 0 (MQ below (va_Qv (fun (_ : Unit) => True) (fun _ t => ml_E (dC, dI) vwCl (tysD kc) 57 a (dcell kc a d') A t) A) ([.ref (a 0), .int bt] : List Value).toArray s 0 0 A) (F0 m 2 ls []) := by
    intro n
    induction n with
    | zero =>
      intro j d H locs ls hj hn
      exact absurd hn (by omega)
    | succ n ih =>
      intro j d H locs ls hj hn  hres hP hD hS hl
      rw [lp_takeBack] at hres
      refine lv_iload_n hx hb d_takeBack_2 rfl (lv_at hl 2 rfl) ?_
      refine lv_iload_n hx hb d_takeBack_3 rfl (lv_at hl 1 rfl) ?_
      refine lv_icmp_ge (tgt := 47) hx hb d_takeBack_4 (by decide) (fun h_1 => ?_) (fun h_1 => ?_)
      · rw [if_pos h_1] at hres
        subst hres
        exact ml_vret hx hb hr hlocks hP hK hD hS d_takeBack_47
      · rw [if_neg h_1] at hres
        refine lv_aload_n hx hb d_takeBack_7 rfl (lv_at hl 0 rfl) ?_
        refine ml_get (D := (dC, dI)) hx hb hts in_DC hown hK hP (0) (by decide) (dc_desk kc a d) rfl 5 (by decide) (hts _ (mC _ wd_128)) (fun _ h9 => h9) (v := .ref (a 53)) rfl d_takeBack_8 ?_
        refine ml_callv (va_runV (As := []) (rest := []) ⟨hx, hb, hml, hown, hts⟩ (c_Con_dropLastOfLine l dC dI kc a _ d _ rfl) (cwV 0 hts (gd_V mC wd_286 wd_287 wd_288 wd_4 wd_289) rfl rfl rfl hd_Con_dropLastOfLine ⟨Nat.le_of_ble_eq_true rfl, Nat.le_of_ble_eq_true rfl⟩) ⟨ml_blind, va_recv hK hP (ci := 3) rfl (ml_at (by decide) (dc_con kc a d)), ml_pre hP hK hD⟩ rfl rfl hl.1 rfl (lv_room (Nat.le_of_ble_eq_true rfl)) d_takeBack_11 ⟨Nat.zero_le _, Nat.zero_le _⟩) hD hS hA (fun H locs hP hD hS => ?_)
        refine lv_aload_n hx hb d_takeBack_14 rfl (lv_at hl 0 rfl) ?_
        refine ml_get (D := (dC, dI)) hx hb hts in_DC hown hK hP (0) (by decide) (dc_desk kc a (sp_Con_dropLastOfLine d)) rfl 6 (by decide) (hts _ (mC _ wd_129)) (fun _ h9 => h9) (v := .ref (a 55)) rfl d_takeBack_15 ?_
        refine lv_bipush (v := 8) hx hb d_takeBack_18 (by decide) ?_
        refine ml_callv (va_runV (As := [.int (8 : Int32)]) (rest := []) ⟨hx, hb, hml, hown, hts⟩ (c_Scr_addLast l dC dI kc a _ (sp_Con_dropLastOfLine d) (8 : Int32) _ rfl) (cwV 1 hts (gd_V mC wd_290 wd_291 wd_292 wd_5 wd_293) rfl rfl rfl hd_Scr_addLast ⟨Nat.le_of_ble_eq_true rfl, Nat.le_of_ble_eq_true rfl⟩) ⟨ml_blind, va_recv hK hP (ci := 4) rfl (ml_at (by decide) (dc_scr kc a (sp_Con_dropLastOfLine d))), ml_pre hP hK hD⟩ rfl rfl hl.1 rfl (lv_room (Nat.le_of_ble_eq_true rfl)) d_takeBack_20 ⟨Nat.zero_le _, Nat.zero_le _⟩) hD hS hA (fun H locs hP hD hS => ?_)
        refine lv_aload_n hx hb d_takeBack_23 rfl (lv_at hl 0 rfl) ?_
        refine ml_get (D := (dC, dI)) hx hb hts in_DC hown hK hP (0) (by decide) (dc_desk kc a (sp_Scr_addLast (sp_Con_dropLastOfLine d) (8 : Int32))) rfl 6 (by decide) (hts _ (mC _ wd_129)) (fun _ h9 => h9) (v := .ref (a 55)) rfl d_takeBack_24 ?_
        refine lv_bipush (v := 32) hx hb d_takeBack_27 (by decide) ?_
        refine ml_callv (va_runV (As := [.int (32 : Int32)]) (rest := []) ⟨hx, hb, hml, hown, hts⟩ (c_Scr_addLast l dC dI kc a _ (sp_Scr_addLast (sp_Con_dropLastOfLine d) (8 : Int32)) (32 : Int32) _ rfl) (cwV 1 hts (gd_V mC wd_290 wd_291 wd_292 wd_5 wd_293) rfl rfl rfl hd_Scr_addLast ⟨Nat.le_of_ble_eq_true rfl, Nat.le_of_ble_eq_true rfl⟩) ⟨ml_blind, va_recv hK hP (ci := 4) rfl (ml_at (by decide) (dc_scr kc a (sp_Scr_addLast (sp_Con_dropLastOfLine d) (8 : Int32)))), ml_pre hP hK hD⟩ rfl rfl hl.1 rfl (lv_room (Nat.le_of_ble_eq_true rfl)) d_takeBack_29 ⟨Nat.zero_le _, Nat.zero_le _⟩) hD hS hA (fun H locs hP hD hS => ?_)
        refine lv_aload_n hx hb d_takeBack_32 rfl (lv_at hl 0 rfl) ?_
        refine ml_get (D := (dC, dI)) hx hb hts in_DC hown hK hP (0) (by decide) (dc_desk kc a (sp_Scr_addLast (sp_Scr_addLast (sp_Con_dropLastOfLine d) (8 : Int32)) (32 : Int32))) rfl 6 (by decide) (hts _ (mC _ wd_129)) (fun _ h9 => h9) (v := .ref (a 55)) rfl d_takeBack_33 ?_
        refine lv_bipush (v := 8) hx hb d_takeBack_36 (by decide) ?_
        refine ml_callv (va_runV (As := [.int (8 : Int32)]) (rest := []) ⟨hx, hb, hml, hown, hts⟩ (c_Scr_addLast l dC dI kc a _ (sp_Scr_addLast (sp_Scr_addLast (sp_Con_dropLastOfLine d) (8 : Int32)) (32 : Int32)) (8 : Int32) _ rfl) (cwV 1 hts (gd_V mC wd_290 wd_291 wd_292 wd_5 wd_293) rfl rfl rfl hd_Scr_addLast ⟨Nat.le_of_ble_eq_true rfl, Nat.le_of_ble_eq_true rfl⟩) ⟨ml_blind, va_recv hK hP (ci := 4) rfl (ml_at (by decide) (dc_scr kc a (sp_Scr_addLast (sp_Scr_addLast (sp_Con_dropLastOfLine d) (8 : Int32)) (32 : Int32)))), ml_pre hP hK hD⟩ rfl rfl hl.1 rfl (lv_room (Nat.le_of_ble_eq_true rfl)) d_takeBack_38 ⟨Nat.zero_le _, Nat.zero_le _⟩) hD hS hA (fun H locs hP hD hS => ?_)
        refine lv_iinc (v := nI (j + 1)) (lv' := [(2, .int (nI (j + 1))), (0, .ref (a 0)), (1, .int bt)]) hx hb d_takeBack_41 hl (k := 2) rfl (nI_1 j) (by decide) rfl (fun ls hl => ?_)
        refine lv_goto (tgt := 2) hx hb d_takeBack_44 (by decide) ?_
        exact ih (j + 1) (sp_Scr_addLast (sp_Scr_addLast (sp_Scr_addLast (sp_Con_dropLastOfLine d) (8 : Int32)) (32 : Int32)) (8 : Int32)) _ _ ls (lp_advB hj (by assumption)) (by omega) hres hP hD hS (lv_sub hl [1, 2, 0] rfl)
  have hl := lv_entry ([.ref (a 0), .int bt]) (n := 3) (Nat.le_of_ble_eq_true rfl)
  rw [lg_entry_eq]
  generalize (lg_sl ([.ref (a 0), .int bt]) ++ List.replicate (3 - (lg_sl ([.ref (a 0), .int bt])).length) Slot.unset).toArray = ls at hl ⊢
  have hl : lv_has ls 3 [(0, .ref (a 0)), (1, .int bt)] := hl
  rw [sp_takeBack] at hres
  refine lv_iconst (v := 0) hx hb d_takeBack_0 (by decide) ?_
  refine lv_istore_n (lv' := [(2, .int (0 : Int32)), (0, .ref (a 0)), (1, .int bt)]) hx hb d_takeBack_1 rfl hl (by decide) rfl (fun ls hl => ?_)
  exact loop _ 0 d _ _ ls (Nat.zero_le _) (by omega) hres hP hD hS (lv_sub hl [1, 2, 0] rfl)
