def sp_M_file (mo : MK) (pr : Int32) (x : Int32) : Int32 :=
  (if (sp_M_isPlace pr) = (0 : Int32) then (-1 : Int32) else (if x < (0 : Int32) then (-1 : Int32) else (if (16 : Int32) ≤ x then (-1 : Int32) else ((mo 5 (((16 : Int32) * pr) + x).toNatClampNeg) - (1 : Int32)))))
abbrev rm_M_file : Room := { frames := 1, cells := 0, slots := 0, locals := 20 }
set_option maxHeartbeats 4000000 in
set_option maxRecDepth 100000 in
theorem c_M_file (l : Launch) (dC : Nat → ClassId) (dI : Nat → Nat → Nat) (kc : Nat → ClassId) (a : Nat → Nat) (sz : Nat) (mo : MK) (pr : Int32) (x : Int32) (R' : Int32) (hres : sp_M_file mo pr x = R') : Met l y_M_file ws_M_file rm_M_file (va_Pc [.ref (a 0), .int pr, .int x] (ml_B (dC, dI) vwCl (tysD kc) 11 a (mcell kc a mo) sz)) (va_Qi (fun r (_ : Unit) => r = R') (fun _ t => ml_E (dC, dI) vwCl (tysD kc) 11 a (mcell kc a mo) (va_A (ml 11 a (mcell kc a mo)) sz) t) (va_A (ml 11 a (mcell kc a mo)) sz)) 0 0 (va_A (ml 11 a (mcell kc a mo)) sz) := by
  refine Met.ofW (cc := prog_7_method_4_code) (maxL := 3) (ret := (some .int)) (by decide) rfl ?_
  intro p e s m args below meth c s₁ B hml hv
  obtain ⟨rfl, hsz, hP, hK, hD0⟩ := hv
  have hx := B.exec
  have hb := B.bytes
  have hr := B.returns
  have hts := atoms_spec (ws := ws_M_file) B.pre
  have hown : s.vm.findClass "HandleDeskModel" = some m.cls := findClass_of_methodNamed B.named
  have hlocks := B.notSynchronized
  subst hsz
  have hD := hD0.self (sz := s.heap.size)
  generalize hAe : va_A (ml 11 a (mcell kc a mo)) s.heap.size = A at hD ⊢
  have hA : ∀ q : Nat, s.heap.size ≤ q → A q := fun q h => by rw [← hAe]; exact Or.inr h
  have hS : va_S A s.heap s.heap [] := va_S.rf
  have hl := lv_entry ([.ref (a 0), .int pr, .int x]) (n := 3) (Nat.le_of_ble_eq_true rfl)
  rw [lg_entry_eq]
  generalize (lg_sl ([.ref (a 0), .int pr, .int x]) ++ List.replicate (3 - (lg_sl ([.ref (a 0), .int pr, .int x])).length) Slot.unset).toArray = ls at hl ⊢
  have hl : lv_has ls 3 [(0, .ref (a 0)), (1, .int pr), (2, .int x)] := hl
  rw [sp_M_file] at hres
  refine lv_iload_n hx hb d_M_file_0 rfl (lv_at hl 1 rfl) ?_
  refine ml_calli (va_runS (As := [.int pr]) (rest := []) ⟨hx, hb, hml, hown, hts⟩ (c_M_isPlace l dC dI kc a _ mo pr _ rfl) (cwS 1 hts (gd_S mC wd_391 wd_392 wd_6 wd_393) rfl rfl rfl hd_M_isPlace ⟨Nat.le_of_ble_eq_true rfl, Nat.le_of_ble_eq_true rfl⟩) ⟨ml_blind, ml_pre hP hK hD⟩ rfl rfl hl.1 rfl (lv_room (Nat.le_of_ble_eq_true rfl)) d_M_file_1 ⟨Nat.zero_le _, Nat.zero_le _⟩) hD hS hA (fun H locs hP hD hS => ?_)
  refine lv_if_eq (tgt := 33) hx hb d_M_file_4 (by decide) (fun h_1 => ?_) (fun h_1 => ?_)
  · rw [if_pos h_1] at hres
    refine lv_iconst (v := -1) hx hb d_M_file_33 (by decide) ?_
    subst hres
    exact ml_iret hx hb hr hlocks hP hK hD hS d_M_file_34
  · rw [if_neg h_1] at hres
    refine lv_iload_n hx hb d_M_file_7 rfl (lv_at hl 2 rfl) ?_
    refine lv_if_lt (tgt := 33) hx hb d_M_file_8 (by decide) (fun h_2 => ?_) (fun h_2 => ?_)
    · rw [if_pos h_2] at hres
      refine lv_iconst (v := -1) hx hb d_M_file_33 (by decide) ?_
      subst hres
      exact ml_iret hx hb hr hlocks hP hK hD hS d_M_file_34
    · rw [if_neg h_2] at hres
      refine lv_iload_n hx hb d_M_file_11 rfl (lv_at hl 2 rfl) ?_
      refine lv_bipush (v := 16) hx hb d_M_file_12 (by decide) ?_
      refine lv_icmp_ge (tgt := 33) hx hb d_M_file_14 (by decide) (fun h_3 => ?_) (fun h_3 => ?_)
      · rw [if_pos h_3] at hres
        refine lv_iconst (v := -1) hx hb d_M_file_33 (by decide) ?_
        subst hres
        exact ml_iret hx hb hr hlocks hP hK hD hS d_M_file_34
      · rw [if_neg h_3] at hres
        refine lv_aload_n hx hb d_M_file_17 rfl (lv_at hl 0 rfl) ?_
        refine ml_get (D := (dC, dI)) hx hb hts in_MC hown hK hP (0) (by decide) (mc_mod kc a mo) rfl 1 (by decide) (hts _ (mC _ wd_342)) (fun _ h9 => h9) (v := .ref (a 1)) rfl d_M_file_18 ?_
        refine lv_bipush (v := 16) hx hb d_M_file_21 (by decide) ?_
        refine lv_iload_n hx hb d_M_file_23 rfl (lv_at hl 1 rfl) ?_
        refine lv_imul hx hb d_M_file_24 ?_
        refine lv_iload_n hx hb d_M_file_25 rfl (lv_at hl 2 rfl) ?_
        refine lv_iadd hx hb d_M_file_26 ?_
        refine ml_iald hx hb hK hP (1) 0 (by decide) (mc_names kc a mo) rfl (md_in (by assumption) (by assumption) (by assumption)) d_M_file_27 ?_
        refine lv_iconst (v := 1) hx hb d_M_file_28 (by decide) ?_
        refine lv_isub hx hb d_M_file_29 ?_
        refine lv_goto (tgt := 34) hx hb d_M_file_30 (by decide) ?_
        subst hres
        exact ml_iret hx hb hr hlocks hP hK hD hS d_M_file_34
def lp_M_named (mo : MK) (f : Int32) : Nat → Nat → Int32 → Int32
  | 0, _, _ => 0
  | n + 1, j, cn =>
    (if (240 : Int32) ≤ (nI j) then cn else (if mo 5 (nI j).toNatClampNeg = f + (1 : Int32) then (lp_M_named mo f n (j + 1) (cn + (1 : Int32))) else (lp_M_named mo f n (j + 1) (cn + (0 : Int32)))))
def sp_M_named (mo : MK) (f : Int32) : Int32 :=
  (lp_M_named mo f (240 + 1) 0 (0 : Int32))
abbrev rm_M_named : Room := { frames := 0, cells := 0, slots := 0, locals := 0 }
set_option maxHeartbeats 4000000 in
set_option maxRecDepth 100000 in
theorem c_M_named (l : Launch) (dC : Nat → ClassId) (dI : Nat → Nat → Nat) (kc : Nat → ClassId) (a : Nat → Nat) (sz : Nat) (mo : MK) (f : Int32) (R' : Int32) (hres : sp_M_named mo f = R') : Met l y_M_named ws_M_named rm_M_named (va_Pc [.ref (a 0), .int f] (ml_B (dC, dI) vwCl (tysD kc) 11 a (mcell kc a mo) sz)) (va_Qi (fun r (_ : Unit) => r = R') (fun _ t => ml_E (dC, dI) vwCl (tysD kc) 11 a (mcell kc a mo) (va_A (ml 11 a (mcell kc a mo)) sz) t) (va_A (ml 11 a (mcell kc a mo)) sz)) 0 0 (va_A (ml 11 a (mcell kc a mo)) sz) := by
  refine Met.ofW (cc := prog_7_method_5_code) (maxL := 4) (ret := (some .int)) (by decide) rfl ?_
  intro p e s m args below meth c s₁ B hml hv
  obtain ⟨rfl, hsz, hP, hK, hD0⟩ := hv
  have hx := B.exec
  have hb := B.bytes
  have hr := B.returns
  have hts := atoms_spec (ws := ws_M_named) B.pre
  have hown : s.vm.findClass "HandleDeskModel" = some m.cls := findClass_of_methodNamed B.named
  have hlocks := B.notSynchronized
  subst hsz
  have hD := hD0.self (sz := s.heap.size)
  generalize hAe : va_A (ml 11 a (mcell kc a mo)) s.heap.size = A at hD ⊢
  have hA : ∀ q : Nat, s.heap.size ≤ q → A q := fun q h => by rw [← hAe]; exact Or.inr h
  have hS : va_S A s.heap s.heap [] := va_S.rf
  have loop : ∀ (n j : Nat) (cn : Int32) (H : Heap) (locs : List Loc) (ls : Array Slot), j ≤ 240 → j + n = 240 + 1 → lp_M_named mo f n j cn = R' → va_P (dC, dI) vwCl (ml 11 a (mcell kc a mo)) H → va_D A (ml 11 a (mcell kc a mo)) → va_S A s.heap H locs → lv_has ls 4 [(0, .ref (a 0)), (1, .int f), (2, .int cn), (3, .int (nI j))] → W p l e rm_M_named s m ([.ref (a 0), .int f] : List Value).toArray below meth c H locs 0 0 (MQ below (va_Qi (fun r (_ : Unit) => r = R') (fun _ t => ml_E (dC, dI) vwCl (tysD kc) 11 a (mcell kc a mo) A t) A) ([.ref (a 0), .int f] : List Value).toArray s 0 0 A) (F0 m 4 ls []) := by
    intro n
    induction n with
    | zero =>
      intro j cn H locs ls hj hn
      exact absurd hn (by omega)
    | succ n ih =>
      intro j cn H locs ls hj hn  hres hP hD hS hl
      rw [lp_M_named] at hres
      refine lv_iload_n hx hb d_M_named_4 rfl (lv_at hl 3 rfl) ?_
      refine lv_sipush (v := 240) hx hb d_M_named_5 (by decide) ?_
      refine lv_icmp_ge (tgt := 37) hx hb d_M_named_8 (by decide) (fun h_1 => ?_) (fun h_1 => ?_)
      · rw [if_pos h_1] at hres
        refine lv_iload_n hx hb d_M_named_37 rfl (lv_at hl 2 rfl) ?_
        subst hres
        exact ml_iret hx hb hr hlocks hP hK hD hS d_M_named_38
      · rw [if_neg h_1] at hres
        refine lv_iload_n hx hb d_M_named_11 rfl (lv_at hl 2 rfl) ?_
        refine lv_aload_n hx hb d_M_named_12 rfl (lv_at hl 0 rfl) ?_
        refine ml_get (D := (dC, dI)) hx hb hts in_MC hown hK hP (0) (by decide) (mc_mod kc a mo) rfl 1 (by decide) (hts _ (mC _ wd_342)) (fun _ h9 => h9) (v := .ref (a 1)) rfl d_M_named_13 ?_
        refine lv_iload_n hx hb d_M_named_16 rfl (lv_at hl 3 rfl) ?_
        refine ml_iald hx hb hK hP (1) 0 (by decide) (mc_names kc a mo) rfl (lp_in (b := (240 : Int32)) (B := 240) rfl (by decide) hj (by assumption)) d_M_named_17 ?_
        refine lv_iload_n hx hb d_M_named_18 rfl (lv_at hl 1 rfl) ?_
        refine lv_iconst (v := 1) hx hb d_M_named_19 (by decide) ?_
        refine lv_iadd hx hb d_M_named_20 ?_
        refine lv_icmp_ne (tgt := 28) hx hb d_M_named_21 (by decide) (fun h_2 => ?_) (fun h_2 => ?_)
        · rw [if_neg h_2] at hres
          refine lv_iconst (v := 0) hx hb d_M_named_28 (by decide) ?_
          refine lv_iadd hx hb d_M_named_29 ?_
          refine lv_istore_n (lv' := [(2, .int (cn + (0 : Int32))), (0, .ref (a 0)), (1, .int f), (3, .int (nI j))]) hx hb d_M_named_30 rfl hl (by decide) rfl (fun ls hl => ?_)
          refine lv_iinc (v := nI (j + 1)) (lv' := [(3, .int (nI (j + 1))), (2, .int (cn + (0 : Int32))), (0, .ref (a 0)), (1, .int f)]) hx hb d_M_named_31 hl (k := 3) rfl (nI_1 j) (by decide) rfl (fun ls hl => ?_)
          refine lv_goto (tgt := 4) hx hb d_M_named_34 (by decide) ?_
          exact ih (j + 1) (cn + (0 : Int32)) _ _ ls (lp_adv (b := (240 : Int32)) (B := 240) rfl (by decide) hj (by assumption)) (by omega) hres hP hD hS (lv_sub hl [2, 3, 1, 0] rfl)
        · rw [if_pos h_2] at hres
          refine lv_iconst (v := 1) hx hb d_M_named_24 (by decide) ?_
          refine lv_goto (tgt := 29) hx hb d_M_named_25 (by decide) ?_
          refine lv_iadd hx hb d_M_named_29 ?_
          refine lv_istore_n (lv' := [(2, .int (cn + (1 : Int32))), (0, .ref (a 0)), (1, .int f), (3, .int (nI j))]) hx hb d_M_named_30 rfl hl (by decide) rfl (fun ls hl => ?_)
          refine lv_iinc (v := nI (j + 1)) (lv' := [(3, .int (nI (j + 1))), (2, .int (cn + (1 : Int32))), (0, .ref (a 0)), (1, .int f)]) hx hb d_M_named_31 hl (k := 3) rfl (nI_1 j) (by decide) rfl (fun ls hl => ?_)
          refine lv_goto (tgt := 4) hx hb d_M_named_34 (by decide) ?_
          exact ih (j + 1) (cn + (1 : Int32)) _ _ ls (lp_adv (b := (240 : Int32)) (B := 240) rfl (by decide) hj (by assumption)) (by omega) hres hP hD hS (lv_sub hl [2, 3, 1, 0] rfl)
  have hl := lv_entry ([.ref (a 0), .int f]) (n := 4) (Nat.le_of_ble_eq_true rfl)
  rw [lg_entry_eq]
  generalize (lg_sl ([.ref (a 0), .int f]) ++ List.replicate (4 - (lg_sl ([.ref (a 0), .int f])).length) Slot.unset).toArray = ls at hl ⊢
  have hl : lv_has ls 4 [(0, .ref (a 0)), (1, .int f)] := hl
  rw [sp_M_named] at hres
  refine lv_iconst (v := 0) hx hb d_M_named_0 (by decide) ?_
  refine lv_istore_n (lv' := [(2, .int (0 : Int32)), (0, .ref (a 0)), (1, .int f)]) hx hb d_M_named_1 rfl hl (by decide) rfl (fun ls hl => ?_)
  refine lv_iconst (v := 0) hx hb d_M_named_2 (by decide) ?_
  refine lv_istore_n (lv' := [(3, .int (0 : Int32)), (2, .int (0 : Int32)), (0, .ref (a 0)), (1, .int f)]) hx hb d_M_named_3 rfl hl (by decide) rfl (fun ls hl => ?_)
  exact loop _ 0 (0 : Int32) _ _ ls (Nat.zero_le _) (by omega) hres hP hD hS (lv_sub hl [2, 3, 1, 0] rfl)
def lp_M_files (mo : MK)  : Nat → Nat → Int32 → Int32
  | 0, _, _ => 0
  | n + 1, j, cn =>
    (if (32 : Int32) ≤ (nI j) then cn else (if (sp_M_named mo (nI j)) ≤ (0 : Int32) then (lp_M_files mo n (j + 1) (cn + (0 : Int32))) else (lp_M_files mo n (j + 1) (cn + (1 : Int32)))))
def sp_M_files (mo : MK)  : Int32 :=
  (lp_M_files mo (32 + 1) 0 (0 : Int32))
abbrev rm_M_files : Room := { frames := 1, cells := 0, slots := 0, locals := 23 }
set_option maxHeartbeats 4000000 in
set_option maxRecDepth 100000 in
theorem c_M_files (l : Launch) (dC : Nat → ClassId) (dI : Nat → Nat → Nat) (kc : Nat → ClassId) (a : Nat → Nat) (sz : Nat) (mo : MK) (R' : Int32) (hres : sp_M_files mo = R') : Met l y_M_files ws_M_files rm_M_files (va_Pc [.ref (a 0)] (ml_B (dC, dI) vwCl (tysD kc) 11 a (mcell kc a mo) sz)) (va_Qi (fun r (_ : Unit) => r = R') (fun _ t => ml_E (dC, dI) vwCl (tysD kc) 11 a (mcell kc a mo) (va_A (ml 11 a (mcell kc a mo)) sz) t) (va_A (ml 11 a (mcell kc a mo)) sz)) 0 0 (va_A (ml 11 a (mcell kc a mo)) sz) := by
  refine Met.ofW (cc := prog_7_method_6_code) (maxL := 3) (ret := (some .int)) (by decide) rfl ?_
  intro p e s m args below meth c s₁ B hml hv
  obtain ⟨rfl, hsz, hP, hK, hD0⟩ := hv
  have hx := B.exec
  have hb := B.bytes
  have hr := B.returns
  have hts := atoms_spec (ws := ws_M_files) B.pre
  have hown : s.vm.findClass "HandleDeskModel" = some m.cls := findClass_of_methodNamed B.named
  have hlocks := B.notSynchronized
  subst hsz
  have hD := hD0.self (sz := s.heap.size)
  generalize hAe : va_A (ml 11 a (mcell kc a mo)) s.heap.size = A at hD ⊢
  have hA : ∀ q : Nat, s.heap.size ≤ q → A q := fun q h => by rw [← hAe]; exact Or.inr h
  have hS : va_S A s.heap s.heap [] := va_S.rf
  have loop : ∀ (n j : Nat) (cn : Int32) (H : Heap) (locs : List Loc) (ls : Array Slot), j ≤ 32 → j + n = 32 + 1 → lp_M_files mo n j cn = R' → va_P (dC, dI) vwCl (ml 11 a (mcell kc a mo)) H → va_D A (ml 11 a (mcell kc a mo)) → va_S A s.heap H locs → lv_has ls 3 [(0, .ref (a 0)), (1, .int cn), (2, .int (nI j))] → W p l e rm_M_files s m ([.ref (a 0)] : List Value).toArray below meth c H locs 0 0 (MQ below (va_Qi (fun r (_ : Unit) => r = R') (fun _ t => ml_E (dC, dI) vwCl (tysD kc) 11 a (mcell kc a mo) A t) A) ([.ref (a 0)] : List Value).toArray s 0 0 A) (F0 m 4 ls []) := by
    intro n
    induction n with
    | zero =>
      intro j cn H locs ls hj hn
      exact absurd hn (by omega)
    | succ n ih =>
      intro j cn H locs ls hj hn  hres hP hD hS hl
      rw [lp_M_files] at hres
      refine lv_iload_n hx hb d_M_files_4 rfl (lv_at hl 2 rfl) ?_
      refine lv_bipush (v := 32) hx hb d_M_files_5 (by decide) ?_
      refine lv_icmp_ge (tgt := 32) hx hb d_M_files_7 (by decide) (fun h_1 => ?_) (fun h_1 => ?_)
      · rw [if_pos h_1] at hres
        refine lv_iload_n hx hb d_M_files_32 rfl (lv_at hl 1 rfl) ?_
        subst hres
        exact ml_iret hx hb hr hlocks hP hK hD hS d_M_files_33
      · rw [if_neg h_1] at hres
        refine lv_iload_n hx hb d_M_files_10 rfl (lv_at hl 1 rfl) ?_
        refine lv_aload_n hx hb d_M_files_11 rfl (lv_at hl 0 rfl) ?_
        refine lv_iload_n hx hb d_M_files_12 rfl (lv_at hl 2 rfl) ?_
        refine ml_calli (va_runV (As := [.int (nI j)]) (rest := [.int cn]) ⟨hx, hb, hml, hown, hts⟩ (c_M_named l dC dI kc a _ mo (nI j) _ rfl) (cwV 1 hts (gd_V mC wd_402 wd_404 ws_11 wd_6 wd_405) rfl rfl rfl hd_M_named ⟨Nat.le_of_ble_eq_true rfl, Nat.le_of_ble_eq_true rfl⟩) ⟨ml_blind, va_recv hK hP (ci := 5) rfl (ml_at (by decide) (mc_mod kc a mo)), ml_pre hP hK hD⟩ rfl rfl hl.1 rfl (lv_room (Nat.le_of_ble_eq_true rfl)) d_M_files_13 ⟨Nat.zero_le _, Nat.zero_le _⟩) hD hS hA (fun H locs hP hD hS => ?_)
        refine lv_if_le (tgt := 23) hx hb d_M_files_16 (by decide) (fun h_2 => ?_) (fun h_2 => ?_)
        · rw [if_pos h_2] at hres
          refine lv_iconst (v := 0) hx hb d_M_files_23 (by decide) ?_
          refine lv_iadd hx hb d_M_files_24 ?_
          refine lv_istore_n (lv' := [(1, .int (cn + (0 : Int32))), (0, .ref (a 0)), (2, .int (nI j))]) hx hb d_M_files_25 rfl hl (by decide) rfl (fun ls hl => ?_)
          refine lv_iinc (v := nI (j + 1)) (lv' := [(2, .int (nI (j + 1))), (1, .int (cn + (0 : Int32))), (0, .ref (a 0))]) hx hb d_M_files_26 hl (k := 2) rfl (nI_1 j) (by decide) rfl (fun ls hl => ?_)
          refine lv_goto (tgt := 4) hx hb d_M_files_29 (by decide) ?_
          exact ih (j + 1) (cn + (0 : Int32)) _ _ ls (lp_adv (b := (32 : Int32)) (B := 32) rfl (by decide) hj (by assumption)) (by omega) hres hP hD hS (lv_sub hl [2, 1, 0] rfl)
        · rw [if_neg h_2] at hres
          refine lv_iconst (v := 1) hx hb d_M_files_19 (by decide) ?_
          refine lv_goto (tgt := 24) hx hb d_M_files_20 (by decide) ?_
          refine lv_iadd hx hb d_M_files_24 ?_
          refine lv_istore_n (lv' := [(1, .int (cn + (1 : Int32))), (0, .ref (a 0)), (2, .int (nI j))]) hx hb d_M_files_25 rfl hl (by decide) rfl (fun ls hl => ?_)
          refine lv_iinc (v := nI (j + 1)) (lv' := [(2, .int (nI (j + 1))), (1, .int (cn + (1 : Int32))), (0, .ref (a 0))]) hx hb d_M_files_26 hl (k := 2) rfl (nI_1 j) (by decide) rfl (fun ls hl => ?_)
          refine lv_goto (tgt := 4) hx hb d_M_files_29 (by decide) ?_
          exact ih (j + 1) (cn + (1 : Int32)) _ _ ls (lp_adv (b := (32 : Int32)) (B := 32) rfl (by decide) hj (by assumption)) (by omega) hres hP hD hS (lv_sub hl [2, 1, 0] rfl)
  have hl := lv_entry ([.ref (a 0)]) (n := 3) (Nat.le_of_ble_eq_true rfl)
  rw [lg_entry_eq]
  generalize (lg_sl ([.ref (a 0)]) ++ List.replicate (3 - (lg_sl ([.ref (a 0)])).length) Slot.unset).toArray = ls at hl ⊢
  have hl : lv_has ls 3 [(0, .ref (a 0))] := hl
  rw [sp_M_files] at hres
  refine lv_iconst (v := 0) hx hb d_M_files_0 (by decide) ?_
  refine lv_istore_n (lv' := [(1, .int (0 : Int32)), (0, .ref (a 0))]) hx hb d_M_files_1 rfl hl (by decide) rfl (fun ls hl => ?_)
  refine lv_iconst (v := 0) hx hb d_M_files_2 (by decide) ?_
  refine lv_istore_n (lv' := [(2, .int (0 : Int32)), (1, .int (0 : Int32)), (0, .ref (a 0))]) hx hb d_M_files_3 rfl hl (by decide) rfl (fun ls hl => ?_)
  exact loop _ 0 (0 : Int32) _ _ ls (Nat.zero_le _) (by omega) hres hP hD hS (lv_sub hl [2, 1, 0] rfl)
def lp_M_freeFile (mo : MK)  : Nat → Nat → Int32
  | 0, _ => 0
  | n + 1, j =>
    (if (32 : Int32) ≤ (nI j) then (nI j) else (if (sp_M_named mo (nI j)) ≤ (0 : Int32) then (nI j) else (lp_M_freeFile mo n (j + 1))))
def sp_M_freeFile (mo : MK)  : Int32 :=
  (lp_M_freeFile mo (32 + 1) 0)
abbrev rm_M_freeFile : Room := { frames := 1, cells := 0, slots := 0, locals := 23 }
set_option maxHeartbeats 4000000 in
set_option maxRecDepth 100000 in
theorem c_M_freeFile (l : Launch) (dC : Nat → ClassId) (dI : Nat → Nat → Nat) (kc : Nat → ClassId) (a : Nat → Nat) (sz : Nat) (mo : MK) (R' : Int32) (hres : sp_M_freeFile mo = R') : Met l y_M_freeFile ws_M_freeFile rm_M_freeFile (va_Pc [.ref (a 0)] (ml_B (dC, dI) vwCl (tysD kc) 11 a (mcell kc a mo) sz)) (va_Qi (fun r (_ : Unit) => r = R') (fun _ t => ml_E (dC, dI) vwCl (tysD kc) 11 a (mcell kc a mo) (va_A (ml 11 a (mcell kc a mo)) sz) t) (va_A (ml 11 a (mcell kc a mo)) sz)) 0 0 (va_A (ml 11 a (mcell kc a mo)) sz) := by
  refine Met.ofW (cc := prog_7_method_7_code) (maxL := 2) (ret := (some .int)) (by decide) rfl ?_
  intro p e s m args below meth c s₁ B hml hv
  obtain ⟨rfl, hsz, hP, hK, hD0⟩ := hv
  have hx := B.exec
  have hb := B.bytes
  have hr := B.returns
  have hts := atoms_spec (ws := ws_M_freeFile) B.pre
  have hown : s.vm.findClass "HandleDeskModel" = some m.cls := findClass_of_methodNamed B.named
  have hlocks := B.notSynchronized
  subst hsz
  have hD := hD0.self (sz := s.heap.size)
  generalize hAe : va_A (ml 11 a (mcell kc a mo)) s.heap.size = A at hD ⊢
  have hA : ∀ q : Nat, s.heap.size ≤ q → A q := fun q h => by rw [← hAe]; exact Or.inr h
  have hS : va_S A s.heap s.heap [] := va_S.rf
  have loop : ∀ (n j : Nat) (H : Heap) (locs : List Loc) (ls : Array Slot), j ≤ 32 → j + n = 32 + 1 → lp_M_freeFile mo n j = R' → va_P (dC, dI) vwCl (ml 11 a (mcell kc a mo)) H → va_D A (ml 11 a (mcell kc a mo)) → va_S A s.heap H locs → lv_has ls 2 [(0, .ref (a 0)), (1, .int (nI j))] → W p l e rm_M_freeFile s m ([.ref (a 0)] : List Value).toArray below meth c H locs 0 0 (MQ below (va_Qi (fun r (_ : Unit) => r = R') (fun _ t => ml_E (dC, dI) vwCl (tysD kc) 11 a (mcell kc a mo) A t) A) ([.ref (a 0)] : List Value).toArray s 0 0 A) (F0 m 2 ls []) := by
    intro n
    induction n with
    | zero =>
      intro j H locs ls hj hn
      exact absurd hn (by omega)
    | succ n ih =>
      intro j H locs ls hj hn  hres hP hD hS hl
      rw [lp_M_freeFile] at hres
      refine lv_iload_n hx hb d_M_freeFile_2 rfl (lv_at hl 1 rfl) ?_
      refine lv_bipush (v := 32) hx hb d_M_freeFile_3 (by decide) ?_
      refine lv_icmp_ge (tgt := 22) hx hb d_M_freeFile_5 (by decide) (fun h_1 => ?_) (fun h_1 => ?_)
      · rw [if_pos h_1] at hres
        refine lv_iload_n hx hb d_M_freeFile_22 rfl (lv_at hl 1 rfl) ?_
        subst hres
        exact ml_iret hx hb hr hlocks hP hK hD hS d_M_freeFile_23
      · rw [if_neg h_1] at hres
        refine lv_aload_n hx hb d_M_freeFile_8 rfl (lv_at hl 0 rfl) ?_
        refine lv_iload_n hx hb d_M_freeFile_9 rfl (lv_at hl 1 rfl) ?_
        refine ml_calli (va_runV (As := [.int (nI j)]) (rest := []) ⟨hx, hb, hml, hown, hts⟩ (c_M_named l dC dI kc a _ mo (nI j) _ rfl) (cwV 1 hts (gd_V mC wd_402 wd_404 ws_11 wd_6 wd_405) rfl rfl rfl hd_M_named ⟨Nat.le_of_ble_eq_true rfl, Nat.le_of_ble_eq_true rfl⟩) ⟨ml_blind, va_recv hK hP (ci := 5) rfl (ml_at (by decide) (mc_mod kc a mo)), ml_pre hP hK hD⟩ rfl rfl hl.1 rfl (lv_room (Nat.le_of_ble_eq_true rfl)) d_M_freeFile_10 ⟨Nat.zero_le _, Nat.zero_le _⟩) hD hS hA (fun H locs hP hD hS => ?_)
        refine lv_if_le (tgt := 22) hx hb d_M_freeFile_13 (by decide) (fun h_2 => ?_) (fun h_2 => ?_)
        · rw [if_pos h_2] at hres
          refine lv_iload_n hx hb d_M_freeFile_22 rfl (lv_at hl 1 rfl) ?_
          subst hres
          exact ml_iret hx hb hr hlocks hP hK hD hS d_M_freeFile_23
        · rw [if_neg h_2] at hres
          refine lv_iinc (v := nI (j + 1)) (lv' := [(1, .int (nI (j + 1))), (0, .ref (a 0))]) hx hb d_M_freeFile_16 hl (k := 1) rfl (nI_1 j) (by decide) rfl (fun ls hl => ?_)
          refine lv_goto (tgt := 2) hx hb d_M_freeFile_19 (by decide) ?_
          exact ih (j + 1) _ _ ls (lp_adv (b := (32 : Int32)) (B := 32) rfl (by decide) hj (by assumption)) (by omega) hres hP hD hS (lv_sub hl [1, 0] rfl)
  have hl := lv_entry ([.ref (a 0)]) (n := 2) (Nat.le_of_ble_eq_true rfl)
  rw [lg_entry_eq]
  generalize (lg_sl ([.ref (a 0)]) ++ List.replicate (2 - (lg_sl ([.ref (a 0)])).length) Slot.unset).toArray = ls at hl ⊢
  have hl : lv_has ls 2 [(0, .ref (a 0))] := hl
  rw [sp_M_freeFile] at hres
  refine lv_iconst (v := 0) hx hb d_M_freeFile_0 (by decide) ?_
  refine lv_istore_n (lv' := [(1, .int (0 : Int32)), (0, .ref (a 0))]) hx hb d_M_freeFile_1 rfl hl (by decide) rfl (fun ls hl => ?_)
  exact loop _ 0 _ _ ls (Nat.zero_le _) (by omega) hres hP hD hS (lv_sub hl [1, 0] rfl)
def lp_M_vacant (mo : MK) (pr : Int32) : Nat → Nat → Int32
  | 0, _ => 0
  | n + 1, j =>
    (if (16 : Int32) ≤ (nI j) then (nI j) else (if (mo 5 (((16 : Int32) * pr) + (nI j)).toNatClampNeg) ≤ (0 : Int32) then (nI j) else (lp_M_vacant mo pr n (j + 1))))
def sp_M_vacant (mo : MK) (pr : Int32) : Int32 :=
  (lp_M_vacant mo pr (16 + 1) 0)
abbrev rm_M_vacant : Room := { frames := 0, cells := 0, slots := 0, locals := 0 }
set_option maxHeartbeats 4000000 in
set_option maxRecDepth 100000 in
theorem c_M_vacant (l : Launch) (dC : Nat → ClassId) (dI : Nat → Nat → Nat) (kc : Nat → ClassId) (a : Nat → Nat) (sz : Nat) (mo : MK) (pr : Int32) (hp : ¬ sp_M_isPlace pr = 0) (R' : Int32) (hres : sp_M_vacant mo pr = R') : Met l y_M_vacant ws_M_vacant rm_M_vacant (va_Pc [.ref (a 0), .int pr] (ml_B (dC, dI) vwCl (tysD kc) 11 a (mcell kc a mo) sz)) (va_Qi (fun r (_ : Unit) => r = R') (fun _ t => ml_E (dC, dI) vwCl (tysD kc) 11 a (mcell kc a mo) (va_A (ml 11 a (mcell kc a mo)) sz) t) (va_A (ml 11 a (mcell kc a mo)) sz)) 0 0 (va_A (ml 11 a (mcell kc a mo)) sz) := by
  refine Met.ofW (cc := prog_7_method_8_code) (maxL := 3) (ret := (some .int)) (by decide) rfl ?_
  intro p e s m args below meth c s₁ B hml hv
  obtain ⟨rfl, hsz, hP, hK, hD0⟩ := hv
  have hx := B.exec
  have hb := B.bytes
  have hr := B.returns
  have hts := atoms_spec (ws := ws_M_vacant) B.pre
  have hown : s.vm.findClass "HandleDeskModel" = some m.cls := findClass_of_methodNamed B.named
  have hlocks := B.notSynchronized
  subst hsz
  have hD := hD0.self (sz := s.heap.size)
  generalize hAe : va_A (ml 11 a (mcell kc a mo)) s.heap.size = A at hD ⊢
  have hA : ∀ q : Nat, s.heap.size ≤ q → A q := fun q h => by rw [← hAe]; exact Or.inr h
  have hS : va_S A s.heap s.heap [] := va_S.rf
  have loop : ∀ (n j : Nat) (H : Heap) (locs : List Loc) (ls : Array Slot), j ≤ 16 → j + n = 16 + 1 → lp_M_vacant mo pr n j = R' → va_P (dC, dI) vwCl (ml 11 a (mcell kc a mo)) H → va_D A (ml 11 a (mcell kc a mo)) → va_S A s.heap H locs → lv_has ls 3 [(0, .ref (a 0)), (1, .int pr), (2, .int (nI j))] → W p l e rm_M_vacant s m ([.ref (a 0), .int pr] : List Value).toArray below meth c H locs 0 0 (MQ below (va_Qi (fun r (_ : Unit) => r = R') (fun _ t => ml_E (dC, dI) vwCl (tysD kc) 11 a (mcell kc a mo) A t) A) ([.ref (a 0), .int pr] : List Value).toArray s 0 0 A) (F0 m 2 ls []) := by
    intro n
    induction n with
    | zero =>
      intro j H locs ls hj hn
      exact absurd hn (by omega)
    | succ n ih =>
      intro j H locs ls hj hn  hres hP hD hS hl
      rw [lp_M_vacant] at hres
      refine lv_iload_n hx hb d_M_vacant_2 rfl (lv_at hl 2 rfl) ?_
      refine lv_bipush (v := 16) hx hb d_M_vacant_3 (by decide) ?_
      refine lv_icmp_ge (tgt := 28) hx hb d_M_vacant_5 (by decide) (fun h_1 => ?_) (fun h_1 => ?_)
      · rw [if_pos h_1] at hres
        refine lv_iload_n hx hb d_M_vacant_28 rfl (lv_at hl 2 rfl) ?_
        subst hres
        exact ml_iret hx hb hr hlocks hP hK hD hS d_M_vacant_29
      · rw [if_neg h_1] at hres
        refine lv_aload_n hx hb d_M_vacant_8 rfl (lv_at hl 0 rfl) ?_
        refine ml_get (D := (dC, dI)) hx hb hts in_MC hown hK hP (0) (by decide) (mc_mod kc a mo) rfl 1 (by decide) (hts _ (mC _ wd_342)) (fun _ h9 => h9) (v := .ref (a 1)) rfl d_M_vacant_9 ?_
        refine lv_bipush (v := 16) hx hb d_M_vacant_12 (by decide) ?_
        refine lv_iload_n hx hb d_M_vacant_14 rfl (lv_at hl 1 rfl) ?_
        refine lv_imul hx hb d_M_vacant_15 ?_
        refine lv_iload_n hx hb d_M_vacant_16 rfl (lv_at hl 2 rfl) ?_
        refine lv_iadd hx hb d_M_vacant_17 ?_
        refine ml_iald hx hb hK hP (1) 0 (by decide) (mc_names kc a mo) rfl (md_inj hp (lp_adv (b := (16 : Int32)) (B := 16) rfl (by decide) hj (by assumption))) d_M_vacant_18 ?_
        refine lv_if_le (tgt := 28) hx hb d_M_vacant_19 (by decide) (fun h_2 => ?_) (fun h_2 => ?_)
        · rw [if_pos h_2] at hres
          refine lv_iload_n hx hb d_M_vacant_28 rfl (lv_at hl 2 rfl) ?_
          subst hres
          exact ml_iret hx hb hr hlocks hP hK hD hS d_M_vacant_29
        · rw [if_neg h_2] at hres
          refine lv_iinc (v := nI (j + 1)) (lv' := [(2, .int (nI (j + 1))), (0, .ref (a 0)), (1, .int pr)]) hx hb d_M_vacant_22 hl (k := 2) rfl (nI_1 j) (by decide) rfl (fun ls hl => ?_)
          refine lv_goto (tgt := 2) hx hb d_M_vacant_25 (by decide) ?_
          exact ih (j + 1) _ _ ls (lp_adv (b := (16 : Int32)) (B := 16) rfl (by decide) hj (by assumption)) (by omega) hres hP hD hS (lv_sub hl [1, 2, 0] rfl)
  have hl := lv_entry ([.ref (a 0), .int pr]) (n := 3) (Nat.le_of_ble_eq_true rfl)
  rw [lg_entry_eq]
  generalize (lg_sl ([.ref (a 0), .int pr]) ++ List.replicate (3 - (lg_sl ([.ref (a 0), .int pr])).length) Slot.unset).toArray = ls at hl ⊢
  have hl : lv_has ls 3 [(0, .ref (a 0)), (1, .int pr)] := hl
  rw [sp_M_vacant] at hres
  refine lv_iconst (v := 0) hx hb d_M_vacant_0 (by decide) ?_
  refine lv_istore_n (lv' := [(2, .int (0 : Int32)), (0, .ref (a 0)), (1, .int pr)]) hx hb d_M_vacant_1 rfl hl (by decide) rfl (fun ls hl => ?_)
  exact loop _ 0 _ _ ls (Nat.zero_le _) (by omega) hres hP hD hS (lv_sub hl [1, 2, 0] rfl)
def lp_M_used (mo : MK) (pr : Int32) : Nat → Nat → Int32 → Int32
  | 0, _, _ => 0
  | n + 1, j, cn =>
    (if (16 : Int32) ≤ (nI j) then cn else (if (mo 5 (((16 : Int32) * pr) + (nI j)).toNatClampNeg) ≤ (0 : Int32) then (lp_M_used mo pr n (j + 1) (cn + (0 : Int32))) else (lp_M_used mo pr n (j + 1) (cn + (1 : Int32)))))
def sp_M_used (mo : MK) (pr : Int32) : Int32 :=
  (lp_M_used mo pr (16 + 1) 0 (0 : Int32))
abbrev rm_M_used : Room := { frames := 0, cells := 0, slots := 0, locals := 0 }
set_option maxHeartbeats 4000000 in
set_option maxRecDepth 100000 in
theorem c_M_used (l : Launch) (dC : Nat → ClassId) (dI : Nat → Nat → Nat) (kc : Nat → ClassId) (a : Nat → Nat) (sz : Nat) (mo : MK) (pr : Int32) (hp : ¬ sp_M_isPlace pr = 0) (R' : Int32) (hres : sp_M_used mo pr = R') : Met l y_M_used ws_M_used rm_M_used (va_Pc [.ref (a 0), .int pr] (ml_B (dC, dI) vwCl (tysD kc) 11 a (mcell kc a mo) sz)) (va_Qi (fun r (_ : Unit) => r = R') (fun _ t => ml_E (dC, dI) vwCl (tysD kc) 11 a (mcell kc a mo) (va_A (ml 11 a (mcell kc a mo)) sz) t) (va_A (ml 11 a (mcell kc a mo)) sz)) 0 0 (va_A (ml 11 a (mcell kc a mo)) sz) := by
  refine Met.ofW (cc := prog_7_method_9_code) (maxL := 4) (ret := (some .int)) (by decide) rfl ?_
  intro p e s m args below meth c s₁ B hml hv
  obtain ⟨rfl, hsz, hP, hK, hD0⟩ := hv
  have hx := B.exec
  have hb := B.bytes
  have hr := B.returns
  have hts := atoms_spec (ws := ws_M_used) B.pre
  have hown : s.vm.findClass "HandleDeskModel" = some m.cls := findClass_of_methodNamed B.named
  have hlocks := B.notSynchronized
  subst hsz
  have hD := hD0.self (sz := s.heap.size)
  generalize hAe : va_A (ml 11 a (mcell kc a mo)) s.heap.size = A at hD ⊢
  have hA : ∀ q : Nat, s.heap.size ≤ q → A q := fun q h => by rw [← hAe]; exact Or.inr h
  have hS : va_S A s.heap s.heap [] := va_S.rf
  have loop : ∀ (n j : Nat) (cn : Int32) (H : Heap) (locs : List Loc) (ls : Array Slot), j ≤ 16 → j + n = 16 + 1 → lp_M_used mo pr n j cn = R' → va_P (dC, dI) vwCl (ml 11 a (mcell kc a mo)) H → va_D A (ml 11 a (mcell kc a mo)) → va_S A s.heap H locs → lv_has ls 4 [(0, .ref (a 0)), (1, .int pr), (2, .int cn), (3, .int (nI j))] → W p l e rm_M_used s m ([.ref (a 0), .int pr] : List Value).toArray below meth c H locs 0 0 (MQ below (va_Qi (fun r (_ : Unit) => r = R') (fun _ t => ml_E (dC, dI) vwCl (tysD kc) 11 a (mcell kc a mo) A t) A) ([.ref (a 0), .int pr] : List Value).toArray s 0 0 A) (F0 m 4 ls []) := by
    intro n
    induction n with
    | zero =>
      intro j cn H locs ls hj hn
      exact absurd hn (by omega)
    | succ n ih =>
      intro j cn H locs ls hj hn  hres hP hD hS hl
      rw [lp_M_used] at hres
      refine lv_iload_n hx hb d_M_used_4 rfl (lv_at hl 3 rfl) ?_
      refine lv_bipush (v := 16) hx hb d_M_used_5 (by decide) ?_
      refine lv_icmp_ge (tgt := 38) hx hb d_M_used_7 (by decide) (fun h_1 => ?_) (fun h_1 => ?_)
      · rw [if_pos h_1] at hres
        refine lv_iload_n hx hb d_M_used_38 rfl (lv_at hl 2 rfl) ?_
        subst hres
        exact ml_iret hx hb hr hlocks hP hK hD hS d_M_used_39
      · rw [if_neg h_1] at hres
        refine lv_iload_n hx hb d_M_used_10 rfl (lv_at hl 2 rfl) ?_
        refine lv_aload_n hx hb d_M_used_11 rfl (lv_at hl 0 rfl) ?_
        refine ml_get (D := (dC, dI)) hx hb hts in_MC hown hK hP (0) (by decide) (mc_mod kc a mo) rfl 1 (by decide) (hts _ (mC _ wd_342)) (fun _ h9 => h9) (v := .ref (a 1)) rfl d_M_used_12 ?_
        refine lv_bipush (v := 16) hx hb d_M_used_15 (by decide) ?_
        refine lv_iload_n hx hb d_M_used_17 rfl (lv_at hl 1 rfl) ?_
        refine lv_imul hx hb d_M_used_18 ?_
        refine lv_iload_n hx hb d_M_used_19 rfl (lv_at hl 3 rfl) ?_
        refine lv_iadd hx hb d_M_used_20 ?_
        refine ml_iald hx hb hK hP (1) 0 (by decide) (mc_names kc a mo) rfl (md_inj hp (lp_adv (b := (16 : Int32)) (B := 16) rfl (by decide) hj (by assumption))) d_M_used_21 ?_
        refine lv_if_le (tgt := 29) hx hb d_M_used_22 (by decide) (fun h_2 => ?_) (fun h_2 => ?_)
        · rw [if_pos h_2] at hres
          refine lv_iconst (v := 0) hx hb d_M_used_29 (by decide) ?_
          refine lv_iadd hx hb d_M_used_30 ?_
          refine lv_istore_n (lv' := [(2, .int (cn + (0 : Int32))), (0, .ref (a 0)), (1, .int pr), (3, .int (nI j))]) hx hb d_M_used_31 rfl hl (by decide) rfl (fun ls hl => ?_)
          refine lv_iinc (v := nI (j + 1)) (lv' := [(3, .int (nI (j + 1))), (2, .int (cn + (0 : Int32))), (0, .ref (a 0)), (1, .int pr)]) hx hb d_M_used_32 hl (k := 3) rfl (nI_1 j) (by decide) rfl (fun ls hl => ?_)
          refine lv_goto (tgt := 4) hx hb d_M_used_35 (by decide) ?_
          exact ih (j + 1) (cn + (0 : Int32)) _ _ ls (lp_adv (b := (16 : Int32)) (B := 16) rfl (by decide) hj (by assumption)) (by omega) hres hP hD hS (lv_sub hl [2, 3, 1, 0] rfl)
        · rw [if_neg h_2] at hres
          refine lv_iconst (v := 1) hx hb d_M_used_25 (by decide) ?_
          refine lv_goto (tgt := 30) hx hb d_M_used_26 (by decide) ?_
          refine lv_iadd hx hb d_M_used_30 ?_
          refine lv_istore_n (lv' := [(2, .int (cn + (1 : Int32))), (0, .ref (a 0)), (1, .int pr), (3, .int (nI j))]) hx hb d_M_used_31 rfl hl (by decide) rfl (fun ls hl => ?_)
          refine lv_iinc (v := nI (j + 1)) (lv' := [(3, .int (nI (j + 1))), (2, .int (cn + (1 : Int32))), (0, .ref (a 0)), (1, .int pr)]) hx hb d_M_used_32 hl (k := 3) rfl (nI_1 j) (by decide) rfl (fun ls hl => ?_)
          refine lv_goto (tgt := 4) hx hb d_M_used_35 (by decide) ?_
          exact ih (j + 1) (cn + (1 : Int32)) _ _ ls (lp_adv (b := (16 : Int32)) (B := 16) rfl (by decide) hj (by assumption)) (by omega) hres hP hD hS (lv_sub hl [2, 3, 1, 0] rfl)
  have hl := lv_entry ([.ref (a 0), .int pr]) (n := 4) (Nat.le_of_ble_eq_true rfl)
  rw [lg_entry_eq]
  generalize (lg_sl ([.ref (a 0), .int pr]) ++ List.replicate (4 - (lg_sl ([.ref (a 0), .int pr])).length) Slot.unset).toArray = ls at hl ⊢
  have hl : lv_has ls 4 [(0, .ref (a 0)), (1, .int pr)] := hl
  rw [sp_M_used] at hres
  refine lv_iconst (v := 0) hx hb d_M_used_0 (by decide) ?_
  refine lv_istore_n (lv' := [(2, .int (0 : Int32)), (0, .ref (a 0)), (1, .int pr)]) hx hb d_M_used_1 rfl hl (by decide) rfl (fun ls hl => ?_)
  refine lv_iconst (v := 0) hx hb d_M_used_2 (by decide) ?_
  refine lv_istore_n (lv' := [(3, .int (0 : Int32)), (2, .int (0 : Int32)), (0, .ref (a 0)), (1, .int pr)]) hx hb d_M_used_3 rfl hl (by decide) rfl (fun ls hl => ?_)
  exact loop _ 0 (0 : Int32) _ _ ls (Nat.zero_le _) (by omega) hres hP hD hS (lv_sub hl [2, 3, 1, 0] rfl)
def lp_M_end (mo : MK) (kx : Int32) (sd : Int32) : Nat → Nat → Int32 → Int32
  | 0, _, _ => 0
  | n + 1, j, fo =>
    (if (32 : Int32) ≤ (nI j) then fo else (if mo 6 (nI j).toNatClampNeg = (1 : Int32) then (if mo 7 (nI j).toNatClampNeg = kx then (if mo 8 (nI j).toNatClampNeg = sd then (if (sp_M_named mo (nI j)) ≤ (0 : Int32) then (lp_M_end mo kx sd n (j + 1) fo) else (lp_M_end mo kx sd n (j + 1) (nI j))) else (lp_M_end mo kx sd n (j + 1) fo)) else (lp_M_end mo kx sd n (j + 1) fo)) else (lp_M_end mo kx sd n (j + 1) fo)))
def sp_M_end (mo : MK) (kx : Int32) (sd : Int32) : Int32 :=
  (lp_M_end mo kx sd (32 + 1) 0 (-1 : Int32))
abbrev rm_M_end : Room := { frames := 1, cells := 0, slots := 0, locals := 23 }
set_option maxHeartbeats 4000000 in
set_option maxRecDepth 100000 in
theorem c_M_end (l : Launch) (dC : Nat → ClassId) (dI : Nat → Nat → Nat) (kc : Nat → ClassId) (a : Nat → Nat) (sz : Nat) (mo : MK) (kx : Int32) (sd : Int32) (R' : Int32) (hres : sp_M_end mo kx sd = R') : Met l y_M_end ws_M_end rm_M_end (va_Pc [.ref (a 0), .int kx, .int sd] (ml_B (dC, dI) vwCl (tysD kc) 11 a (mcell kc a mo) sz)) (va_Qi (fun r (_ : Unit) => r = R') (fun _ t => ml_E (dC, dI) vwCl (tysD kc) 11 a (mcell kc a mo) (va_A (ml 11 a (mcell kc a mo)) sz) t) (va_A (ml 11 a (mcell kc a mo)) sz)) 0 0 (va_A (ml 11 a (mcell kc a mo)) sz) := by
  refine Met.ofW (cc := prog_7_method_10_code) (maxL := 5) (ret := (some .int)) (by decide) rfl ?_
  intro p e s m args below meth c s₁ B hml hv
  obtain ⟨rfl, hsz, hP, hK, hD0⟩ := hv
  have hx := B.exec
  have hb := B.bytes
  have hr := B.returns
  have hts := atoms_spec (ws := ws_M_end) B.pre
  have hown : s.vm.findClass "HandleDeskModel" = some m.cls := findClass_of_methodNamed B.named
  have hlocks := B.notSynchronized
  subst hsz
  have hD := hD0.self (sz := s.heap.size)
  generalize hAe : va_A (ml 11 a (mcell kc a mo)) s.heap.size = A at hD ⊢
  have hA : ∀ q : Nat, s.heap.size ≤ q → A q := fun q h => by rw [← hAe]; exact Or.inr h
  have hS : va_S A s.heap s.heap [] := va_S.rf
  have loop : ∀ (n j : Nat) (fo : Int32) (H : Heap) (locs : List Loc) (ls : Array Slot), j ≤ 32 → j + n = 32 + 1 → lp_M_end mo kx sd n j fo = R' → va_P (dC, dI) vwCl (ml 11 a (mcell kc a mo)) H → va_D A (ml 11 a (mcell kc a mo)) → va_S A s.heap H locs → lv_has ls 5 [(0, .ref (a 0)), (1, .int kx), (2, .int sd), (3, .int fo), (4, .int (nI j))] → W p l e rm_M_end s m ([.ref (a 0), .int kx, .int sd] : List Value).toArray below meth c H locs 0 0 (MQ below (va_Qi (fun r (_ : Unit) => r = R') (fun _ t => ml_E (dC, dI) vwCl (tysD kc) 11 a (mcell kc a mo) A t) A) ([.ref (a 0), .int kx, .int sd] : List Value).toArray s 0 0 A) (F0 m 5 ls []) := by
    intro n
    induction n with
    | zero =>
      intro j fo H locs ls hj hn
      exact absurd hn (by omega)
    | succ n ih =>
      intro j fo H locs ls hj hn  hres hP hD hS hl
      rw [lp_M_end] at hres
      refine lv_iload hx hb d_M_end_5 (lv_at hl 4 rfl) ?_
      refine lv_bipush (v := 32) hx hb d_M_end_7 (by decide) ?_
      refine lv_icmp_ge (tgt := 67) hx hb d_M_end_9 (by decide) (fun h_1 => ?_) (fun h_1 => ?_)
      · rw [if_pos h_1] at hres
        refine lv_iload_n hx hb d_M_end_67 rfl (lv_at hl 3 rfl) ?_
        subst hres
        exact ml_iret hx hb hr hlocks hP hK hD hS d_M_end_68
      · rw [if_neg h_1] at hres
        refine lv_aload_n hx hb d_M_end_12 rfl (lv_at hl 0 rfl) ?_
        refine ml_get (D := (dC, dI)) hx hb hts in_MC hown hK hP (0) (by decide) (mc_mod kc a mo) rfl 2 (by decide) (hts _ (mC _ wd_343)) (fun _ h9 => h9) (v := .ref (a 2)) rfl d_M_end_13 ?_
        refine lv_iload hx hb d_M_end_16 (lv_at hl 4 rfl) ?_
        refine ml_iald hx hb hK hP (2) 0 (by decide) (mc_kind kc a mo) rfl (lp_in (b := (32 : Int32)) (B := 32) rfl (by decide) hj (by assumption)) d_M_end_18 ?_
        refine lv_iconst (v := 1) hx hb d_M_end_19 (by decide) ?_
        refine lv_icmp_ne (tgt := 59) hx hb d_M_end_20 (by decide) (fun h_2 => ?_) (fun h_2 => ?_)
        · rw [if_neg h_2] at hres
          refine lv_iload_n hx hb d_M_end_59 rfl (lv_at hl 3 rfl) ?_
          refine lv_istore_n (lv' := [(3, .int fo), (0, .ref (a 0)), (1, .int kx), (2, .int sd), (4, .int (nI j))]) hx hb d_M_end_60 rfl hl (by decide) rfl (fun ls hl => ?_)
          refine lv_iinc (v := nI (j + 1)) (lv' := [(4, .int (nI (j + 1))), (3, .int fo), (0, .ref (a 0)), (1, .int kx), (2, .int sd)]) hx hb d_M_end_61 hl (k := 4) rfl (nI_1 j) (by decide) rfl (fun ls hl => ?_)
          refine lv_goto (tgt := 5) hx hb d_M_end_64 (by decide) ?_
          exact ih (j + 1) fo _ _ ls (lp_adv (b := (32 : Int32)) (B := 32) rfl (by decide) hj (by assumption)) (by omega) hres hP hD hS (lv_sub hl [2, 3, 4, 1, 0] rfl)
        · rw [if_pos h_2] at hres
          refine lv_aload_n hx hb d_M_end_23 rfl (lv_at hl 0 rfl) ?_
          refine ml_get (D := (dC, dI)) hx hb hts in_MC hown hK hP (0) (by decide) (mc_mod kc a mo) rfl 3 (by decide) (hts _ (mC _ wd_344)) (fun _ h9 => h9) (v := .ref (a 3)) rfl d_M_end_24 ?_
          refine lv_iload hx hb d_M_end_27 (lv_at hl 4 rfl) ?_
          refine ml_iald hx hb hK hP (3) 0 (by decide) (mc_what kc a mo) rfl (lp_in (b := (32 : Int32)) (B := 32) rfl (by decide) hj (by assumption)) d_M_end_29 ?_
          refine lv_iload_n hx hb d_M_end_30 rfl (lv_at hl 1 rfl) ?_
          refine lv_icmp_ne (tgt := 59) hx hb d_M_end_31 (by decide) (fun h_3 => ?_) (fun h_3 => ?_)
          · rw [if_neg h_3] at hres
            refine lv_iload_n hx hb d_M_end_59 rfl (lv_at hl 3 rfl) ?_
            refine lv_istore_n (lv' := [(3, .int fo), (0, .ref (a 0)), (1, .int kx), (2, .int sd), (4, .int (nI j))]) hx hb d_M_end_60 rfl hl (by decide) rfl (fun ls hl => ?_)
            refine lv_iinc (v := nI (j + 1)) (lv' := [(4, .int (nI (j + 1))), (3, .int fo), (0, .ref (a 0)), (1, .int kx), (2, .int sd)]) hx hb d_M_end_61 hl (k := 4) rfl (nI_1 j) (by decide) rfl (fun ls hl => ?_)
            refine lv_goto (tgt := 5) hx hb d_M_end_64 (by decide) ?_
            exact ih (j + 1) fo _ _ ls (lp_adv (b := (32 : Int32)) (B := 32) rfl (by decide) hj (by assumption)) (by omega) hres hP hD hS (lv_sub hl [2, 3, 4, 1, 0] rfl)
          · rw [if_pos h_3] at hres
            refine lv_aload_n hx hb d_M_end_34 rfl (lv_at hl 0 rfl) ?_
            refine ml_get (D := (dC, dI)) hx hb hts in_MC hown hK hP (0) (by decide) (mc_mod kc a mo) rfl 4 (by decide) (hts _ (mC _ wd_345)) (fun _ h9 => h9) (v := .ref (a 4)) rfl d_M_end_35 ?_
            refine lv_iload hx hb d_M_end_38 (lv_at hl 4 rfl) ?_
            refine ml_iald hx hb hK hP (4) 0 (by decide) (mc_how kc a mo) rfl (lp_in (b := (32 : Int32)) (B := 32) rfl (by decide) hj (by assumption)) d_M_end_40 ?_
            refine lv_iload_n hx hb d_M_end_41 rfl (lv_at hl 2 rfl) ?_
            refine lv_icmp_ne (tgt := 59) hx hb d_M_end_42 (by decide) (fun h_4 => ?_) (fun h_4 => ?_)
            · rw [if_neg h_4] at hres
              refine lv_iload_n hx hb d_M_end_59 rfl (lv_at hl 3 rfl) ?_
              refine lv_istore_n (lv' := [(3, .int fo), (0, .ref (a 0)), (1, .int kx), (2, .int sd), (4, .int (nI j))]) hx hb d_M_end_60 rfl hl (by decide) rfl (fun ls hl => ?_)
              refine lv_iinc (v := nI (j + 1)) (lv' := [(4, .int (nI (j + 1))), (3, .int fo), (0, .ref (a 0)), (1, .int kx), (2, .int sd)]) hx hb d_M_end_61 hl (k := 4) rfl (nI_1 j) (by decide) rfl (fun ls hl => ?_)
              refine lv_goto (tgt := 5) hx hb d_M_end_64 (by decide) ?_
              exact ih (j + 1) fo _ _ ls (lp_adv (b := (32 : Int32)) (B := 32) rfl (by decide) hj (by assumption)) (by omega) hres hP hD hS (lv_sub hl [2, 3, 4, 1, 0] rfl)
            · rw [if_pos h_4] at hres
              refine lv_aload_n hx hb d_M_end_45 rfl (lv_at hl 0 rfl) ?_
              refine lv_iload hx hb d_M_end_46 (lv_at hl 4 rfl) ?_
              refine ml_calli (va_runV (As := [.int (nI j)]) (rest := []) ⟨hx, hb, hml, hown, hts⟩ (c_M_named l dC dI kc a _ mo (nI j) _ rfl) (cwV 1 hts (gd_V mC wd_402 wd_404 ws_11 wd_6 wd_405) rfl rfl rfl hd_M_named ⟨Nat.le_of_ble_eq_true rfl, Nat.le_of_ble_eq_true rfl⟩) ⟨ml_blind, va_recv hK hP (ci := 5) rfl (ml_at (by decide) (mc_mod kc a mo)), ml_pre hP hK hD⟩ rfl rfl hl.1 rfl (lv_room (Nat.le_of_ble_eq_true rfl)) d_M_end_48 ⟨Nat.zero_le _, Nat.zero_le _⟩) hD hS hA (fun H locs hP hD hS => ?_)
              refine lv_if_le (tgt := 59) hx hb d_M_end_51 (by decide) (fun h_5 => ?_) (fun h_5 => ?_)
              · rw [if_pos h_5] at hres
                refine lv_iload_n hx hb d_M_end_59 rfl (lv_at hl 3 rfl) ?_
                refine lv_istore_n (lv' := [(3, .int fo), (0, .ref (a 0)), (1, .int kx), (2, .int sd), (4, .int (nI j))]) hx hb d_M_end_60 rfl hl (by decide) rfl (fun ls hl => ?_)
                refine lv_iinc (v := nI (j + 1)) (lv' := [(4, .int (nI (j + 1))), (3, .int fo), (0, .ref (a 0)), (1, .int kx), (2, .int sd)]) hx hb d_M_end_61 hl (k := 4) rfl (nI_1 j) (by decide) rfl (fun ls hl => ?_)
                refine lv_goto (tgt := 5) hx hb d_M_end_64 (by decide) ?_
                exact ih (j + 1) fo _ _ ls (lp_adv (b := (32 : Int32)) (B := 32) rfl (by decide) hj (by assumption)) (by omega) hres hP hD hS (lv_sub hl [2, 3, 4, 1, 0] rfl)
              · rw [if_neg h_5] at hres
                refine lv_iload hx hb d_M_end_54 (lv_at hl 4 rfl) ?_
                refine lv_goto (tgt := 60) hx hb d_M_end_56 (by decide) ?_
                refine lv_istore_n (lv' := [(3, .int (nI j)), (0, .ref (a 0)), (1, .int kx), (2, .int sd), (4, .int (nI j))]) hx hb d_M_end_60 rfl hl (by decide) rfl (fun ls hl => ?_)
                refine lv_iinc (v := nI (j + 1)) (lv' := [(4, .int (nI (j + 1))), (3, .int (nI j)), (0, .ref (a 0)), (1, .int kx), (2, .int sd)]) hx hb d_M_end_61 hl (k := 4) rfl (nI_1 j) (by decide) rfl (fun ls hl => ?_)
                refine lv_goto (tgt := 5) hx hb d_M_end_64 (by decide) ?_
                exact ih (j + 1) (nI j) _ _ ls (lp_adv (b := (32 : Int32)) (B := 32) rfl (by decide) hj (by assumption)) (by omega) hres hP hD hS (lv_sub hl [2, 3, 4, 1, 0] rfl)
  have hl := lv_entry ([.ref (a 0), .int kx, .int sd]) (n := 5) (Nat.le_of_ble_eq_true rfl)
  rw [lg_entry_eq]
  generalize (lg_sl ([.ref (a 0), .int kx, .int sd]) ++ List.replicate (5 - (lg_sl ([.ref (a 0), .int kx, .int sd])).length) Slot.unset).toArray = ls at hl ⊢
  have hl : lv_has ls 5 [(0, .ref (a 0)), (1, .int kx), (2, .int sd)] := hl
  rw [sp_M_end] at hres
  refine lv_iconst (v := -1) hx hb d_M_end_0 (by decide) ?_
  refine lv_istore_n (lv' := [(3, .int (-1 : Int32)), (0, .ref (a 0)), (1, .int kx), (2, .int sd)]) hx hb d_M_end_1 rfl hl (by decide) rfl (fun ls hl => ?_)
  refine lv_iconst (v := 0) hx hb d_M_end_2 (by decide) ?_
  refine lv_istore (lv' := [(4, .int (0 : Int32)), (3, .int (-1 : Int32)), (0, .ref (a 0)), (1, .int kx), (2, .int sd)]) hx hb d_M_end_3 hl (by decide) rfl (fun ls hl => ?_)
  exact loop _ 0 (-1 : Int32) _ _ ls (Nat.zero_le _) (by omega) hres hP hD hS (lv_sub hl [2, 3, 4, 1, 0] rfl)
def sp_M_isPipe (mo : MK) (kx : Int32) : Int32 :=
  (if (0 : Int32) ≤ (sp_M_end mo kx (1 : Int32)) then (1 : Int32) else (if (sp_M_end mo kx (2 : Int32)) < (0 : Int32) then (0 : Int32) else (1 : Int32)))
abbrev rm_M_isPipe : Room := { frames := 2, cells := 0, slots := 0, locals := 47 }
set_option maxHeartbeats 4000000 in
set_option maxRecDepth 100000 in
theorem c_M_isPipe (l : Launch) (dC : Nat → ClassId) (dI : Nat → Nat → Nat) (kc : Nat → ClassId) (a : Nat → Nat) (sz : Nat) (mo : MK) (kx : Int32) (R' : Int32) (hres : sp_M_isPipe mo kx = R') : Met l y_M_isPipe ws_M_isPipe rm_M_isPipe (va_Pc [.ref (a 0), .int kx] (ml_B (dC, dI) vwCl (tysD kc) 11 a (mcell kc a mo) sz)) (va_Qi (fun r (_ : Unit) => r = R') (fun _ t => ml_E (dC, dI) vwCl (tysD kc) 11 a (mcell kc a mo) (va_A (ml 11 a (mcell kc a mo)) sz) t) (va_A (ml 11 a (mcell kc a mo)) sz)) 0 0 (va_A (ml 11 a (mcell kc a mo)) sz) := by
  refine Met.ofW (cc := prog_7_method_11_code) (maxL := 2) (ret := (some .boolean)) (by decide) rfl ?_
  intro p e s m args below meth c s₁ B hml hv
  obtain ⟨rfl, hsz, hP, hK, hD0⟩ := hv
  have hx := B.exec
  have hb := B.bytes
  have hr := B.returns
  have hts := atoms_spec (ws := ws_M_isPipe) B.pre
  have hown : s.vm.findClass "HandleDeskModel" = some m.cls := findClass_of_methodNamed B.named
  have hlocks := B.notSynchronized
  subst hsz
  have hD := hD0.self (sz := s.heap.size)
  generalize hAe : va_A (ml 11 a (mcell kc a mo)) s.heap.size = A at hD ⊢
  have hA : ∀ q : Nat, s.heap.size ≤ q → A q := fun q h => by rw [← hAe]; exact Or.inr h
  have hS : va_S A s.heap s.heap [] := va_S.rf
  have hl := lv_entry ([.ref (a 0), .int kx]) (n := 2) (Nat.le_of_ble_eq_true rfl)
  rw [lg_entry_eq]
  generalize (lg_sl ([.ref (a 0), .int kx]) ++ List.replicate (2 - (lg_sl ([.ref (a 0), .int kx])).length) Slot.unset).toArray = ls at hl ⊢
  have hl : lv_has ls 2 [(0, .ref (a 0)), (1, .int kx)] := hl
  rw [sp_M_isPipe] at hres
  refine lv_aload_n hx hb d_M_isPipe_0 rfl (lv_at hl 0 rfl) ?_
  refine lv_iload_n hx hb d_M_isPipe_1 rfl (lv_at hl 1 rfl) ?_
  refine lv_iconst (v := 1) hx hb d_M_isPipe_2 (by decide) ?_
  refine ml_calli (va_runV (As := [.int kx, .int (1 : Int32)]) (rest := []) ⟨hx, hb, hml, hown, hts⟩ (c_M_end l dC dI kc a _ mo kx (1 : Int32) _ rfl) (cwV 2 hts (gd_V mC wd_422 wd_424 ws_15 wd_6 wd_425) rfl rfl rfl hd_M_end ⟨Nat.le_of_ble_eq_true rfl, Nat.le_of_ble_eq_true rfl⟩) ⟨ml_blind, va_recv hK hP (ci := 5) rfl (ml_at (by decide) (mc_mod kc a mo)), ml_pre hP hK hD⟩ rfl rfl hl.1 rfl (lv_room (Nat.le_of_ble_eq_true rfl)) d_M_isPipe_3 ⟨Nat.zero_le _, Nat.zero_le _⟩) hD hS hA (fun H locs hP hD hS => ?_)
  refine lv_if_ge (tgt := 18) hx hb d_M_isPipe_6 (by decide) (fun h_1 => ?_) (fun h_1 => ?_)
  · rw [if_pos h_1] at hres
    refine lv_iconst (v := 1) hx hb d_M_isPipe_18 (by decide) ?_
    refine lv_goto (tgt := 23) hx hb d_M_isPipe_19 (by decide) ?_
    subst hres
    exact ml_zret hx hb hr (by decide) hlocks hP hK hD hS d_M_isPipe_23
  · rw [if_neg h_1] at hres
    refine lv_aload_n hx hb d_M_isPipe_9 rfl (lv_at hl 0 rfl) ?_
    refine lv_iload_n hx hb d_M_isPipe_10 rfl (lv_at hl 1 rfl) ?_
    refine lv_iconst (v := 2) hx hb d_M_isPipe_11 (by decide) ?_
    refine ml_calli (va_runV (As := [.int kx, .int (2 : Int32)]) (rest := []) ⟨hx, hb, hml, hown, hts⟩ (c_M_end l dC dI kc a _ mo kx (2 : Int32) _ rfl) (cwV 2 hts (gd_V mC wd_422 wd_424 ws_15 wd_6 wd_425) rfl rfl rfl hd_M_end ⟨Nat.le_of_ble_eq_true rfl, Nat.le_of_ble_eq_true rfl⟩) ⟨ml_blind, va_recv hK hP (ci := 5) rfl (ml_at (by decide) (mc_mod kc a mo)), ml_pre hP hK hD⟩ rfl rfl hl.1 rfl (lv_room (Nat.le_of_ble_eq_true rfl)) d_M_isPipe_12 ⟨Nat.zero_le _, Nat.zero_le _⟩) hD hS hA (fun H locs hP hD hS => ?_)
    refine lv_if_lt (tgt := 22) hx hb d_M_isPipe_15 (by decide) (fun h_2 => ?_) (fun h_2 => ?_)
    · rw [if_pos h_2] at hres
      refine lv_iconst (v := 0) hx hb d_M_isPipe_22 (by decide) ?_
      subst hres
      exact ml_zret hx hb hr (by decide) hlocks hP hK hD hS d_M_isPipe_23
    · rw [if_neg h_2] at hres
      refine lv_iconst (v := 1) hx hb d_M_isPipe_18 (by decide) ?_
      refine lv_goto (tgt := 23) hx hb d_M_isPipe_19 (by decide) ?_
      subst hres
      exact ml_zret hx hb hr (by decide) hlocks hP hK hD hS d_M_isPipe_23
def sp_M_makes (mo : MK) (pr : Int32) (x : Int32) (so : Int32) (wt : Int32) (wy : Int32) : Int32 × MK :=
  (x, u2 (u2 (u2 (u2 (u2 mo 5 (((16 : Int32) * pr) + x).toNatClampNeg ((sp_M_freeFile mo) + (1 : Int32))) 6 (sp_M_freeFile mo).toNatClampNeg so) 7 (sp_M_freeFile mo).toNatClampNeg wt) 8 (sp_M_freeFile mo).toNatClampNeg wy) 9 (sp_M_freeFile mo).toNatClampNeg (0 : Int32))
abbrev rm_M_makes : Room := { frames := 2, cells := 0, slots := 0, locals := 44 }
set_option maxHeartbeats 4000000 in
set_option maxRecDepth 100000 in
theorem c_M_makes (l : Launch) (dC : Nat → ClassId) (dI : Nat → Nat → Nat) (kc : Nat → ClassId) (a : Nat → Nat) (sz : Nat) (mo : MK) (pr : Int32) (x : Int32) (so : Int32) (wt : Int32) (wy : Int32) (hi1 : vp_in (((16 : Int32) * pr) + x) 240) (hf1 : vp_in (sp_M_freeFile mo) 32) (R' : Int32) (mo' : MK) (hres : sp_M_makes mo pr x so wt wy = (R', mo')) : Met l y_M_makes ws_M_makes rm_M_makes (va_Pc [.ref (a 0), .int pr, .int x, .int so, .int wt, .int wy] (ml_B (dC, dI) vwCl (tysD kc) 11 a (mcell kc a mo) sz)) (va_Qi (fun r (_ : Unit) => r = R') (fun _ t => ml_E (dC, dI) vwCl (tysD kc) 11 a (mcell kc a mo') (va_A (ml 11 a (mcell kc a mo)) sz) t) (va_A (ml 11 a (mcell kc a mo)) sz)) 0 0 (va_A (ml 11 a (mcell kc a mo)) sz) := by
  refine Met.ofW (cc := prog_7_method_12_code) (maxL := 7) (ret := (some .int)) (by decide) rfl ?_
  intro p e s m args below meth c s₁ B hml hv
  obtain ⟨rfl, hsz, hP, hK, hD0⟩ := hv
  have hx := B.exec
  have hb := B.bytes
  have hr := B.returns
  have hts := atoms_spec (ws := ws_M_makes) B.pre
  have hown : s.vm.findClass "HandleDeskModel" = some m.cls := findClass_of_methodNamed B.named
  have hlocks := B.notSynchronized
  subst hsz
  have hD := hD0.self (sz := s.heap.size)
  generalize hAe : va_A (ml 11 a (mcell kc a mo)) s.heap.size = A at hD ⊢
  have hA : ∀ q : Nat, s.heap.size ≤ q → A q := fun q h => by rw [← hAe]; exact Or.inr h
  have hS : va_S A s.heap s.heap [] := va_S.rf
  have hl := lv_entry ([.ref (a 0), .int pr, .int x, .int so, .int wt, .int wy]) (n := 7) (Nat.le_of_ble_eq_true rfl)
  rw [lg_entry_eq]
  generalize (lg_sl ([.ref (a 0), .int pr, .int x, .int so, .int wt, .int wy]) ++ List.replicate (7 - (lg_sl ([.ref (a 0), .int pr, .int x, .int so, .int wt, .int wy])).length) Slot.unset).toArray = ls at hl ⊢
  have hl : lv_has ls 7 [(0, .ref (a 0)), (1, .int pr), (2, .int x), (3, .int so), (4, .int wt), (5, .int wy)] := hl
  rw [sp_M_makes] at hres
  refine lv_aload_n hx hb d_M_makes_0 rfl (lv_at hl 0 rfl) ?_
  refine ml_calli (va_runV (As := []) (rest := []) ⟨hx, hb, hml, hown, hts⟩ (c_M_freeFile l dC dI kc a _ mo _ rfl) (cwV 0 hts (gd_V mC wd_410 wd_412 ws_13 wd_6 wd_413) rfl rfl rfl hd_M_freeFile ⟨Nat.le_of_ble_eq_true rfl, Nat.le_of_ble_eq_true rfl⟩) ⟨ml_blind, va_recv hK hP (ci := 5) rfl (ml_at (by decide) (mc_mod kc a mo)), ml_pre hP hK hD⟩ rfl rfl hl.1 rfl (lv_room (Nat.le_of_ble_eq_true rfl)) d_M_makes_1 ⟨Nat.zero_le _, Nat.zero_le _⟩) hD hS hA (fun H locs hP hD hS => ?_)
  refine lv_istore (lv' := [(6, .int (sp_M_freeFile mo)), (0, .ref (a 0)), (1, .int pr), (2, .int x), (3, .int so), (4, .int wt), (5, .int wy)]) hx hb d_M_makes_4 hl (by decide) rfl (fun ls hl => ?_)
  refine lv_aload_n hx hb d_M_makes_6 rfl (lv_at hl 1 rfl) ?_
  refine ml_get (D := (dC, dI)) hx hb hts in_MC hown hK hP (0) (by decide) (mc_mod kc a mo) rfl 1 (by decide) (hts _ (mC _ wd_342)) (fun _ h9 => h9) (v := .ref (a 1)) rfl d_M_makes_7 ?_
  refine lv_bipush (v := 16) hx hb d_M_makes_10 (by decide) ?_
  refine lv_iload_n hx hb d_M_makes_12 rfl (lv_at hl 2 rfl) ?_
  refine lv_imul hx hb d_M_makes_13 ?_
  refine lv_iload_n hx hb d_M_makes_14 rfl (lv_at hl 3 rfl) ?_
  refine lv_iadd hx hb d_M_makes_15 ?_
  refine lv_iload hx hb d_M_makes_16 (lv_at hl 0 rfl) ?_
  refine lv_iconst (v := 1) hx hb d_M_makes_18 (by decide) ?_
  refine lv_iadd hx hb d_M_makes_19 ?_
  refine ml_iast hx hb hK hP hD hS (1) 0 (by decide) (mc_names kc a mo) rfl hi1 (f' := (mcell kc a (u2 mo 5 (((16 : Int32) * pr) + x).toNatClampNeg ((sp_M_freeFile mo) + (1 : Int32))))) (mw_names kc a _ (((16 : Int32) * pr) + x).toNatClampNeg ((sp_M_freeFile mo) + (1 : Int32))) d_M_makes_20 (fun H locs hP hD hS => ?_)
  refine lv_aload_n hx hb d_M_makes_21 rfl (lv_at hl 1 rfl) ?_
  refine ml_get (D := (dC, dI)) hx hb hts in_MC hown hK hP (0) (by decide) (mc_mod kc a (u2 mo 5 (((16 : Int32) * pr) + x).toNatClampNeg ((sp_M_freeFile mo) + (1 : Int32)))) rfl 2 (by decide) (hts _ (mC _ wd_343)) (fun _ h9 => h9) (v := .ref (a 2)) rfl d_M_makes_22 ?_
  refine lv_iload hx hb d_M_makes_25 (lv_at hl 0 rfl) ?_
  refine lv_iload_n hx hb d_M_makes_27 rfl (lv_at hl 4 rfl) ?_
  refine ml_iast hx hb hK hP hD hS (2) 0 (by decide) (mc_kind kc a (u2 mo 5 (((16 : Int32) * pr) + x).toNatClampNeg ((sp_M_freeFile mo) + (1 : Int32)))) rfl hf1 (f' := (mcell kc a (u2 (u2 mo 5 (((16 : Int32) * pr) + x).toNatClampNeg ((sp_M_freeFile mo) + (1 : Int32))) 6 (sp_M_freeFile mo).toNatClampNeg so))) (mw_kind kc a _ (sp_M_freeFile mo).toNatClampNeg so) d_M_makes_28 (fun H locs hP hD hS => ?_)
  refine lv_aload_n hx hb d_M_makes_29 rfl (lv_at hl 1 rfl) ?_
  refine ml_get (D := (dC, dI)) hx hb hts in_MC hown hK hP (0) (by decide) (mc_mod kc a (u2 (u2 mo 5 (((16 : Int32) * pr) + x).toNatClampNeg ((sp_M_freeFile mo) + (1 : Int32))) 6 (sp_M_freeFile mo).toNatClampNeg so)) rfl 3 (by decide) (hts _ (mC _ wd_344)) (fun _ h9 => h9) (v := .ref (a 3)) rfl d_M_makes_30 ?_
  refine lv_iload hx hb d_M_makes_33 (lv_at hl 0 rfl) ?_
  refine lv_iload hx hb d_M_makes_35 (lv_at hl 5 rfl) ?_
  refine ml_iast hx hb hK hP hD hS (3) 0 (by decide) (mc_what kc a (u2 (u2 mo 5 (((16 : Int32) * pr) + x).toNatClampNeg ((sp_M_freeFile mo) + (1 : Int32))) 6 (sp_M_freeFile mo).toNatClampNeg so)) rfl hf1 (f' := (mcell kc a (u2 (u2 (u2 mo 5 (((16 : Int32) * pr) + x).toNatClampNeg ((sp_M_freeFile mo) + (1 : Int32))) 6 (sp_M_freeFile mo).toNatClampNeg so) 7 (sp_M_freeFile mo).toNatClampNeg wt))) (mw_what kc a _ (sp_M_freeFile mo).toNatClampNeg wt) d_M_makes_37 (fun H locs hP hD hS => ?_)
  refine lv_aload_n hx hb d_M_makes_38 rfl (lv_at hl 1 rfl) ?_
  refine ml_get (D := (dC, dI)) hx hb hts in_MC hown hK hP (0) (by decide) (mc_mod kc a (u2 (u2 (u2 mo 5 (((16 : Int32) * pr) + x).toNatClampNeg ((sp_M_freeFile mo) + (1 : Int32))) 6 (sp_M_freeFile mo).toNatClampNeg so) 7 (sp_M_freeFile mo).toNatClampNeg wt)) rfl 4 (by decide) (hts _ (mC _ wd_345)) (fun _ h9 => h9) (v := .ref (a 4)) rfl d_M_makes_39 ?_
  refine lv_iload hx hb d_M_makes_42 (lv_at hl 0 rfl) ?_
  refine lv_iload hx hb d_M_makes_44 (lv_at hl 6 rfl) ?_
  refine ml_iast hx hb hK hP hD hS (4) 0 (by decide) (mc_how kc a (u2 (u2 (u2 mo 5 (((16 : Int32) * pr) + x).toNatClampNeg ((sp_M_freeFile mo) + (1 : Int32))) 6 (sp_M_freeFile mo).toNatClampNeg so) 7 (sp_M_freeFile mo).toNatClampNeg wt)) rfl hf1 (f' := (mcell kc a (u2 (u2 (u2 (u2 mo 5 (((16 : Int32) * pr) + x).toNatClampNeg ((sp_M_freeFile mo) + (1 : Int32))) 6 (sp_M_freeFile mo).toNatClampNeg so) 7 (sp_M_freeFile mo).toNatClampNeg wt) 8 (sp_M_freeFile mo).toNatClampNeg wy))) (mw_how kc a _ (sp_M_freeFile mo).toNatClampNeg wy) d_M_makes_46 (fun H locs hP hD hS => ?_)
  refine lv_aload_n hx hb d_M_makes_47 rfl (lv_at hl 1 rfl) ?_
  refine ml_get (D := (dC, dI)) hx hb hts in_MC hown hK hP (0) (by decide) (mc_mod kc a (u2 (u2 (u2 (u2 mo 5 (((16 : Int32) * pr) + x).toNatClampNeg ((sp_M_freeFile mo) + (1 : Int32))) 6 (sp_M_freeFile mo).toNatClampNeg so) 7 (sp_M_freeFile mo).toNatClampNeg wt) 8 (sp_M_freeFile mo).toNatClampNeg wy)) rfl 5 (by decide) (hts _ (mC _ wd_346)) (fun _ h9 => h9) (v := .ref (a 5)) rfl d_M_makes_48 ?_
  refine lv_iload hx hb d_M_makes_51 (lv_at hl 0 rfl) ?_
  refine lv_iconst (v := 0) hx hb d_M_makes_53 (by decide) ?_
  refine ml_iast hx hb hK hP hD hS (5) 0 (by decide) (mc_place kc a (u2 (u2 (u2 (u2 mo 5 (((16 : Int32) * pr) + x).toNatClampNeg ((sp_M_freeFile mo) + (1 : Int32))) 6 (sp_M_freeFile mo).toNatClampNeg so) 7 (sp_M_freeFile mo).toNatClampNeg wt) 8 (sp_M_freeFile mo).toNatClampNeg wy)) rfl hf1 (f' := (mcell kc a (u2 (u2 (u2 (u2 (u2 mo 5 (((16 : Int32) * pr) + x).toNatClampNeg ((sp_M_freeFile mo) + (1 : Int32))) 6 (sp_M_freeFile mo).toNatClampNeg so) 7 (sp_M_freeFile mo).toNatClampNeg wt) 8 (sp_M_freeFile mo).toNatClampNeg wy) 9 (sp_M_freeFile mo).toNatClampNeg (0 : Int32)))) (mw_place kc a _ (sp_M_freeFile mo).toNatClampNeg (0 : Int32)) d_M_makes_54 (fun H locs hP hD hS => ?_)
  refine lv_iload_n hx hb d_M_makes_55 rfl (lv_at hl 3 rfl) ?_
  obtain ⟨rfl, rfl⟩ := Prod.mk.inj hres
  exact ml_iret hx hb hr hlocks hP hK hD hS d_M_makes_56
