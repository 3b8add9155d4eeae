def lp_closeAll (pr : Int32) : Nat → Nat → DK → Int32 × DK
  | 0, _, d => (0, d)
  | n + 1, j, d =>
    (if (16 : Int32) ≤ (nI j) then (d.1 0 0, d) else (oc (sp_fileOf d pr (nI j)) (lp_closeAll pr n (j + 1) d) (fun i_3 => (if (sp_dropName d pr (nI j) i_3).1 = (0 : Int32) then (lp_closeAll pr n (j + 1) ((sp_dropName d pr (nI j) i_3).2)) else (lp_closeAll pr n (j + 1) (sp_keepLeft ((sp_dropName d pr (nI j) i_3).2) (((sp_dropName d pr (nI j) i_3).2).1 3 i_3.val)))))))
def sp_closeAll (d : DK) (pr : Int32) : Int32 × DK :=
  (if (sp_isProcess pr) = (0 : Int32) then ((-1 : Int32), d) else (lp_closeAll pr (16 + 1) 0 (sI d 0 0 (0 : Int32))))
abbrev rm_closeAll : Room := { frames := 2, cells := 0, slots := 0, locals := 44 }
set_option maxHeartbeats 4000000 in
set_option maxRecDepth 100000 in
theorem c_closeAll (l : Launch) (dC : Nat → ClassId) (dI : Nat → Nat → Nat) (kc : Nat → ClassId) (a : Nat → Nat) (sz : Nat) (d : DK) (pr : Int32) (R' : Int32) (d' : DK) (hres : sp_closeAll d pr = (R', d')) : Met l y_closeAll ws_closeAll rm_closeAll (va_Pc [.ref (a 0), .int pr] (ml_B (dC, dI) vwCl (tysD kc) 57 a (dcell kc a d) sz)) (va_Qi (fun r (_ : Unit) => r = R') (fun _ t => ml_E (dC, dI) vwCl (tysD kc) 57 a (dcell kc a d') (va_A (ml 57 a (dcell kc a d)) sz) t) (va_A (ml 57 a (dcell kc a d)) sz)) 0 0 (va_A (ml 57 a (dcell kc a d)) sz) := by
  refine Met.ofW (cc := prog_1_method_6_code) (maxL := 4) (ret := (some .int)) (by decide) rfl ?_
  intro p e s m args below meth c s₁ B hml hv
  obtain ⟨rfl, hsz, hP, hK, hD0⟩ := hv
  have hx := B.exec
  have hb := B.bytes
  have hr := B.returns
  have hts := atoms_spec (ws := ws_closeAll) B.pre
  have hown : s.vm.findClass "HandleDesk" = some m.cls := findClass_of_methodNamed B.named
  have hlocks := B.notSynchronized
  subst hsz
  have hD := hD0.self (sz := s.heap.size)
  generalize hAe : va_A (ml 57 a (dcell kc a d)) s.heap.size = A at hD ⊢
  have hA : ∀ q : Nat, s.heap.size ≤ q → A q := fun q h => by rw [← hAe]; exact Or.inr h
  have hS : va_S A s.heap s.heap [] := va_S.rf
  have loop : ∀ (n j : Nat) (d : DK) (H : Heap) (locs : List Loc) (ls : Array Slot), j ≤ 16 → j + n = 16 + 1 → lp_closeAll pr n j d = (R', d') → va_P (dC, dI) vwCl (ml 57 a (dcell kc a d)) H → va_D A (ml 57 a (dcell kc a d)) → va_S A s.heap H locs → lv_has ls 4 [(0, .ref (a 0)), (1, .int pr), (2, .int (nI j))] → W p l e rm_closeAll s m ([.ref (a 0), .int pr] : List Value).toArray below meth c H locs 0 0 (MQ below (va_Qi (fun r (_ : Unit) => r = R') (fun _ t => ml_E (dC, dI) vwCl (tysD kc) 57 a (dcell kc a d') A t) A) ([.ref (a 0), .int pr] : List Value).toArray s 0 0 A) (F0 m 16 ls []) := by
    intro n
    induction n with
    | zero =>
      intro j d H locs ls hj hn
      exact absurd hn (by omega)
    | succ n ih =>
      intro j d H locs ls hj hn  hres hP hD hS hl
      rw [lp_closeAll] at hres
      refine lv_iload_n hx hb d_closeAll_16 rfl (lv_at hl 2 rfl) ?_
      refine lv_bipush (v := 16) hx hb d_closeAll_17 (by decide) ?_
      refine lv_icmp_ge (tgt := 57) hx hb d_closeAll_19 (by decide) (fun h_1 => ?_) (fun h_1 => ?_)
      · rw [if_pos h_1] at hres
        refine lv_aload_n hx hb d_closeAll_57 rfl (lv_at hl 0 rfl) ?_
        refine ml_get (D := (dC, dI)) hx hb hts in_DC hown hK hP (0) (by decide) (dc_desk kc a d) rfl 4 (by decide) (hts _ (mC _ wd_127)) (fun _ h9 => h9) (v := .int (d.1 0 0)) rfl d_closeAll_58 ?_
        obtain ⟨rfl, rfl⟩ := Prod.mk.inj hres
        exact ml_iret hx hb hr hlocks hP hK hD hS d_closeAll_61
      · rw [if_neg h_1] at hres
        refine lv_aload_n hx hb d_closeAll_22 rfl (lv_at hl 0 rfl) ?_
        refine lv_iload_n hx hb d_closeAll_23 rfl (lv_at hl 1 rfl) ?_
        refine lv_iload_n hx hb d_closeAll_24 rfl (lv_at hl 2 rfl) ?_
        refine ml_callq (va_runV (As := [.int pr, .int (nI j)]) (rest := []) ⟨hx, hb, hml, hown, hts⟩ (c_fileOf l dC dI kc a _ d pr (nI j) _ rfl) (cwV 2 hts (gd_V mC wd_162 wd_164 ws_1 wd_1 wd_165) rfl rfl rfl hd_fileOf ⟨Nat.le_of_ble_eq_true rfl, Nat.le_of_ble_eq_true rfl⟩) ⟨ml_blind, va_recv hK hP (ci := 0) rfl (ml_at (by decide) (dc_desk kc a d)), ml_pre hP hK hD⟩ rfl rfl hl.1 rfl (lv_room (Nat.le_of_ble_eq_true rfl)) d_closeAll_25 ⟨Nat.zero_le _, Nat.zero_le _⟩) hD hS hA (fun H locs hP hD hS => ?_)
        refine ml_split (fun q_2 => ?_) (fun i_3 q_2 => ?_)
        · rw [q_2, oc_n] at hres
          refine lv_astore_nN (lv' := [(3, .null), (0, .ref (a 0)), (1, .int pr), (2, .int (nI j))]) hx hb d_closeAll_28 rfl hl (by decide) rfl (fun ls hl => ?_)
          refine lv_aload_nN hx hb d_closeAll_29 rfl (lv_at hl 0 rfl) ?_
          refine lv_ifnullN (tgt := 51) hx hb d_closeAll_30 (by decide) ?_
          refine lv_iinc (v := nI (j + 1)) (lv' := [(2, .int (nI (j + 1))), (3, .null), (0, .ref (a 0)), (1, .int pr)]) hx hb d_closeAll_51 hl (k := 3) rfl (nI_1 j) (by decide) rfl (fun ls hl => ?_)
          refine lv_goto (tgt := 16) hx hb d_closeAll_54 (by decide) ?_
          exact ih (j + 1) d _ _ ls (lp_adv (b := (16 : Int32)) (B := 16) rfl (by decide) hj (by assumption)) (by omega) hres hP hD hS (lv_sub hl [2, 3, 0] rfl)
        · rw [q_2, oc_s] at hres
          refine lv_astore_n (lv' := [(3, .ref (a (i_3.val + 3))), (0, .ref (a 0)), (1, .int pr), (2, .int (nI j))]) hx hb d_closeAll_28 rfl hl (by decide) rfl (fun ls hl => ?_)
          refine lv_aload_n hx hb d_closeAll_29 rfl (lv_at hl 0 rfl) ?_
          refine lv_ifnull hx hb d_closeAll_30 ?_
          refine lv_aload_n hx hb d_closeAll_33 rfl (lv_at hl 1 rfl) ?_
          refine lv_iload_n hx hb d_closeAll_34 rfl (lv_at hl 2 rfl) ?_
          refine lv_iload_n hx hb d_closeAll_35 rfl (lv_at hl 3 rfl) ?_
          refine lv_aload_n hx hb d_closeAll_36 rfl (lv_at hl 0 rfl) ?_
          refine ml_calli (va_runV (As := [.int pr, .int (nI j), .ref (a (i_3.val + 3))]) (rest := []) ⟨hx, hb, hml, hown, hts⟩ (c_dropName l dC dI kc a _ d pr (nI j) i_3 (sp_dropName d pr (nI j) i_3).1 (sp_dropName d pr (nI j) i_3).2 (pe _)) (cwV 3 hts (gd_V mC wd_208 wd_210 ws_5 wd_1 wd_211) rfl rfl rfl hd_dropName ⟨Nat.le_of_ble_eq_true rfl, Nat.le_of_ble_eq_true rfl⟩) ⟨ml_blind, va_recv hK hP (ci := 0) rfl (ml_at (by decide) (dc_desk kc a d)), ml_pre hP hK hD⟩ rfl rfl hl.1 rfl (lv_room (Nat.le_of_ble_eq_true rfl)) d_closeAll_37 ⟨Nat.zero_le _, Nat.zero_le _⟩) hD hS hA (fun H locs hP hD hS => ?_)
          refine lv_if_eq (tgt := 51) hx hb d_closeAll_40 (by decide) (fun h_4 => ?_) (fun h_4 => ?_)
          · rw [if_pos h_4] at hres
            refine lv_iinc (v := nI (j + 1)) (lv' := [(2, .int (nI (j + 1))), (3, .ref (a (i_3.val + 3))), (0, .ref (a 0)), (1, .int pr)]) hx hb d_closeAll_51 hl (k := 3) rfl (nI_1 j) (by decide) rfl (fun ls hl => ?_)
            refine lv_goto (tgt := 16) hx hb d_closeAll_54 (by decide) ?_
            exact ih (j + 1) ((sp_dropName d pr (nI j) i_3).2) _ _ ls (lp_adv (b := (16 : Int32)) (B := 16) rfl (by decide) hj (by assumption)) (by omega) hres hP hD hS (lv_sub hl [2, 3, 0] rfl)
          · rw [if_neg h_4] at hres
            refine lv_aload_n hx hb d_closeAll_43 rfl (lv_at hl 1 rfl) ?_
            refine lv_aload_n hx hb d_closeAll_44 rfl (lv_at hl 0 rfl) ?_
            refine ml_get (D := (dC, dI)) hx hb hts in_FC hown hK hP (i_3.val + 3) (lt_file i_3) (dc_file kc a ((sp_dropName d pr (nI j) i_3).2) i_3) rfl 2 (by decide) (hts _ (mC _ wd_28)) (fun _ h9 => h9) (v := .int (((sp_dropName d pr (nI j) i_3).2).1 3 i_3.val)) rfl d_closeAll_45 ?_
            refine ml_callv (va_runV (As := [.int (((sp_dropName d pr (nI j) i_3).2).1 3 i_3.val)]) (rest := []) ⟨hx, hb, hml, hown, hts⟩ (c_keepLeft l dC dI kc a _ ((sp_dropName d pr (nI j) i_3).2) (((sp_dropName d pr (nI j) i_3).2).1 3 i_3.val) _ rfl) (cwV 1 hts (gd_V mC wd_220 wd_222 ws_6 wd_1 wd_223) rfl rfl rfl hd_keepLeft ⟨Nat.le_of_ble_eq_true rfl, Nat.le_of_ble_eq_true rfl⟩) ⟨ml_blind, va_recv hK hP (ci := 0) rfl (ml_at (by decide) (dc_desk kc a ((sp_dropName d pr (nI j) i_3).2))), ml_pre hP hK hD⟩ rfl rfl hl.1 rfl (lv_room (Nat.le_of_ble_eq_true rfl)) d_closeAll_48 ⟨Nat.zero_le _, Nat.zero_le _⟩) hD hS hA (fun H locs hP hD hS => ?_)
            refine lv_iinc (v := nI (j + 1)) (lv' := [(2, .int (nI (j + 1))), (3, .ref (a (i_3.val + 3))), (0, .ref (a 0)), (1, .int pr)]) hx hb d_closeAll_51 hl (k := 3) rfl (nI_1 j) (by decide) rfl (fun ls hl => ?_)
            refine lv_goto (tgt := 16) hx hb d_closeAll_54 (by decide) ?_
            exact ih (j + 1) (sp_keepLeft ((sp_dropName d pr (nI j) i_3).2) (((sp_dropName d pr (nI j) i_3).2).1 3 i_3.val)) _ _ ls (lp_adv (b := (16 : Int32)) (B := 16) rfl (by decide) hj (by assumption)) (by omega) hres hP hD hS (lv_sub hl [2, 3, 0] rfl)
  have hl := lv_entry ([.ref (a 0), .int pr]) (n := 4) (Nat.le_of_ble_eq_true rfl)
  rw [lg_entry_eq]
  generalize (lg_sl ([.ref (a 0), .int pr]) ++ List.replicate (4 - (lg_sl ([.ref (a 0), .int pr])).length) Slot.unset).toArray = ls at hl ⊢
  have hl : lv_has ls 4 [(0, .ref (a 0)), (1, .int pr)] := hl
  rw [sp_closeAll] at hres
  refine lv_iload_n hx hb d_closeAll_0 rfl (lv_at hl 1 rfl) ?_
  refine ml_calli (va_runS (As := [.int pr]) (rest := []) ⟨hx, hb, hml, hown, hts⟩ (c_isProcess l dC dI kc a _ d pr _ rfl) (cwS 1 hts (gd_S mC wd_149 wd_150 wd_1 wd_151) rfl rfl rfl hd_isProcess ⟨Nat.le_of_ble_eq_true rfl, Nat.le_of_ble_eq_true rfl⟩) ⟨ml_blind, ml_pre hP hK hD⟩ rfl rfl hl.1 rfl (lv_room (Nat.le_of_ble_eq_true rfl)) d_closeAll_1 ⟨Nat.zero_le _, Nat.zero_le _⟩) hD hS hA (fun H locs hP hD hS => ?_)
  refine lv_if_ne (tgt := 9) hx hb d_closeAll_4 (by decide) (fun h_5 => ?_) (fun h_5 => ?_)
  · rw [if_neg h_5] at hres
    refine lv_aload_n hx hb d_closeAll_9 rfl (lv_at hl 0 rfl) ?_
    refine lv_iconst (v := 0) hx hb d_closeAll_10 (by decide) ?_
    refine ml_put (D := (dC, dI)) hx hb hts in_DC tyD tyD_ok nmD hown hK hP hD hS (0) (by decide) (dc_desk kc a d) rfl 4 (by decide) (hts _ (mC _ wd_127)) (fun _ h9 => h9) rfl (ty := .int) (by decide +kernel) rfl rfl (Nat.le_of_ble_eq_true rfl) (f' := (dcell kc a (sI d 0 0 (0 : Int32)))) (dw_0 (0 : Int32)) d_closeAll_11 (fun H locs hP hD hS => ?_)
    refine lv_iconst (v := 0) hx hb d_closeAll_14 (by decide) ?_
    refine lv_istore_n (lv' := [(2, .int (0 : Int32)), (0, .ref (a 0)), (1, .int pr)]) hx hb d_closeAll_15 rfl hl (by decide) rfl (fun ls hl => ?_)
    exact loop _ 0 (sI d 0 0 (0 : Int32)) _ _ ls (Nat.zero_le _) (by omega) hres hP hD hS (lv_sub hl [1, 2, 0] rfl)
  · rw [if_pos h_5] at hres
    refine lv_iconst (v := -1) hx hb d_closeAll_7 (by decide) ?_
    obtain ⟨rfl, rfl⟩ := Prod.mk.inj hres
    exact ml_iret hx hb hr hlocks hP hK hD hS d_closeAll_8
def sp_left (d : DK) (kx : Int32) : Int32 :=
  (if kx < (0 : Int32) then (0 : Int32) else (if (d.1 0 0) ≤ kx then (0 : Int32) else (if kx < (16 : Int32) then (d.1 1 kx.toNatClampNeg) else (0 : Int32))))
abbrev rm_left : Room := { frames := 0, cells := 0, slots := 0, locals := 0 }
set_option maxHeartbeats 4000000 in
set_option maxRecDepth 100000 in
theorem c_left (l : Launch) (dC : Nat → ClassId) (dI : Nat → Nat → Nat) (kc : Nat → ClassId) (a : Nat → Nat) (sz : Nat) (d : DK) (kx : Int32) (R' : Int32) (hres : sp_left d kx = R') : Met l y_left ws_left rm_left (va_Pc [.ref (a 0), .int kx] (ml_B (dC, dI) vwCl (tysD kc) 57 a (dcell kc a d) sz)) (va_Qi (fun r (_ : Unit) => r = R') (fun _ t => ml_E (dC, dI) vwCl (tysD kc) 57 a (dcell kc a d) (va_A (ml 57 a (dcell kc a d)) sz) t) (va_A (ml 57 a (dcell kc a d)) sz)) 0 0 (va_A (ml 57 a (dcell kc a d)) sz) := by
  refine Met.ofW (cc := prog_1_method_7_code) (maxL := 2) (ret := (some .int)) (by decide) rfl ?_
  intro p e s m args below meth c s₁ B hml hv
  obtain ⟨rfl, hsz, hP, hK, hD0⟩ := hv
  have hx := B.exec
  have hb := B.bytes
  have hr := B.returns
  have hts := atoms_spec (ws := ws_left) B.pre
  have hown : s.vm.findClass "HandleDesk" = some m.cls := findClass_of_methodNamed B.named
  have hlocks := B.notSynchronized
  subst hsz
  have hD := hD0.self (sz := s.heap.size)
  generalize hAe : va_A (ml 57 a (dcell kc a d)) s.heap.size = A at hD ⊢
  have hA : ∀ q : Nat, s.heap.size ≤ q → A q := fun q h => by rw [← hAe]; exact Or.inr h
  have hS : va_S A s.heap s.heap [] := va_S.rf
  have hl := lv_entry ([.ref (a 0), .int kx]) (n := 2) (Nat.le_of_ble_eq_true rfl)
  rw [lg_entry_eq]
  generalize (lg_sl ([.ref (a 0), .int kx]) ++ List.replicate (2 - (lg_sl ([.ref (a 0), .int kx])).length) Slot.unset).toArray = ls at hl ⊢
  have hl : lv_has ls 2 [(0, .ref (a 0)), (1, .int kx)] := hl
  rw [sp_left] at hres
  refine lv_iload_n hx hb d_left_0 rfl (lv_at hl 1 rfl) ?_
  refine lv_if_lt (tgt := 21) hx hb d_left_1 (by decide) (fun h_1 => ?_) (fun h_1 => ?_)
  · rw [if_pos h_1] at hres
    refine lv_iconst (v := 0) hx hb d_left_21 (by decide) ?_
    subst hres
    exact ml_iret hx hb hr hlocks hP hK hD hS d_left_22
  · rw [if_neg h_1] at hres
    refine lv_iload_n hx hb d_left_4 rfl (lv_at hl 1 rfl) ?_
    refine lv_aload_n hx hb d_left_5 rfl (lv_at hl 0 rfl) ?_
    refine ml_get (D := (dC, dI)) hx hb hts in_DC hown hK hP (0) (by decide) (dc_desk kc a d) rfl 4 (by decide) (hts _ (mC _ wd_127)) (fun _ h9 => h9) (v := .int (d.1 0 0)) rfl d_left_6 ?_
    refine lv_icmp_ge (tgt := 21) hx hb d_left_9 (by decide) (fun h_2 => ?_) (fun h_2 => ?_)
    · rw [if_pos h_2] at hres
      refine lv_iconst (v := 0) hx hb d_left_21 (by decide) ?_
      subst hres
      exact ml_iret hx hb hr hlocks hP hK hD hS d_left_22
    · rw [if_neg h_2] at hres
      refine lv_iload_n hx hb d_left_12 rfl (lv_at hl 1 rfl) ?_
      refine lv_aload_n hx hb d_left_13 rfl (lv_at hl 0 rfl) ?_
      refine ml_get (D := (dC, dI)) hx hb hts in_DC hown hK hP (0) (by decide) (dc_desk kc a d) rfl 3 (by decide) (hts _ (mC _ wd_126)) (fun _ h9 => h9) (v := .ref (a 52)) rfl d_left_14 ?_
      refine ml_alen hx hb hK hP (52) 0 (by decide) (dc_left kc a d) rfl (v := 16) rfl d_left_17 ?_
      refine lv_icmp_lt (tgt := 23) hx hb d_left_18 (by decide) (fun h_3 => ?_) (fun h_3 => ?_)
      · rw [if_pos h_3] at hres
        refine lv_aload_n hx hb d_left_23 rfl (lv_at hl 0 rfl) ?_
        refine ml_get (D := (dC, dI)) hx hb hts in_DC hown hK hP (0) (by decide) (dc_desk kc a d) rfl 3 (by decide) (hts _ (mC _ wd_126)) (fun _ h9 => h9) (v := .ref (a 52)) rfl d_left_24 ?_
        refine lv_iload_n hx hb d_left_27 rfl (lv_at hl 1 rfl) ?_
        refine ml_iald hx hb hK hP (52) 0 (by decide) (dc_left kc a d) rfl (in_cmpL (b := (16 : Int32)) rfl (by decide) (by assumption) (by assumption)) d_left_28 ?_
        subst hres
        exact ml_iret hx hb hr hlocks hP hK hD hS d_left_29
      · rw [if_neg h_3] at hres
        refine lv_iconst (v := 0) hx hb d_left_21 (by decide) ?_
        subst hres
        exact ml_iret hx hb hr hlocks hP hK hD hS d_left_22
def lp_copy (pr : Int32) (fr : Int32) : Nat → Nat → DK → Int32 × DK
  | 0, _, d => (0, d)
  | n + 1, j, d =>
    (if (16 : Int32) ≤ (nI j) then ((sp_usedDescriptors d pr), d) else (oc (sp_fileOf d fr (nI j)) (lp_copy pr fr n (j + 1) d) (fun i_3 => (lp_copy pr fr n (j + 1) (sp_setName d pr (nI j) i_3)))))
def sp_copy (d : DK) (pr : Int32) (fr : Int32) : Int32 × DK :=
  (if (sp_isProcess pr) = (0 : Int32) then ((-1 : Int32), d) else (if (sp_isProcess fr) = (0 : Int32) then ((-1 : Int32), d) else (if pr = fr then ((-1 : Int32), d) else (if (sp_usedDescriptors d pr) ≤ (0 : Int32) then (lp_copy pr fr (16 + 1) 0 d) else ((-1 : Int32), d)))))
abbrev rm_copy : Room := { frames := 3, cells := 0, slots := 0, locals := 65 }
set_option maxHeartbeats 4000000 in
set_option maxRecDepth 100000 in
theorem c_copy (l : Launch) (dC : Nat → ClassId) (dI : Nat → Nat → Nat) (kc : Nat → ClassId) (a : Nat → Nat) (sz : Nat) (d : DK) (pr : Int32) (fr : Int32) (R' : Int32) (d' : DK) (hres : sp_copy d pr fr = (R', d')) : Met l y_copy ws_copy rm_copy (va_Pc [.ref (a 0), .int pr, .int fr] (ml_B (dC, dI) vwCl (tysD kc) 57 a (dcell kc a d) sz)) (va_Qi (fun r (_ : Unit) => r = R') (fun _ t => ml_E (dC, dI) vwCl (tysD kc) 57 a (dcell kc a d') (va_A (ml 57 a (dcell kc a d)) sz) t) (va_A (ml 57 a (dcell kc a d)) sz)) 0 0 (va_A (ml 57 a (dcell kc a d)) sz) := by
  refine Met.ofW (cc := prog_1_method_8_code) (maxL := 5) (ret := (some .int)) (by decide) rfl ?_
  intro p e s m args below meth c s₁ B hml hv
  obtain ⟨rfl, hsz, hP, hK, hD0⟩ := hv
  have hx := B.exec
  have hb := B.bytes
  have hr := B.returns
  have hts := atoms_spec (ws := ws_copy) B.pre
  have hown : s.vm.findClass "HandleDesk" = some m.cls := findClass_of_methodNamed B.named
  have hlocks := B.notSynchronized
  subst hsz
  have hD := hD0.self (sz := s.heap.size)
  generalize hAe : va_A (ml 57 a (dcell kc a d)) s.heap.size = A at hD ⊢
  have hA : ∀ q : Nat, s.heap.size ≤ q → A q := fun q h => by rw [← hAe]; exact Or.inr h
  have hS : va_S A s.heap s.heap [] := va_S.rf
  have loop : ∀ (n j : Nat) (d : DK) (H : Heap) (locs : List Loc) (ls : Array Slot), j ≤ 16 → j + n = 16 + 1 → lp_copy pr fr n j d = (R', d') → va_P (dC, dI) vwCl (ml 57 a (dcell kc a d)) H → va_D A (ml 57 a (dcell kc a d)) → va_S A s.heap H locs → lv_has ls 5 [(0, .ref (a 0)), (1, .int pr), (2, .int fr), (3, .int (nI j))] → W p l e rm_copy s m ([.ref (a 0), .int pr, .int fr] : List Value).toArray below meth c H locs 0 0 (MQ below (va_Qi (fun r (_ : Unit) => r = R') (fun _ t => ml_E (dC, dI) vwCl (tysD kc) 57 a (dcell kc a d') A t) A) ([.ref (a 0), .int pr, .int fr] : List Value).toArray s 0 0 A) (F0 m 33 ls []) := by
    intro n
    induction n with
    | zero =>
      intro j d H locs ls hj hn
      exact absurd hn (by omega)
    | succ n ih =>
      intro j d H locs ls hj hn  hres hP hD hS hl
      rw [lp_copy] at hres
      refine lv_iload_n hx hb d_copy_33 rfl (lv_at hl 3 rfl) ?_
      refine lv_bipush (v := 16) hx hb d_copy_34 (by decide) ?_
      refine lv_icmp_ge (tgt := 66) hx hb d_copy_36 (by decide) (fun h_1 => ?_) (fun h_1 => ?_)
      · rw [if_pos h_1] at hres
        refine lv_aload_n hx hb d_copy_66 rfl (lv_at hl 0 rfl) ?_
        refine lv_iload_n hx hb d_copy_67 rfl (lv_at hl 1 rfl) ?_
        refine ml_calli (va_runV (As := [.int pr]) (rest := []) ⟨hx, hb, hml, hown, hts⟩ (c_usedDescriptors l dC dI kc a _ d pr _ rfl) (cwV 1 hts (gd_V mC wd_232 wd_234 ws_7 wd_1 wd_235) rfl rfl rfl hd_usedDescriptors ⟨Nat.le_of_ble_eq_true rfl, Nat.le_of_ble_eq_true rfl⟩) ⟨ml_blind, va_recv hK hP (ci := 0) rfl (ml_at (by decide) (dc_desk kc a d)), ml_pre hP hK hD⟩ rfl rfl hl.1 rfl (lv_room (Nat.le_of_ble_eq_true rfl)) d_copy_68 ⟨Nat.zero_le _, Nat.zero_le _⟩) hD hS hA (fun H locs hP hD hS => ?_)
        obtain ⟨rfl, rfl⟩ := Prod.mk.inj hres
        exact ml_iret hx hb hr hlocks hP hK hD hS d_copy_71
      · rw [if_neg h_1] at hres
        refine lv_aload_n hx hb d_copy_39 rfl (lv_at hl 0 rfl) ?_
        refine lv_iload_n hx hb d_copy_40 rfl (lv_at hl 2 rfl) ?_
        refine lv_iload_n hx hb d_copy_41 rfl (lv_at hl 3 rfl) ?_
        refine ml_callq (va_runV (As := [.int fr, .int (nI j)]) (rest := []) ⟨hx, hb, hml, hown, hts⟩ (c_fileOf l dC dI kc a _ d fr (nI j) _ rfl) (cwV 2 hts (gd_V mC wd_162 wd_164 ws_1 wd_1 wd_165) rfl rfl rfl hd_fileOf ⟨Nat.le_of_ble_eq_true rfl, Nat.le_of_ble_eq_true rfl⟩) ⟨ml_blind, va_recv hK hP (ci := 0) rfl (ml_at (by decide) (dc_desk kc a d)), ml_pre hP hK hD⟩ rfl rfl hl.1 rfl (lv_room (Nat.le_of_ble_eq_true rfl)) d_copy_42 ⟨Nat.zero_le _, Nat.zero_le _⟩) hD hS hA (fun H locs hP hD hS => ?_)
        refine ml_split (fun q_2 => ?_) (fun i_3 q_2 => ?_)
        · rw [q_2, oc_n] at hres
          refine lv_astoreN (lv' := [(4, .null), (0, .ref (a 0)), (1, .int pr), (2, .int fr), (3, .int (nI j))]) hx hb d_copy_45 hl (by decide) rfl (fun ls hl => ?_)
          refine lv_aloadN hx hb d_copy_47 (lv_at hl 0 rfl) ?_
          refine lv_ifnullN (tgt := 60) hx hb d_copy_49 (by decide) ?_
          refine lv_iinc (v := nI (j + 1)) (lv' := [(3, .int (nI (j + 1))), (4, .null), (0, .ref (a 0)), (1, .int pr), (2, .int fr)]) hx hb d_copy_60 hl (k := 4) rfl (nI_1 j) (by decide) rfl (fun ls hl => ?_)
          refine lv_goto (tgt := 33) hx hb d_copy_63 (by decide) ?_
          exact ih (j + 1) d _ _ ls (lp_adv (b := (16 : Int32)) (B := 16) rfl (by decide) hj (by assumption)) (by omega) hres hP hD hS (lv_sub hl [2, 3, 4, 0] rfl)
        · rw [q_2, oc_s] at hres
          refine lv_astore (lv' := [(4, .ref (a (i_3.val + 3))), (0, .ref (a 0)), (1, .int pr), (2, .int fr), (3, .int (nI j))]) hx hb d_copy_45 hl (by decide) rfl (fun ls hl => ?_)
          refine lv_aload hx hb d_copy_47 (lv_at hl 0 rfl) ?_
          refine lv_ifnull hx hb d_copy_49 ?_
          refine lv_aload_n hx hb d_copy_52 rfl (lv_at hl 1 rfl) ?_
          refine lv_iload_n hx hb d_copy_53 rfl (lv_at hl 2 rfl) ?_
          refine lv_iload_n hx hb d_copy_54 rfl (lv_at hl 4 rfl) ?_
          refine lv_aload hx hb d_copy_55 (lv_at hl 0 rfl) ?_
          refine ml_callv (va_runV (As := [.int pr, .int (nI j), .ref (a (i_3.val + 3))]) (rest := []) ⟨hx, hb, hml, hown, hts⟩ (c_setName l dC dI kc a _ d pr (nI j) i_3 _ rfl) (cwV 3 hts (gd_V mC wd_177 wd_179 ws_3 wd_1 wd_180) rfl rfl rfl hd_setName ⟨Nat.le_of_ble_eq_true rfl, Nat.le_of_ble_eq_true rfl⟩) ⟨ml_blind, va_recv hK hP (ci := 0) rfl (ml_at (by decide) (dc_desk kc a d)), ml_pre hP hK hD⟩ rfl rfl hl.1 rfl (lv_room (Nat.le_of_ble_eq_true rfl)) d_copy_57 ⟨Nat.zero_le _, Nat.zero_le _⟩) hD hS hA (fun H locs hP hD hS => ?_)
          refine lv_iinc (v := nI (j + 1)) (lv' := [(3, .int (nI (j + 1))), (4, .ref (a (i_3.val + 3))), (0, .ref (a 0)), (1, .int pr), (2, .int fr)]) hx hb d_copy_60 hl (k := 4) rfl (nI_1 j) (by decide) rfl (fun ls hl => ?_)
          refine lv_goto (tgt := 33) hx hb d_copy_63 (by decide) ?_
          exact ih (j + 1) (sp_setName d pr (nI j) i_3) _ _ ls (lp_adv (b := (16 : Int32)) (B := 16) rfl (by decide) hj (by assumption)) (by omega) hres hP hD hS (lv_sub hl [2, 3, 4, 0] rfl)
  have hl := lv_entry ([.ref (a 0), .int pr, .int fr]) (n := 5) (Nat.le_of_ble_eq_true rfl)
  rw [lg_entry_eq]
  generalize (lg_sl ([.ref (a 0), .int pr, .int fr]) ++ List.replicate (5 - (lg_sl ([.ref (a 0), .int pr, .int fr])).length) Slot.unset).toArray = ls at hl ⊢
  have hl : lv_has ls 5 [(0, .ref (a 0)), (1, .int pr), (2, .int fr)] := hl
  rw [sp_copy] at hres
  refine lv_iload_n hx hb d_copy_0 rfl (lv_at hl 1 rfl) ?_
  refine ml_calli (va_runS (As := [.int pr]) (rest := []) ⟨hx, hb, hml, hown, hts⟩ (c_isProcess l dC dI kc a _ d pr _ rfl) (cwS 1 hts (gd_S mC wd_149 wd_150 wd_1 wd_151) rfl rfl rfl hd_isProcess ⟨Nat.le_of_ble_eq_true rfl, Nat.le_of_ble_eq_true rfl⟩) ⟨ml_blind, ml_pre hP hK hD⟩ rfl rfl hl.1 rfl (lv_room (Nat.le_of_ble_eq_true rfl)) d_copy_1 ⟨Nat.zero_le _, Nat.zero_le _⟩) hD hS hA (fun H locs hP hD hS => ?_)
  refine lv_if_eq (tgt := 19) hx hb d_copy_4 (by decide) (fun h_4 => ?_) (fun h_4 => ?_)
  · rw [if_pos h_4] at hres
    refine lv_iconst (v := -1) hx hb d_copy_19 (by decide) ?_
    obtain ⟨rfl, rfl⟩ := Prod.mk.inj hres
    exact ml_iret hx hb hr hlocks hP hK hD hS d_copy_20
  · rw [if_neg h_4] at hres
    refine lv_iload_n hx hb d_copy_7 rfl (lv_at hl 2 rfl) ?_
    refine ml_calli (va_runS (As := [.int fr]) (rest := []) ⟨hx, hb, hml, hown, hts⟩ (c_isProcess l dC dI kc a _ d fr _ rfl) (cwS 1 hts (gd_S mC wd_149 wd_150 wd_1 wd_151) rfl rfl rfl hd_isProcess ⟨Nat.le_of_ble_eq_true rfl, Nat.le_of_ble_eq_true rfl⟩) ⟨ml_blind, ml_pre hP hK hD⟩ rfl rfl hl.1 rfl (lv_room (Nat.le_of_ble_eq_true rfl)) d_copy_8 ⟨Nat.zero_le _, Nat.zero_le _⟩) hD hS hA (fun H locs hP hD hS => ?_)
    refine lv_if_eq (tgt := 19) hx hb d_copy_11 (by decide) (fun h_5 => ?_) (fun h_5 => ?_)
    · rw [if_pos h_5] at hres
      refine lv_iconst (v := -1) hx hb d_copy_19 (by decide) ?_
      obtain ⟨rfl, rfl⟩ := Prod.mk.inj hres
      exact ml_iret hx hb hr hlocks hP hK hD hS d_copy_20
    · rw [if_neg h_5] at hres
      refine lv_iload_n hx hb d_copy_14 rfl (lv_at hl 1 rfl) ?_
      refine lv_iload_n hx hb d_copy_15 rfl (lv_at hl 2 rfl) ?_
      refine lv_icmp_ne (tgt := 21) hx hb d_copy_16 (by decide) (fun h_6 => ?_) (fun h_6 => ?_)
      · rw [if_neg h_6] at hres
        refine lv_aload_n hx hb d_copy_21 rfl (lv_at hl 0 rfl) ?_
        refine lv_iload_n hx hb d_copy_22 rfl (lv_at hl 1 rfl) ?_
        refine ml_calli (va_runV (As := [.int pr]) (rest := []) ⟨hx, hb, hml, hown, hts⟩ (c_usedDescriptors l dC dI kc a _ d pr _ rfl) (cwV 1 hts (gd_V mC wd_232 wd_234 ws_7 wd_1 wd_235) rfl rfl rfl hd_usedDescriptors ⟨Nat.le_of_ble_eq_true rfl, Nat.le_of_ble_eq_true rfl⟩) ⟨ml_blind, va_recv hK hP (ci := 0) rfl (ml_at (by decide) (dc_desk kc a d)), ml_pre hP hK hD⟩ rfl rfl hl.1 rfl (lv_room (Nat.le_of_ble_eq_true rfl)) d_copy_23 ⟨Nat.zero_le _, Nat.zero_le _⟩) hD hS hA (fun H locs hP hD hS => ?_)
        refine lv_if_le (tgt := 31) hx hb d_copy_26 (by decide) (fun h_7 => ?_) (fun h_7 => ?_)
        · rw [if_pos h_7] at hres
          refine lv_iconst (v := 0) hx hb d_copy_31 (by decide) ?_
          refine lv_istore_n (lv' := [(3, .int (0 : Int32)), (0, .ref (a 0)), (1, .int pr), (2, .int fr)]) hx hb d_copy_32 rfl hl (by decide) rfl (fun ls hl => ?_)
          exact loop _ 0 d _ _ ls (Nat.zero_le _) (by omega) hres hP hD hS (lv_sub hl [1, 2, 3, 0] rfl)
        · rw [if_neg h_7] at hres
          refine lv_iconst (v := -1) hx hb d_copy_29 (by decide) ?_
          obtain ⟨rfl, rfl⟩ := Prod.mk.inj hres
          exact ml_iret hx hb hr hlocks hP hK hD hS d_copy_30
      · rw [if_pos h_6] at hres
        refine lv_iconst (v := -1) hx hb d_copy_19 (by decide) ?_
        obtain ⟨rfl, rfl⟩ := Prod.mk.inj hres
        exact ml_iret hx hb hr hlocks hP hK hD hS d_copy_20
def sp_about (d : DK) (pr : Int32) (x : Int32) (wh : Int32) : Int32 :=
  (oc (sp_fileOf d pr x) (-1 : Int32) (fun i_2 => (if wh = (0 : Int32) then (d.1 2 i_2.val) else (if wh = (1 : Int32) then (oc (d.2.2 i_2.val) (d.1 3 i_2.val) (fun i_6 => (nI i_6.val))) else (if wh = (2 : Int32) then (sp_oneIf (d.1 4 i_2.val)) else (if wh = (3 : Int32) then (sp_oneIf (d.1 5 i_2.val)) else (if wh = (4 : Int32) then (d.1 6 i_2.val) else (if wh = (5 : Int32) then (d.1 7 i_2.val) else (if wh = (6 : Int32) then (nI i_2.val) else (-1 : Int32))))))))))
abbrev rm_about : Room := { frames := 2, cells := 0, slots := 0, locals := 42 }
set_option maxHeartbeats 4000000 in
set_option maxRecDepth 100000 in
theorem c_about (l : Launch) (dC : Nat → ClassId) (dI : Nat → Nat → Nat) (kc : Nat → ClassId) (a : Nat → Nat) (sz : Nat) (d : DK) (pr : Int32) (x : Int32) (wh : Int32) (R' : Int32) (hres : sp_about d pr x wh = R') : Met l y_about ws_about rm_about (va_Pc [.ref (a 0), .int pr, .int x, .int wh] (ml_B (dC, dI) vwCl (tysD kc) 57 a (dcell kc a d) sz)) (va_Qi (fun r (_ : Unit) => r = R') (fun _ t => ml_E (dC, dI) vwCl (tysD kc) 57 a (dcell kc a d) (va_A (ml 57 a (dcell kc a d)) sz) t) (va_A (ml 57 a (dcell kc a d)) sz)) 0 0 (va_A (ml 57 a (dcell kc a d)) sz) := by
  refine Met.ofW (cc := prog_1_method_9_code) (maxL := 5) (ret := (some .int)) (by decide) rfl ?_
  intro p e s m args below meth c s₁ B hml hv
  obtain ⟨rfl, hsz, hP, hK, hD0⟩ := hv
  have hx := B.exec
  have hb := B.bytes
  have hr := B.returns
  have hts := atoms_spec (ws := ws_about) B.pre
  have hown : s.vm.findClass "HandleDesk" = some m.cls := findClass_of_methodNamed B.named
  have hlocks := B.notSynchronized
  subst hsz
  have hD := hD0.self (sz := s.heap.size)
  generalize hAe : va_A (ml 57 a (dcell kc a d)) s.heap.size = A at hD ⊢
  have hA : ∀ q : Nat, s.heap.size ≤ q → A q := fun q h => by rw [← hAe]; exact Or.inr h
  have hS : va_S A s.heap s.heap [] := va_S.rf
  have hl := lv_entry ([.ref (a 0), .int pr, .int x, .int wh]) (n := 5) (Nat.le_of_ble_eq_true rfl)
  rw [lg_entry_eq]
  generalize (lg_sl ([.ref (a 0), .int pr, .int x, .int wh]) ++ List.replicate (5 - (lg_sl ([.ref (a 0), .int pr, .int x, .int wh])).length) Slot.unset).toArray = ls at hl ⊢
  have hl : lv_has ls 5 [(0, .ref (a 0)), (1, .int pr), (2, .int x), (3, .int wh)] := hl
  rw [sp_about] at hres
  refine lv_aload_n hx hb d_about_0 rfl (lv_at hl 0 rfl) ?_
  refine lv_iload_n hx hb d_about_1 rfl (lv_at hl 1 rfl) ?_
  refine lv_iload_n hx hb d_about_2 rfl (lv_at hl 2 rfl) ?_
  refine ml_callq (va_runV (As := [.int pr, .int x]) (rest := []) ⟨hx, hb, hml, hown, hts⟩ (c_fileOf l dC dI kc a _ d pr x _ rfl) (cwV 2 hts (gd_V mC wd_162 wd_164 ws_1 wd_1 wd_165) rfl rfl rfl hd_fileOf ⟨Nat.le_of_ble_eq_true rfl, Nat.le_of_ble_eq_true rfl⟩) ⟨ml_blind, va_recv hK hP (ci := 0) rfl (ml_at (by decide) (dc_desk kc a d)), ml_pre hP hK hD⟩ rfl rfl hl.1 rfl (lv_room (Nat.le_of_ble_eq_true rfl)) d_about_3 ⟨Nat.zero_le _, Nat.zero_le _⟩) hD hS hA (fun H locs hP hD hS => ?_)
  refine ml_split (fun q_1 => ?_) (fun i_2 q_1 => ?_)
  · rw [q_1, oc_n] at hres
    refine lv_astoreN (lv' := [(4, .null), (0, .ref (a 0)), (1, .int pr), (2, .int x), (3, .int wh)]) hx hb d_about_6 hl (by decide) rfl (fun ls hl => ?_)
    refine lv_aloadN hx hb d_about_8 (lv_at hl 0 rfl) ?_
    refine lv_ifnonnullN hx hb d_about_10 ?_
    refine lv_iconst (v := -1) hx hb d_about_13 (by decide) ?_
    subst hres
    exact ml_iret hx hb hr hlocks hP hK hD hS d_about_14
  · rw [q_1, oc_s] at hres
    refine lv_astore (lv' := [(4, .ref (a (i_2.val + 3))), (0, .ref (a 0)), (1, .int pr), (2, .int x), (3, .int wh)]) hx hb d_about_6 hl (by decide) rfl (fun ls hl => ?_)
    refine lv_aload hx hb d_about_8 (lv_at hl 0 rfl) ?_
    refine lv_ifnonnull (tgt := 15) hx hb d_about_10 (by decide) ?_
    refine lv_iload_n hx hb d_about_15 rfl (lv_at hl 4 rfl) ?_
    by_cases e_3 : wh = (0 : Int32)
    · rw [if_pos e_3] at hres
      refine lv_tableIn (off := 44) (tgt := 60) hx hb d_about_16 (by rw [e_3]; decide) (by rw [e_3]; decide) (by rw [e_3]; rfl) (by decide) ?_
      refine lv_aload hx hb d_about_60 (lv_at hl 0 rfl) ?_
      refine ml_get (D := (dC, dI)) hx hb hts in_FC hown hK hP (i_2.val + 3) (lt_file i_2) (dc_file kc a d i_2) rfl 1 (by decide) (hts _ (mC _ wd_26)) (fun _ h9 => h9) (v := .int (d.1 2 i_2.val)) rfl d_about_62 ?_
      subst hres
      exact ml_iret hx hb hr hlocks hP hK hD hS d_about_65
    · rw [if_neg e_3] at hres
      by_cases e_4 : wh = (1 : Int32)
      · rw [if_pos e_4] at hres
        refine lv_tableIn (off := 50) (tgt := 66) hx hb d_about_16 (by rw [e_4]; decide) (by rw [e_4]; decide) (by rw [e_4]; rfl) (by decide) ?_
        refine lv_aload hx hb d_about_66 (lv_at hl 0 rfl) ?_
        refine ml_get (D := (dC, dI)) hx hb hts in_FC hown hK hP (i_2.val + 3) (lt_file i_2) (dc_file kc a d i_2) rfl 3 (by decide) (hts _ (mC _ wd_30)) (fun _ h9 => h9) (v := va_rf ((d.2.2 i_2.val).map (fun i => a (2 * i.val + 36)))) rfl d_about_68 ?_
        refine ml_split (fun q_5 => ?_) (fun i_6 q_5 => ?_)
        · rw [q_5, oc_n] at hres
          refine lv_ifnonnullN hx hb d_about_71 ?_
          refine lv_aload hx hb d_about_74 (lv_at hl 0 rfl) ?_
          refine ml_get (D := (dC, dI)) hx hb hts in_FC hown hK hP (i_2.val + 3) (lt_file i_2) (dc_file kc a d i_2) rfl 2 (by decide) (hts _ (mC _ wd_28)) (fun _ h9 => h9) (v := .int (d.1 3 i_2.val)) rfl d_about_76 ?_
          refine lv_goto (tgt := 90) hx hb d_about_79 (by decide) ?_
          subst hres
          exact ml_iret hx hb hr hlocks hP hK hD hS d_about_90
        · rw [q_5, oc_s] at hres
          refine lv_ifnonnull (tgt := 82) hx hb d_about_71 (by decide) ?_
          refine lv_aload hx hb d_about_82 (lv_at hl 0 rfl) ?_
          refine ml_get (D := (dC, dI)) hx hb hts in_FC hown hK hP (i_2.val + 3) (lt_file i_2) (dc_file kc a d i_2) rfl 3 (by decide) (hts _ (mC _ wd_30)) (fun _ h9 => h9) (v := va_rf ((d.2.2 i_2.val).map (fun i => a (2 * i.val + 36)))) rfl d_about_84 ?_
          refine ml_isS q_5 ?_
          refine ml_get (D := (dC, dI)) hx hb hts in_PC hown hK hP (2 * i_6.val + 36) (lt_pipe i_6) (dc_pipe kc a d i_6) rfl 0 (by decide) (hts _ (mC _ wd_64)) (fun _ h9 => h9) (v := .int (nI i_6.val)) rfl d_about_87 ?_
          subst hres
          exact ml_iret hx hb hr hlocks hP hK hD hS d_about_90
      · rw [if_neg e_4] at hres
        by_cases e_7 : wh = (2 : Int32)
        · rw [if_pos e_7] at hres
          refine lv_tableIn (off := 75) (tgt := 91) hx hb d_about_16 (by rw [e_7]; decide) (by rw [e_7]; decide) (by rw [e_7]; rfl) (by decide) ?_
          refine lv_aload hx hb d_about_91 (lv_at hl 0 rfl) ?_
          refine ml_get (D := (dC, dI)) hx hb hts in_FC hown hK hP (i_2.val + 3) (lt_file i_2) (dc_file kc a d i_2) rfl 4 (by decide) (hts _ (mC _ wd_32)) (fun _ h9 => h9) (v := .int (d.1 4 i_2.val)) rfl d_about_93 ?_
          refine ml_calli (va_runS (As := [.int (d.1 4 i_2.val)]) (rest := []) ⟨hx, hb, hml, hown, hts⟩ (c_oneIf l dC dI kc a _ d (d.1 4 i_2.val) _ rfl) (cwS 1 hts (gd_S mC wd_240 wd_241 wd_1 wd_242) rfl rfl rfl hd_oneIf ⟨Nat.le_of_ble_eq_true rfl, Nat.le_of_ble_eq_true rfl⟩) ⟨ml_blind, ml_pre hP hK hD⟩ rfl rfl hl.1 rfl (lv_room (Nat.le_of_ble_eq_true rfl)) d_about_96 ⟨Nat.zero_le _, Nat.zero_le _⟩) hD hS hA (fun H locs hP hD hS => ?_)
          subst hres
          exact ml_iret hx hb hr hlocks hP hK hD hS d_about_99
        · rw [if_neg e_7] at hres
          by_cases e_8 : wh = (3 : Int32)
          · rw [if_pos e_8] at hres
            refine lv_tableIn (off := 84) (tgt := 100) hx hb d_about_16 (by rw [e_8]; decide) (by rw [e_8]; decide) (by rw [e_8]; rfl) (by decide) ?_
            refine lv_aload hx hb d_about_100 (lv_at hl 0 rfl) ?_
            refine ml_get (D := (dC, dI)) hx hb hts in_FC hown hK hP (i_2.val + 3) (lt_file i_2) (dc_file kc a d i_2) rfl 5 (by decide) (hts _ (mC _ wd_34)) (fun _ h9 => h9) (v := .int (d.1 5 i_2.val)) rfl d_about_102 ?_
            refine ml_calli (va_runS (As := [.int (d.1 5 i_2.val)]) (rest := []) ⟨hx, hb, hml, hown, hts⟩ (c_oneIf l dC dI kc a _ d (d.1 5 i_2.val) _ rfl) (cwS 1 hts (gd_S mC wd_240 wd_241 wd_1 wd_242) rfl rfl rfl hd_oneIf ⟨Nat.le_of_ble_eq_true rfl, Nat.le_of_ble_eq_true rfl⟩) ⟨ml_blind, ml_pre hP hK hD⟩ rfl rfl hl.1 rfl (lv_room (Nat.le_of_ble_eq_true rfl)) d_about_105 ⟨Nat.zero_le _, Nat.zero_le _⟩) hD hS hA (fun H locs hP hD hS => ?_)
            subst hres
            exact ml_iret hx hb hr hlocks hP hK hD hS d_about_108
          · rw [if_neg e_8] at hres
            by_cases e_9 : wh = (4 : Int32)
            · rw [if_pos e_9] at hres
              refine lv_tableIn (off := 93) (tgt := 109) hx hb d_about_16 (by rw [e_9]; decide) (by rw [e_9]; decide) (by rw [e_9]; rfl) (by decide) ?_
              refine lv_aload hx hb d_about_109 (lv_at hl 0 rfl) ?_
              refine ml_get (D := (dC, dI)) hx hb hts in_FC hown hK hP (i_2.val + 3) (lt_file i_2) (dc_file kc a d i_2) rfl 6 (by decide) (hts _ (mC _ wd_36)) (fun _ h9 => h9) (v := .int (d.1 6 i_2.val)) rfl d_about_111 ?_
              subst hres
              exact ml_iret hx hb hr hlocks hP hK hD hS d_about_114
            · rw [if_neg e_9] at hres
              by_cases e_10 : wh = (5 : Int32)
              · rw [if_pos e_10] at hres
                refine lv_tableIn (off := 99) (tgt := 115) hx hb d_about_16 (by rw [e_10]; decide) (by rw [e_10]; decide) (by rw [e_10]; rfl) (by decide) ?_
                refine lv_aload hx hb d_about_115 (lv_at hl 0 rfl) ?_
                refine ml_get (D := (dC, dI)) hx hb hts in_FC hown hK hP (i_2.val + 3) (lt_file i_2) (dc_file kc a d i_2) rfl 7 (by decide) (hts _ (mC _ wd_38)) (fun _ h9 => h9) (v := .int (d.1 7 i_2.val)) rfl d_about_117 ?_
                subst hres
                exact ml_iret hx hb hr hlocks hP hK hD hS d_about_120
              · rw [if_neg e_10] at hres
                by_cases e_11 : wh = (6 : Int32)
                · rw [if_pos e_11] at hres
                  refine lv_tableIn (off := 105) (tgt := 121) hx hb d_about_16 (by rw [e_11]; decide) (by rw [e_11]; decide) (by rw [e_11]; rfl) (by decide) ?_
                  refine lv_aload hx hb d_about_121 (lv_at hl 0 rfl) ?_
                  refine ml_get (D := (dC, dI)) hx hb hts in_FC hown hK hP (i_2.val + 3) (lt_file i_2) (dc_file kc a d i_2) rfl 0 (by decide) (hts _ (mC _ wd_24)) (fun _ h9 => h9) (v := .int (nI i_2.val)) rfl d_about_123 ?_
                  subst hres
                  exact ml_iret hx hb hr hlocks hP hK hD hS d_about_126
                · rw [if_neg e_11] at hres
                  have te_3 := tw_ne e_3 0 (by decide)
                  have te_4 := tw_ne e_4 1 (by decide)
                  have te_7 := tw_ne e_7 2 (by decide)
                  have te_8 := tw_ne e_8 3 (by decide)
                  have te_9 := tw_ne e_9 4 (by decide)
                  have te_10 := tw_ne e_10 5 (by decide)
                  have te_11 := tw_ne e_11 6 (by decide)
                  refine lv_tableOut (tgt := 127) hx hb d_about_16 (by omega) (by decide) ?_
                  refine lv_iconst (v := -1) hx hb d_about_127 (by decide) ?_
                  subst hres
                  exact ml_iret hx hb hr hlocks hP hK hD hS d_about_128
def sp_move (d : DK) (pr : Int32) (x : Int32) (nn : Int32) : Int32 × DK :=
  (oc (sp_fileOf d pr x) ((0 : Int32), d) (fun i_2 => (if d.1 2 i_2.val = (2 : Int32) then (if (0 : Int32) ≤ nn then ((1 : Int32), sI d 6 i_2.val nn) else ((0 : Int32), d)) else ((0 : Int32), d))))
abbrev rm_move : Room := { frames := 2, cells := 0, slots := 0, locals := 42 }
set_option maxHeartbeats 4000000 in
set_option maxRecDepth 100000 in
theorem c_move (l : Launch) (dC : Nat → ClassId) (dI : Nat → Nat → Nat) (kc : Nat → ClassId) (a : Nat → Nat) (sz : Nat) (d : DK) (pr : Int32) (x : Int32) (nn : Int32) (R' : Int32) (d' : DK) (hres : sp_move d pr x nn = (R', d')) : Met l y_move ws_move rm_move (va_Pc [.ref (a 0), .int pr, .int x, .int nn] (ml_B (dC, dI) vwCl (tysD kc) 57 a (dcell kc a d) sz)) (va_Qi (fun r (_ : Unit) => r = R') (fun _ t => ml_E (dC, dI) vwCl (tysD kc) 57 a (dcell kc a d') (va_A (ml 57 a (dcell kc a d)) sz) t) (va_A (ml 57 a (dcell kc a d)) sz)) 0 0 (va_A (ml 57 a (dcell kc a d)) sz) := by
  refine Met.ofW (cc := prog_1_method_10_code) (maxL := 5) (ret := (some .boolean)) (by decide) rfl ?_
  intro p e s m args below meth c s₁ B hml hv
  obtain ⟨rfl, hsz, hP, hK, hD0⟩ := hv
  have hx := B.exec
  have hb := B.bytes
  have hr := B.returns
  have hts := atoms_spec (ws := ws_move) B.pre
  have hown : s.vm.findClass "HandleDesk" = some m.cls := findClass_of_methodNamed B.named
  have hlocks := B.notSynchronized
  subst hsz
  have hD := hD0.self (sz := s.heap.size)
  generalize hAe : va_A (ml 57 a (dcell kc a d)) s.heap.size = A at hD ⊢
  have hA : ∀ q : Nat, s.heap.size ≤ q → A q := fun q h => by rw [← hAe]; exact Or.inr h
  have hS : va_S A s.heap s.heap [] := va_S.rf
  have hl := lv_entry ([.ref (a 0), .int pr, .int x, .int nn]) (n := 5) (Nat.le_of_ble_eq_true rfl)
  rw [lg_entry_eq]
  generalize (lg_sl ([.ref (a 0), .int pr, .int x, .int nn]) ++ List.replicate (5 - (lg_sl ([.ref (a 0), .int pr, .int x, .int nn])).length) Slot.unset).toArray = ls at hl ⊢
  have hl : lv_has ls 5 [(0, .ref (a 0)), (1, .int pr), (2, .int x), (3, .int nn)] := hl
  rw [sp_move] at hres
  refine lv_aload_n hx hb d_move_0 rfl (lv_at hl 0 rfl) ?_
  refine lv_iload_n hx hb d_move_1 rfl (lv_at hl 1 rfl) ?_
  refine lv_iload_n hx hb d_move_2 rfl (lv_at hl 2 rfl) ?_
  refine ml_callq (va_runV (As := [.int pr, .int x]) (rest := []) ⟨hx, hb, hml, hown, hts⟩ (c_fileOf l dC dI kc a _ d pr x _ rfl) (cwV 2 hts (gd_V mC wd_162 wd_164 ws_1 wd_1 wd_165) rfl rfl rfl hd_fileOf ⟨Nat.le_of_ble_eq_true rfl, Nat.le_of_ble_eq_true rfl⟩) ⟨ml_blind, va_recv hK hP (ci := 0) rfl (ml_at (by decide) (dc_desk kc a d)), ml_pre hP hK hD⟩ rfl rfl hl.1 rfl (lv_room (Nat.le_of_ble_eq_true rfl)) d_move_3 ⟨Nat.zero_le _, Nat.zero_le _⟩) hD hS hA (fun H locs hP hD hS => ?_)
  refine ml_split (fun q_1 => ?_) (fun i_2 q_1 => ?_)
  · rw [q_1, oc_n] at hres
    refine lv_astoreN (lv' := [(4, .null), (0, .ref (a 0)), (1, .int pr), (2, .int x), (3, .int nn)]) hx hb d_move_6 hl (by decide) rfl (fun ls hl => ?_)
    refine lv_aloadN hx hb d_move_8 (lv_at hl 0 rfl) ?_
    refine lv_ifnullN (tgt := 26) hx hb d_move_10 (by decide) ?_
    refine lv_iconst (v := 0) hx hb d_move_26 (by decide) ?_
    obtain ⟨rfl, rfl⟩ := Prod.mk.inj hres
    exact ml_zret hx hb hr (by decide) hlocks hP hK hD hS d_move_27
  · rw [q_1, oc_s] at hres
    refine lv_astore (lv' := [(4, .ref (a (i_2.val + 3))), (0, .ref (a 0)), (1, .int pr), (2, .int x), (3, .int nn)]) hx hb d_move_6 hl (by decide) rfl (fun ls hl => ?_)
    refine lv_aload hx hb d_move_8 (lv_at hl 0 rfl) ?_
    refine lv_ifnull hx hb d_move_10 ?_
    refine lv_aload hx hb d_move_13 (lv_at hl 0 rfl) ?_
    refine ml_get (D := (dC, dI)) hx hb hts in_FC hown hK hP (i_2.val + 3) (lt_file i_2) (dc_file kc a d i_2) rfl 1 (by decide) (hts _ (mC _ wd_26)) (fun _ h9 => h9) (v := .int (d.1 2 i_2.val)) rfl d_move_15 ?_
    refine lv_iconst (v := 2) hx hb d_move_18 (by decide) ?_
    refine lv_icmp_ne (tgt := 26) hx hb d_move_19 (by decide) (fun h_3 => ?_) (fun h_3 => ?_)
    · rw [if_neg h_3] at hres
      refine lv_iconst (v := 0) hx hb d_move_26 (by decide) ?_
      obtain ⟨rfl, rfl⟩ := Prod.mk.inj hres
      exact ml_zret hx hb hr (by decide) hlocks hP hK hD hS d_move_27
    · rw [if_pos h_3] at hres
      refine lv_iload_n hx hb d_move_22 rfl (lv_at hl 4 rfl) ?_
      refine lv_if_ge (tgt := 28) hx hb d_move_23 (by decide) (fun h_4 => ?_) (fun h_4 => ?_)
      · rw [if_pos h_4] at hres
        refine lv_aload hx hb d_move_28 (lv_at hl 0 rfl) ?_
        refine lv_iload_n hx hb d_move_30 rfl (lv_at hl 4 rfl) ?_
        refine ml_put (D := (dC, dI)) hx hb hts in_FC tyF tyF_ok nmF hown hK hP hD hS (i_2.val + 3) (lt_file i_2) (dc_file kc a d i_2) rfl 6 (by decide) (hts _ (mC _ wd_36)) (fun _ h9 => h9) rfl (ty := .int) (by decide +kernel) rfl rfl (Nat.le_of_ble_eq_true rfl) (f' := (dcell kc a (sI d 6 i_2.val nn))) (dw_6 i_2 nn) d_move_31 (fun H locs hP hD hS => ?_)
        refine lv_iconst (v := 1) hx hb d_move_34 (by decide) ?_
        obtain ⟨rfl, rfl⟩ := Prod.mk.inj hres
        exact ml_zret hx hb hr (by decide) hlocks hP hK hD hS d_move_35
      · rw [if_neg h_4] at hres
        refine lv_iconst (v := 0) hx hb d_move_26 (by decide) ?_
        obtain ⟨rfl, rfl⟩ := Prod.mk.inj hres
        exact ml_zret hx hb hr (by decide) hlocks hP hK hD hS d_move_27
