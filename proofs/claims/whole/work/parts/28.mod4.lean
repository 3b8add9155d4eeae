def lp_M_type  : Nat → Nat → MK → Int32 × MK
  | 0, _, mo => (0, mo)
  | n + 1, j, mo =>
    (if (mo 2 0) ≤ (mo 3 0) then ((1 : Int32), mo) else (lp_M_type n (j + 1) (sp_M_back mo)))
def sp_M_type (mo : MK) (bt : Int32) : Int32 × MK :=
  (if bt < (0 : Int32) then ((0 : Int32), u2 mo 0 0 (0 : Int32)) else (if bt ≤ (255 : Int32) then (if bt = (8 : Int32) then (if ((u2 mo 0 0 (0 : Int32)) 2 0) ≤ ((u2 mo 0 0 (0 : Int32)) 3 0) then ((1 : Int32), u2 mo 0 0 (0 : Int32)) else ((1 : Int32), (sp_M_back (u2 mo 0 0 (0 : Int32))))) else (if bt = (127 : Int32) then (if ((u2 mo 0 0 (0 : Int32)) 2 0) ≤ ((u2 mo 0 0 (0 : Int32)) 3 0) then ((1 : Int32), u2 mo 0 0 (0 : Int32)) else ((1 : Int32), (sp_M_back (u2 mo 0 0 (0 : Int32))))) else (if bt = (21 : Int32) then (lp_M_type (128 + 1) 0 (u2 mo 0 0 (0 : Int32))) else (if (u2 mo 0 0 (0 : Int32)) 2 0 = (128 : Int32) then ((0 : Int32), u2 mo 0 0 (0 : Int32)) else (if bt = (13 : Int32) then (if (10 : Int32) = (10 : Int32) then ((1 : Int32), u2 (sp_M_puts (u2 (u2 (u2 mo 0 0 (0 : Int32)) 13 ((u2 mo 0 0 (0 : Int32)) 2 0).toNatClampNeg (10 : Int32)) 2 0 (((u2 (u2 mo 0 0 (0 : Int32)) 13 ((u2 mo 0 0 (0 : Int32)) 2 0).toNatClampNeg (10 : Int32)) 2 0) + (1 : Int32))) (10 : Int32)) 3 0 ((sp_M_puts (u2 (u2 (u2 mo 0 0 (0 : Int32)) 13 ((u2 mo 0 0 (0 : Int32)) 2 0).toNatClampNeg (10 : Int32)) 2 0 (((u2 (u2 mo 0 0 (0 : Int32)) 13 ((u2 mo 0 0 (0 : Int32)) 2 0).toNatClampNeg (10 : Int32)) 2 0) + (1 : Int32))) (10 : Int32)) 2 0)) else (if (10 : Int32) = (4 : Int32) then ((1 : Int32), u2 (sp_M_puts (u2 (u2 (u2 mo 0 0 (0 : Int32)) 13 ((u2 mo 0 0 (0 : Int32)) 2 0).toNatClampNeg (10 : Int32)) 2 0 (((u2 (u2 mo 0 0 (0 : Int32)) 13 ((u2 mo 0 0 (0 : Int32)) 2 0).toNatClampNeg (10 : Int32)) 2 0) + (1 : Int32))) (10 : Int32)) 3 0 ((sp_M_puts (u2 (u2 (u2 mo 0 0 (0 : Int32)) 13 ((u2 mo 0 0 (0 : Int32)) 2 0).toNatClampNeg (10 : Int32)) 2 0 (((u2 (u2 mo 0 0 (0 : Int32)) 13 ((u2 mo 0 0 (0 : Int32)) 2 0).toNatClampNeg (10 : Int32)) 2 0) + (1 : Int32))) (10 : Int32)) 2 0)) else (if (sp_M_puts (u2 (u2 (u2 mo 0 0 (0 : Int32)) 13 ((u2 mo 0 0 (0 : Int32)) 2 0).toNatClampNeg (10 : Int32)) 2 0 (((u2 (u2 mo 0 0 (0 : Int32)) 13 ((u2 mo 0 0 (0 : Int32)) 2 0).toNatClampNeg (10 : Int32)) 2 0) + (1 : Int32))) (10 : Int32)) 2 0 = (128 : Int32) then ((1 : Int32), u2 (sp_M_puts (u2 (u2 (u2 mo 0 0 (0 : Int32)) 13 ((u2 mo 0 0 (0 : Int32)) 2 0).toNatClampNeg (10 : Int32)) 2 0 (((u2 (u2 mo 0 0 (0 : Int32)) 13 ((u2 mo 0 0 (0 : Int32)) 2 0).toNatClampNeg (10 : Int32)) 2 0) + (1 : Int32))) (10 : Int32)) 3 0 ((sp_M_puts (u2 (u2 (u2 mo 0 0 (0 : Int32)) 13 ((u2 mo 0 0 (0 : Int32)) 2 0).toNatClampNeg (10 : Int32)) 2 0 (((u2 (u2 mo 0 0 (0 : Int32)) 13 ((u2 mo 0 0 (0 : Int32)) 2 0).toNatClampNeg (10 : Int32)) 2 0) + (1 : Int32))) (10 : Int32)) 2 0)) else ((1 : Int32), u2 (sp_M_puts (u2 (u2 (u2 mo 0 0 (0 : Int32)) 13 ((u2 mo 0 0 (0 : Int32)) 2 0).toNatClampNeg (10 : Int32)) 2 0 (((u2 (u2 mo 0 0 (0 : Int32)) 13 ((u2 mo 0 0 (0 : Int32)) 2 0).toNatClampNeg (10 : Int32)) 2 0) + (1 : Int32))) (10 : Int32)) 3 0 ((sp_M_puts (u2 (u2 (u2 mo 0 0 (0 : Int32)) 13 ((u2 mo 0 0 (0 : Int32)) 2 0).toNatClampNeg (10 : Int32)) 2 0 (((u2 (u2 mo 0 0 (0 : Int32)) 13 ((u2 mo 0 0 (0 : Int32)) 2 0).toNatClampNeg (10 : Int32)) 2 0) + (1 : Int32))) (10 : Int32)) 3 0))))) else (if bt = (10 : Int32) then ((1 : Int32), u2 (sp_M_puts (u2 (u2 (u2 mo 0 0 (0 : Int32)) 13 ((u2 mo 0 0 (0 : Int32)) 2 0).toNatClampNeg bt) 2 0 (((u2 (u2 mo 0 0 (0 : Int32)) 13 ((u2 mo 0 0 (0 : Int32)) 2 0).toNatClampNeg bt) 2 0) + (1 : Int32))) bt) 3 0 ((sp_M_puts (u2 (u2 (u2 mo 0 0 (0 : Int32)) 13 ((u2 mo 0 0 (0 : Int32)) 2 0).toNatClampNeg bt) 2 0 (((u2 (u2 mo 0 0 (0 : Int32)) 13 ((u2 mo 0 0 (0 : Int32)) 2 0).toNatClampNeg bt) 2 0) + (1 : Int32))) bt) 2 0)) else (if bt = (4 : Int32) then ((1 : Int32), u2 (sp_M_puts (u2 (u2 (u2 mo 0 0 (0 : Int32)) 13 ((u2 mo 0 0 (0 : Int32)) 2 0).toNatClampNeg bt) 2 0 (((u2 (u2 mo 0 0 (0 : Int32)) 13 ((u2 mo 0 0 (0 : Int32)) 2 0).toNatClampNeg bt) 2 0) + (1 : Int32))) bt) 3 0 ((sp_M_puts (u2 (u2 (u2 mo 0 0 (0 : Int32)) 13 ((u2 mo 0 0 (0 : Int32)) 2 0).toNatClampNeg bt) 2 0 (((u2 (u2 mo 0 0 (0 : Int32)) 13 ((u2 mo 0 0 (0 : Int32)) 2 0).toNatClampNeg bt) 2 0) + (1 : Int32))) bt) 2 0)) else (if (sp_M_puts (u2 (u2 (u2 mo 0 0 (0 : Int32)) 13 ((u2 mo 0 0 (0 : Int32)) 2 0).toNatClampNeg bt) 2 0 (((u2 (u2 mo 0 0 (0 : Int32)) 13 ((u2 mo 0 0 (0 : Int32)) 2 0).toNatClampNeg bt) 2 0) + (1 : Int32))) bt) 2 0 = (128 : Int32) then ((1 : Int32), u2 (sp_M_puts (u2 (u2 (u2 mo 0 0 (0 : Int32)) 13 ((u2 mo 0 0 (0 : Int32)) 2 0).toNatClampNeg bt) 2 0 (((u2 (u2 mo 0 0 (0 : Int32)) 13 ((u2 mo 0 0 (0 : Int32)) 2 0).toNatClampNeg bt) 2 0) + (1 : Int32))) bt) 3 0 ((sp_M_puts (u2 (u2 (u2 mo 0 0 (0 : Int32)) 13 ((u2 mo 0 0 (0 : Int32)) 2 0).toNatClampNeg bt) 2 0 (((u2 (u2 mo 0 0 (0 : Int32)) 13 ((u2 mo 0 0 (0 : Int32)) 2 0).toNatClampNeg bt) 2 0) + (1 : Int32))) bt) 2 0)) else ((1 : Int32), u2 (sp_M_puts (u2 (u2 (u2 mo 0 0 (0 : Int32)) 13 ((u2 mo 0 0 (0 : Int32)) 2 0).toNatClampNeg bt) 2 0 (((u2 (u2 mo 0 0 (0 : Int32)) 13 ((u2 mo 0 0 (0 : Int32)) 2 0).toNatClampNeg bt) 2 0) + (1 : Int32))) bt) 3 0 ((sp_M_puts (u2 (u2 (u2 mo 0 0 (0 : Int32)) 13 ((u2 mo 0 0 (0 : Int32)) 2 0).toNatClampNeg bt) 2 0 (((u2 (u2 mo 0 0 (0 : Int32)) 13 ((u2 mo 0 0 (0 : Int32)) 2 0).toNatClampNeg bt) 2 0) + (1 : Int32))) bt) 3 0)))))))))) else ((0 : Int32), u2 mo 0 0 (0 : Int32))))
abbrev rm_M_type : Room := { frames := 2, cells := 0, slots := 0, locals := 41 }
set_option maxHeartbeats 4000000 in
set_option maxRecDepth 100000 in
theorem c_M_type (l : Launch) (dC : Nat → ClassId) (dI : Nat → Nat → Nat) (kc : Nat → ClassId) (a : Nat → Nat) (sz : Nat) (mo : MK) (bt : Int32) (hs : ∃ n, n + 500 < 2 ^ 30 ∧ mo 4 0 = nI n) (hw : ∃ dn t, dn ≤ t ∧ t ≤ 128 ∧ mo 3 0 = nI dn ∧ mo 2 0 = nI t) (R' : Int32) (mo' : MK) (hres : sp_M_type mo bt = (R', mo')) : Met l y_M_type ws_M_type rm_M_type (va_Pc [.ref (a 0), .int bt] (ml_B (dC, dI) vwCl (tysD kc) 11 a (mcell kc a mo) sz)) (va_Qi (fun r (_ : Unit) => r = R') (fun _ t => ml_E (dC, dI) vwCl (tysD kc) 11 a (mcell kc a mo') (va_A (ml 11 a (mcell kc a mo)) sz) t) (va_A (ml 11 a (mcell kc a mo)) sz)) 0 0 (va_A (ml 11 a (mcell kc a mo)) sz) := by
  refine Met.ofW (cc := prog_7_method_28_code) (maxL := 3) (ret := (some .boolean)) (by decide) rfl ?_
  intro p e s m args below meth c s₁ B hml hv
  obtain ⟨rfl, hsz, hP, hK, hD0⟩ := hv
  have hx := B.exec
  have hb := B.bytes
  have hr := B.returns
  have hts := atoms_spec (ws := ws_M_type) B.pre
  have hown : s.vm.findClass "HandleDeskModel" = some m.cls := findClass_of_methodNamed B.named
  have hlocks := B.notSynchronized
  subst hsz
  have hD := hD0.self (sz := s.heap.size)
  generalize hAe : va_A (ml 11 a (mcell kc a mo)) s.heap.size = A at hD ⊢
  have hA : ∀ q : Nat, s.heap.size ≤ q → A q := fun q h => by rw [← hAe]; exact Or.inr h
  have hS : va_S A s.heap s.heap [] := va_S.rf
  have loop : ∀ (n j : Nat) (mo : MK) (H : Heap) (locs : List Loc) (ls : Array Slot), j ≤ 128 → j + n = 128 + 1 → (MWI mo j) → lp_M_type n j mo = (R', mo') → va_P (dC, dI) vwCl (ml 11 a (mcell kc a mo)) H → va_D A (ml 11 a (mcell kc a mo)) → va_S A s.heap H locs → lv_has ls 3 [(0, .ref (a 0))] → W p l e rm_M_type s m ([.ref (a 0), .int bt] : List Value).toArray below meth c H locs 0 0 (MQ below (va_Qi (fun r (_ : Unit) => r = R') (fun _ t => ml_E (dC, dI) vwCl (tysD kc) 11 a (mcell kc a mo') A t) A) ([.ref (a 0), .int bt] : List Value).toArray s 0 0 A) (F0 m 53 ls []) := by
    intro n
    induction n with
    | zero =>
      intro j mo H locs ls hj hn
      exact absurd hn (by omega)
    | succ n ih =>
      intro j mo H locs ls hj hn hinv hres hP hD hS hl
      rw [lp_M_type] at hres
      refine lv_aload_n hx hb d_M_type_53 rfl (lv_at hl 0 rfl) ?_
      refine ml_get (D := (dC, dI)) hx hb hts in_MC hown hK hP (0) (by decide) (mc_mod kc a mo) rfl 10 (by decide) (hts _ (mC _ wd_351)) (fun _ h9 => h9) (v := .int (mo 2 0)) rfl d_M_type_54 ?_
      refine lv_aload_n hx hb d_M_type_57 rfl (lv_at hl 0 rfl) ?_
      refine ml_get (D := (dC, dI)) hx hb hts in_MC hown hK hP (0) (by decide) (mc_mod kc a mo) rfl 11 (by decide) (hts _ (mC _ wd_352)) (fun _ h9 => h9) (v := .int (mo 3 0)) rfl d_M_type_58 ?_
      refine lv_icmp_le (tgt := 71) hx hb d_M_type_61 (by decide) (fun h_1 => ?_) (fun h_1 => ?_)
      · rw [if_pos h_1] at hres
        refine lv_iconst (v := 1) hx hb d_M_type_71 (by decide) ?_
        obtain ⟨rfl, rfl⟩ := Prod.mk.inj hres
        exact ml_zret hx hb hr (by decide) hlocks hP hK hD hS d_M_type_72
      · rw [if_neg h_1] at hres
        refine lv_aload_n hx hb d_M_type_64 rfl (lv_at hl 0 rfl) ?_
        refine ml_callv (va_runV (As := []) (rest := []) ⟨hx, hb, hml, hown, hts⟩ (c_M_back l dC dI kc a _ mo (md_b2 hinv (by assumption)) _ rfl) (cwV 0 hts (gd_V mC wd_482 wd_484 ws_19 wd_6 wd_485) rfl rfl rfl hd_M_back ⟨Nat.le_of_ble_eq_true rfl, Nat.le_of_ble_eq_true rfl⟩) ⟨ml_blind, va_recv hK hP (ci := 5) rfl (ml_at (by decide) (mc_mod kc a mo)), ml_pre hP hK hD⟩ rfl rfl hl.1 rfl (lv_room (Nat.le_of_ble_eq_true rfl)) d_M_type_65 ⟨Nat.zero_le _, Nat.zero_le _⟩) hD hS hA (fun H locs hP hD hS => ?_)
        refine lv_goto (tgt := 53) hx hb d_M_type_68 (by decide) ?_
        exact ih (j + 1) (sp_M_back mo) _ _ ls (md_wadv hinv (by assumption)) (by omega) (md_w1 hinv (by assumption)) hres hP hD hS (lv_sub hl [0] rfl)
  have hl := lv_entry ([.ref (a 0), .int bt]) (n := 3) (Nat.le_of_ble_eq_true rfl)
  rw [lg_entry_eq]
  generalize (lg_sl ([.ref (a 0), .int bt]) ++ List.replicate (3 - (lg_sl ([.ref (a 0), .int bt])).length) Slot.unset).toArray = ls at hl ⊢
  have hl : lv_has ls 3 [(0, .ref (a 0)), (1, .int bt)] := hl
  rw [sp_M_type] at hres
  refine lv_aload_n hx hb d_M_type_0 rfl (lv_at hl 0 rfl) ?_
  refine lv_iconst (v := 0) hx hb d_M_type_1 (by decide) ?_
  refine ml_put (D := (dC, dI)) hx hb hts in_MC tyM tyM_ok nmM hown hK hP hD hS (0) (by decide) (mc_mod kc a mo) rfl 0 (by decide) (hts _ (mC _ wd_341)) (fun _ h9 => h9) rfl (ty := .int) (by decide +kernel) rfl rfl (Nat.le_of_ble_eq_true rfl) (f' := (mcell kc a (u2 mo 0 0 (0 : Int32)))) (mw_0 kc a _ (0 : Int32)) d_M_type_2 (fun H locs hP hD hS => ?_)
  refine lv_iload_n hx hb d_M_type_5 rfl (lv_at hl 1 rfl) ?_
  refine lv_if_lt (tgt := 16) hx hb d_M_type_6 (by decide) (fun h_2 => ?_) (fun h_2 => ?_)
  · rw [if_pos h_2] at hres
    refine lv_iconst (v := 0) hx hb d_M_type_16 (by decide) ?_
    obtain ⟨rfl, rfl⟩ := Prod.mk.inj hres
    exact ml_zret hx hb hr (by decide) hlocks hP hK hD hS d_M_type_17
  · rw [if_neg h_2] at hres
    refine lv_iload_n hx hb d_M_type_9 rfl (lv_at hl 1 rfl) ?_
    refine lv_sipush (v := 255) hx hb d_M_type_10 (by decide) ?_
    refine lv_icmp_le (tgt := 18) hx hb d_M_type_13 (by decide) (fun h_3 => ?_) (fun h_3 => ?_)
    · rw [if_pos h_3] at hres
      refine lv_iload_n hx hb d_M_type_18 rfl (lv_at hl 1 rfl) ?_
      refine lv_bipush (v := 8) hx hb d_M_type_19 (by decide) ?_
      refine lv_icmp_eq (tgt := 30) hx hb d_M_type_21 (by decide) (fun h_4 => ?_) (fun h_4 => ?_)
      · rw [if_pos h_4] at hres
        refine lv_aload_n hx hb d_M_type_30 rfl (lv_at hl 0 rfl) ?_
        refine ml_get (D := (dC, dI)) hx hb hts in_MC hown hK hP (0) (by decide) (mc_mod kc a (u2 mo 0 0 (0 : Int32))) rfl 10 (by decide) (hts _ (mC _ wd_351)) (fun _ h9 => h9) (v := .int ((u2 mo 0 0 (0 : Int32)) 2 0)) rfl d_M_type_31 ?_
        refine lv_aload_n hx hb d_M_type_34 rfl (lv_at hl 0 rfl) ?_
        refine ml_get (D := (dC, dI)) hx hb hts in_MC hown hK hP (0) (by decide) (mc_mod kc a (u2 mo 0 0 (0 : Int32))) rfl 11 (by decide) (hts _ (mC _ wd_352)) (fun _ h9 => h9) (v := .int ((u2 mo 0 0 (0 : Int32)) 3 0)) rfl d_M_type_35 ?_
        refine lv_icmp_le (tgt := 45) hx hb d_M_type_38 (by decide) (fun h_5 => ?_) (fun h_5 => ?_)
        · rw [if_pos h_5] at hres
          refine lv_iconst (v := 1) hx hb d_M_type_45 (by decide) ?_
          obtain ⟨rfl, rfl⟩ := Prod.mk.inj hres
          exact ml_zret hx hb hr (by decide) hlocks hP hK hD hS d_M_type_46
        · rw [if_neg h_5] at hres
          refine lv_aload_n hx hb d_M_type_41 rfl (lv_at hl 0 rfl) ?_
          refine ml_callv (va_runV (As := []) (rest := []) ⟨hx, hb, hml, hown, hts⟩ (c_M_back l dC dI kc a _ (u2 mo 0 0 (0 : Int32)) (md_b1 hs) _ rfl) (cwV 0 hts (gd_V mC wd_482 wd_484 ws_19 wd_6 wd_485) rfl rfl rfl hd_M_back ⟨Nat.le_of_ble_eq_true rfl, Nat.le_of_ble_eq_true rfl⟩) ⟨ml_blind, va_recv hK hP (ci := 5) rfl (ml_at (by decide) (mc_mod kc a (u2 mo 0 0 (0 : Int32)))), ml_pre hP hK hD⟩ rfl rfl hl.1 rfl (lv_room (Nat.le_of_ble_eq_true rfl)) d_M_type_42 ⟨Nat.zero_le _, Nat.zero_le _⟩) hD hS hA (fun H locs hP hD hS => ?_)
          refine lv_iconst (v := 1) hx hb d_M_type_45 (by decide) ?_
          obtain ⟨rfl, rfl⟩ := Prod.mk.inj hres
          exact ml_zret hx hb hr (by decide) hlocks hP hK hD hS d_M_type_46
      · rw [if_neg h_4] at hres
        refine lv_iload_n hx hb d_M_type_24 rfl (lv_at hl 1 rfl) ?_
        refine lv_bipush (v := 127) hx hb d_M_type_25 (by decide) ?_
        refine lv_icmp_ne (tgt := 47) hx hb d_M_type_27 (by decide) (fun h_6 => ?_) (fun h_6 => ?_)
        · rw [if_neg h_6] at hres
          refine lv_iload_n hx hb d_M_type_47 rfl (lv_at hl 1 rfl) ?_
          refine lv_bipush (v := 21) hx hb d_M_type_48 (by decide) ?_
          refine lv_icmp_ne (tgt := 73) hx hb d_M_type_50 (by decide) (fun h_7 => ?_) (fun h_7 => ?_)
          · rw [if_neg h_7] at hres
            refine lv_aload_n hx hb d_M_type_73 rfl (lv_at hl 0 rfl) ?_
            refine ml_get (D := (dC, dI)) hx hb hts in_MC hown hK hP (0) (by decide) (mc_mod kc a (u2 mo 0 0 (0 : Int32))) rfl 10 (by decide) (hts _ (mC _ wd_351)) (fun _ h9 => h9) (v := .int ((u2 mo 0 0 (0 : Int32)) 2 0)) rfl d_M_type_74 ?_
            refine lv_sipush (v := 128) hx hb d_M_type_77 (by decide) ?_
            refine lv_icmp_ne (tgt := 85) hx hb d_M_type_80 (by decide) (fun h_8 => ?_) (fun h_8 => ?_)
            · rw [if_neg h_8] at hres
              refine lv_iload_n hx hb d_M_type_85 rfl (lv_at hl 1 rfl) ?_
              refine lv_bipush (v := 13) hx hb d_M_type_86 (by decide) ?_
              refine lv_icmp_ne (tgt := 96) hx hb d_M_type_88 (by decide) (fun h_9 => ?_) (fun h_9 => ?_)
              · rw [if_neg h_9] at hres
                refine lv_iload_n hx hb d_M_type_96 rfl (lv_at hl 1 rfl) ?_
                refine lv_istore_n (lv' := [(2, .int bt), (0, .ref (a 0)), (1, .int bt)]) hx hb d_M_type_97 rfl hl (by decide) rfl (fun ls hl => ?_)
                refine lv_aload_n hx hb d_M_type_98 rfl (lv_at hl 1 rfl) ?_
                refine ml_get (D := (dC, dI)) hx hb hts in_MC hown hK hP (0) (by decide) (mc_mod kc a (u2 mo 0 0 (0 : Int32))) rfl 12 (by decide) (hts _ (mC _ wd_353)) (fun _ h9 => h9) (v := .ref (a 9)) rfl d_M_type_99 ?_
                refine lv_aload_n hx hb d_M_type_102 rfl (lv_at hl 1 rfl) ?_
                refine ml_get (D := (dC, dI)) hx hb hts in_MC hown hK hP (0) (by decide) (mc_mod kc a (u2 mo 0 0 (0 : Int32))) rfl 10 (by decide) (hts _ (mC _ wd_351)) (fun _ h9 => h9) (v := .int ((u2 mo 0 0 (0 : Int32)) 2 0)) rfl d_M_type_103 ?_
                refine lv_iload_n hx hb d_M_type_106 rfl (lv_at hl 0 rfl) ?_
                refine ml_iast hx hb hK hP hD hS (9) 0 (by decide) (mc_line kc a (u2 mo 0 0 (0 : Int32))) rfl (md_ln hw (by assumption)) (f' := (mcell kc a (u2 (u2 mo 0 0 (0 : Int32)) 13 ((u2 mo 0 0 (0 : Int32)) 2 0).toNatClampNeg bt))) (mw_line kc a _ ((u2 mo 0 0 (0 : Int32)) 2 0).toNatClampNeg bt) d_M_type_107 (fun H locs hP hD hS => ?_)
                refine lv_aload_n hx hb d_M_type_108 rfl (lv_at hl 1 rfl) ?_
                refine lv_dup hx hb d_M_type_109 rfl ?_
                refine ml_get (D := (dC, dI)) hx hb hts in_MC hown hK hP (0) (by decide) (mc_mod kc a (u2 (u2 mo 0 0 (0 : Int32)) 13 ((u2 mo 0 0 (0 : Int32)) 2 0).toNatClampNeg bt)) rfl 10 (by decide) (hts _ (mC _ wd_351)) (fun _ h9 => h9) (v := .int ((u2 (u2 mo 0 0 (0 : Int32)) 13 ((u2 mo 0 0 (0 : Int32)) 2 0).toNatClampNeg bt) 2 0)) rfl d_M_type_110 ?_
                refine lv_iconst (v := 1) hx hb d_M_type_113 (by decide) ?_
                refine lv_iadd hx hb d_M_type_114 ?_
                refine ml_put (D := (dC, dI)) hx hb hts in_MC tyM tyM_ok nmM hown hK hP hD hS (0) (by decide) (mc_mod kc a (u2 (u2 mo 0 0 (0 : Int32)) 13 ((u2 mo 0 0 (0 : Int32)) 2 0).toNatClampNeg bt)) rfl 10 (by decide) (hts _ (mC _ wd_351)) (fun _ h9 => h9) rfl (ty := .int) (by decide +kernel) rfl rfl (Nat.le_of_ble_eq_true rfl) (f' := (mcell kc a (u2 (u2 (u2 mo 0 0 (0 : Int32)) 13 ((u2 mo 0 0 (0 : Int32)) 2 0).toNatClampNeg bt) 2 0 (((u2 (u2 mo 0 0 (0 : Int32)) 13 ((u2 mo 0 0 (0 : Int32)) 2 0).toNatClampNeg bt) 2 0) + (1 : Int32))))) (mw_2 kc a _ (((u2 (u2 mo 0 0 (0 : Int32)) 13 ((u2 mo 0 0 (0 : Int32)) 2 0).toNatClampNeg bt) 2 0) + (1 : Int32))) d_M_type_115 (fun H locs hP hD hS => ?_)
                refine lv_aload_n hx hb d_M_type_118 rfl (lv_at hl 1 rfl) ?_
                refine lv_iload_n hx hb d_M_type_119 rfl (lv_at hl 0 rfl) ?_
                refine ml_callv (va_runV (As := [.int bt]) (rest := []) ⟨hx, hb, hml, hown, hts⟩ (c_M_puts l dC dI kc a _ (u2 (u2 (u2 mo 0 0 (0 : Int32)) 13 ((u2 mo 0 0 (0 : Int32)) 2 0).toNatClampNeg bt) 2 0 (((u2 (u2 mo 0 0 (0 : Int32)) 13 ((u2 mo 0 0 (0 : Int32)) 2 0).toNatClampNeg bt) 2 0) + (1 : Int32))) bt (md_b3 hs) _ rfl) (cwV 1 hts (gd_V mC wd_486 wd_488 ws_20 wd_6 wd_489) rfl rfl rfl hd_M_puts ⟨Nat.le_of_ble_eq_true rfl, Nat.le_of_ble_eq_true rfl⟩) ⟨ml_blind, va_recv hK hP (ci := 5) rfl (ml_at (by decide) (mc_mod kc a (u2 (u2 (u2 mo 0 0 (0 : Int32)) 13 ((u2 mo 0 0 (0 : Int32)) 2 0).toNatClampNeg bt) 2 0 (((u2 (u2 mo 0 0 (0 : Int32)) 13 ((u2 mo 0 0 (0 : Int32)) 2 0).toNatClampNeg bt) 2 0) + (1 : Int32))))), ml_pre hP hK hD⟩ rfl rfl hl.1 rfl (lv_room (Nat.le_of_ble_eq_true rfl)) d_M_type_120 ⟨Nat.zero_le _, Nat.zero_le _⟩) hD hS hA (fun H locs hP hD hS => ?_)
                refine lv_aload_n hx hb d_M_type_123 rfl (lv_at hl 1 rfl) ?_
                refine lv_iload_n hx hb d_M_type_124 rfl (lv_at hl 0 rfl) ?_
                refine lv_bipush (v := 10) hx hb d_M_type_125 (by decide) ?_
                refine lv_icmp_eq (tgt := 145) hx hb d_M_type_127 (by decide) (fun h_10 => ?_) (fun h_10 => ?_)
                · rw [if_pos h_10] at hres
                  refine lv_aload_n hx hb d_M_type_145 rfl (lv_at hl 1 rfl) ?_
                  refine ml_get (D := (dC, dI)) hx hb hts in_MC hown hK hP (0) (by decide) (mc_mod kc a (sp_M_puts (u2 (u2 (u2 mo 0 0 (0 : Int32)) 13 ((u2 mo 0 0 (0 : Int32)) 2 0).toNatClampNeg bt) 2 0 (((u2 (u2 mo 0 0 (0 : Int32)) 13 ((u2 mo 0 0 (0 : Int32)) 2 0).toNatClampNeg bt) 2 0) + (1 : Int32))) bt)) rfl 10 (by decide) (hts _ (mC _ wd_351)) (fun _ h9 => h9) (v := .int ((sp_M_puts (u2 (u2 (u2 mo 0 0 (0 : Int32)) 13 ((u2 mo 0 0 (0 : Int32)) 2 0).toNatClampNeg bt) 2 0 (((u2 (u2 mo 0 0 (0 : Int32)) 13 ((u2 mo 0 0 (0 : Int32)) 2 0).toNatClampNeg bt) 2 0) + (1 : Int32))) bt) 2 0)) rfl d_M_type_146 ?_
                  refine lv_goto (tgt := 156) hx hb d_M_type_149 (by decide) ?_
                  refine ml_put (D := (dC, dI)) hx hb hts in_MC tyM tyM_ok nmM hown hK hP hD hS (0) (by decide) (mc_mod kc a (sp_M_puts (u2 (u2 (u2 mo 0 0 (0 : Int32)) 13 ((u2 mo 0 0 (0 : Int32)) 2 0).toNatClampNeg bt) 2 0 (((u2 (u2 mo 0 0 (0 : Int32)) 13 ((u2 mo 0 0 (0 : Int32)) 2 0).toNatClampNeg bt) 2 0) + (1 : Int32))) bt)) rfl 11 (by decide) (hts _ (mC _ wd_352)) (fun _ h9 => h9) rfl (ty := .int) (by decide +kernel) rfl rfl (Nat.le_of_ble_eq_true rfl) (f' := (mcell kc a (u2 (sp_M_puts (u2 (u2 (u2 mo 0 0 (0 : Int32)) 13 ((u2 mo 0 0 (0 : Int32)) 2 0).toNatClampNeg bt) 2 0 (((u2 (u2 mo 0 0 (0 : Int32)) 13 ((u2 mo 0 0 (0 : Int32)) 2 0).toNatClampNeg bt) 2 0) + (1 : Int32))) bt) 3 0 ((sp_M_puts (u2 (u2 (u2 mo 0 0 (0 : Int32)) 13 ((u2 mo 0 0 (0 : Int32)) 2 0).toNatClampNeg bt) 2 0 (((u2 (u2 mo 0 0 (0 : Int32)) 13 ((u2 mo 0 0 (0 : Int32)) 2 0).toNatClampNeg bt) 2 0) + (1 : Int32))) bt) 2 0)))) (mw_3 kc a _ ((sp_M_puts (u2 (u2 (u2 mo 0 0 (0 : Int32)) 13 ((u2 mo 0 0 (0 : Int32)) 2 0).toNatClampNeg bt) 2 0 (((u2 (u2 mo 0 0 (0 : Int32)) 13 ((u2 mo 0 0 (0 : Int32)) 2 0).toNatClampNeg bt) 2 0) + (1 : Int32))) bt) 2 0)) d_M_type_156 (fun H locs hP hD hS => ?_)
                  refine lv_iconst (v := 1) hx hb d_M_type_159 (by decide) ?_
                  obtain ⟨rfl, rfl⟩ := Prod.mk.inj hres
                  exact ml_zret hx hb hr (by decide) hlocks hP hK hD hS d_M_type_160
                · rw [if_neg h_10] at hres
                  refine lv_iload_n hx hb d_M_type_130 rfl (lv_at hl 0 rfl) ?_
                  refine lv_iconst (v := 4) hx hb d_M_type_131 (by decide) ?_
                  refine lv_icmp_eq (tgt := 145) hx hb d_M_type_132 (by decide) (fun h_11 => ?_) (fun h_11 => ?_)
                  · rw [if_pos h_11] at hres
                    refine lv_aload_n hx hb d_M_type_145 rfl (lv_at hl 1 rfl) ?_
                    refine ml_get (D := (dC, dI)) hx hb hts in_MC hown hK hP (0) (by decide) (mc_mod kc a (sp_M_puts (u2 (u2 (u2 mo 0 0 (0 : Int32)) 13 ((u2 mo 0 0 (0 : Int32)) 2 0).toNatClampNeg bt) 2 0 (((u2 (u2 mo 0 0 (0 : Int32)) 13 ((u2 mo 0 0 (0 : Int32)) 2 0).toNatClampNeg bt) 2 0) + (1 : Int32))) bt)) rfl 10 (by decide) (hts _ (mC _ wd_351)) (fun _ h9 => h9) (v := .int ((sp_M_puts (u2 (u2 (u2 mo 0 0 (0 : Int32)) 13 ((u2 mo 0 0 (0 : Int32)) 2 0).toNatClampNeg bt) 2 0 (((u2 (u2 mo 0 0 (0 : Int32)) 13 ((u2 mo 0 0 (0 : Int32)) 2 0).toNatClampNeg bt) 2 0) + (1 : Int32))) bt) 2 0)) rfl d_M_type_146 ?_
                    refine lv_goto (tgt := 156) hx hb d_M_type_149 (by decide) ?_
                    refine ml_put (D := (dC, dI)) hx hb hts in_MC tyM tyM_ok nmM hown hK hP hD hS (0) (by decide) (mc_mod kc a (sp_M_puts (u2 (u2 (u2 mo 0 0 (0 : Int32)) 13 ((u2 mo 0 0 (0 : Int32)) 2 0).toNatClampNeg bt) 2 0 (((u2 (u2 mo 0 0 (0 : Int32)) 13 ((u2 mo 0 0 (0 : Int32)) 2 0).toNatClampNeg bt) 2 0) + (1 : Int32))) bt)) rfl 11 (by decide) (hts _ (mC _ wd_352)) (fun _ h9 => h9) rfl (ty := .int) (by decide +kernel) rfl rfl (Nat.le_of_ble_eq_true rfl) (f' := (mcell kc a (u2 (sp_M_puts (u2 (u2 (u2 mo 0 0 (0 : Int32)) 13 ((u2 mo 0 0 (0 : Int32)) 2 0).toNatClampNeg bt) 2 0 (((u2 (u2 mo 0 0 (0 : Int32)) 13 ((u2 mo 0 0 (0 : Int32)) 2 0).toNatClampNeg bt) 2 0) + (1 : Int32))) bt) 3 0 ((sp_M_puts (u2 (u2 (u2 mo 0 0 (0 : Int32)) 13 ((u2 mo 0 0 (0 : Int32)) 2 0).toNatClampNeg bt) 2 0 (((u2 (u2 mo 0 0 (0 : Int32)) 13 ((u2 mo 0 0 (0 : Int32)) 2 0).toNatClampNeg bt) 2 0) + (1 : Int32))) bt) 2 0)))) (mw_3 kc a _ ((sp_M_puts (u2 (u2 (u2 mo 0 0 (0 : Int32)) 13 ((u2 mo 0 0 (0 : Int32)) 2 0).toNatClampNeg bt) 2 0 (((u2 (u2 mo 0 0 (0 : Int32)) 13 ((u2 mo 0 0 (0 : Int32)) 2 0).toNatClampNeg bt) 2 0) + (1 : Int32))) bt) 2 0)) d_M_type_156 (fun H locs hP hD hS => ?_)
                    refine lv_iconst (v := 1) hx hb d_M_type_159 (by decide) ?_
                    obtain ⟨rfl, rfl⟩ := Prod.mk.inj hres
                    exact ml_zret hx hb hr (by decide) hlocks hP hK hD hS d_M_type_160
                  · rw [if_neg h_11] at hres
                    refine lv_aload_n hx hb d_M_type_135 rfl (lv_at hl 1 rfl) ?_
                    refine ml_get (D := (dC, dI)) hx hb hts in_MC hown hK hP (0) (by decide) (mc_mod kc a (sp_M_puts (u2 (u2 (u2 mo 0 0 (0 : Int32)) 13 ((u2 mo 0 0 (0 : Int32)) 2 0).toNatClampNeg bt) 2 0 (((u2 (u2 mo 0 0 (0 : Int32)) 13 ((u2 mo 0 0 (0 : Int32)) 2 0).toNatClampNeg bt) 2 0) + (1 : Int32))) bt)) rfl 10 (by decide) (hts _ (mC _ wd_351)) (fun _ h9 => h9) (v := .int ((sp_M_puts (u2 (u2 (u2 mo 0 0 (0 : Int32)) 13 ((u2 mo 0 0 (0 : Int32)) 2 0).toNatClampNeg bt) 2 0 (((u2 (u2 mo 0 0 (0 : Int32)) 13 ((u2 mo 0 0 (0 : Int32)) 2 0).toNatClampNeg bt) 2 0) + (1 : Int32))) bt) 2 0)) rfl d_M_type_136 ?_
                    refine lv_sipush (v := 128) hx hb d_M_type_139 (by decide) ?_
                    refine lv_icmp_ne (tgt := 152) hx hb d_M_type_142 (by decide) (fun h_12 => ?_) (fun h_12 => ?_)
                    · rw [if_neg h_12] at hres
                      refine lv_aload_n hx hb d_M_type_152 rfl (lv_at hl 1 rfl) ?_
                      refine ml_get (D := (dC, dI)) hx hb hts in_MC hown hK hP (0) (by decide) (mc_mod kc a (sp_M_puts (u2 (u2 (u2 mo 0 0 (0 : Int32)) 13 ((u2 mo 0 0 (0 : Int32)) 2 0).toNatClampNeg bt) 2 0 (((u2 (u2 mo 0 0 (0 : Int32)) 13 ((u2 mo 0 0 (0 : Int32)) 2 0).toNatClampNeg bt) 2 0) + (1 : Int32))) bt)) rfl 11 (by decide) (hts _ (mC _ wd_352)) (fun _ h9 => h9) (v := .int ((sp_M_puts (u2 (u2 (u2 mo 0 0 (0 : Int32)) 13 ((u2 mo 0 0 (0 : Int32)) 2 0).toNatClampNeg bt) 2 0 (((u2 (u2 mo 0 0 (0 : Int32)) 13 ((u2 mo 0 0 (0 : Int32)) 2 0).toNatClampNeg bt) 2 0) + (1 : Int32))) bt) 3 0)) rfl d_M_type_153 ?_
                      refine ml_put (D := (dC, dI)) hx hb hts in_MC tyM tyM_ok nmM hown hK hP hD hS (0) (by decide) (mc_mod kc a (sp_M_puts (u2 (u2 (u2 mo 0 0 (0 : Int32)) 13 ((u2 mo 0 0 (0 : Int32)) 2 0).toNatClampNeg bt) 2 0 (((u2 (u2 mo 0 0 (0 : Int32)) 13 ((u2 mo 0 0 (0 : Int32)) 2 0).toNatClampNeg bt) 2 0) + (1 : Int32))) bt)) rfl 11 (by decide) (hts _ (mC _ wd_352)) (fun _ h9 => h9) rfl (ty := .int) (by decide +kernel) rfl rfl (Nat.le_of_ble_eq_true rfl) (f' := (mcell kc a (u2 (sp_M_puts (u2 (u2 (u2 mo 0 0 (0 : Int32)) 13 ((u2 mo 0 0 (0 : Int32)) 2 0).toNatClampNeg bt) 2 0 (((u2 (u2 mo 0 0 (0 : Int32)) 13 ((u2 mo 0 0 (0 : Int32)) 2 0).toNatClampNeg bt) 2 0) + (1 : Int32))) bt) 3 0 ((sp_M_puts (u2 (u2 (u2 mo 0 0 (0 : Int32)) 13 ((u2 mo 0 0 (0 : Int32)) 2 0).toNatClampNeg bt) 2 0 (((u2 (u2 mo 0 0 (0 : Int32)) 13 ((u2 mo 0 0 (0 : Int32)) 2 0).toNatClampNeg bt) 2 0) + (1 : Int32))) bt) 3 0)))) (mw_3 kc a _ ((sp_M_puts (u2 (u2 (u2 mo 0 0 (0 : Int32)) 13 ((u2 mo 0 0 (0 : Int32)) 2 0).toNatClampNeg bt) 2 0 (((u2 (u2 mo 0 0 (0 : Int32)) 13 ((u2 mo 0 0 (0 : Int32)) 2 0).toNatClampNeg bt) 2 0) + (1 : Int32))) bt) 3 0)) d_M_type_156 (fun H locs hP hD hS => ?_)
                      refine lv_iconst (v := 1) hx hb d_M_type_159 (by decide) ?_
                      obtain ⟨rfl, rfl⟩ := Prod.mk.inj hres
                      exact ml_zret hx hb hr (by decide) hlocks hP hK hD hS d_M_type_160
                    · rw [if_pos h_12] at hres
                      refine lv_aload_n hx hb d_M_type_145 rfl (lv_at hl 1 rfl) ?_
                      refine ml_get (D := (dC, dI)) hx hb hts in_MC hown hK hP (0) (by decide) (mc_mod kc a (sp_M_puts (u2 (u2 (u2 mo 0 0 (0 : Int32)) 13 ((u2 mo 0 0 (0 : Int32)) 2 0).toNatClampNeg bt) 2 0 (((u2 (u2 mo 0 0 (0 : Int32)) 13 ((u2 mo 0 0 (0 : Int32)) 2 0).toNatClampNeg bt) 2 0) + (1 : Int32))) bt)) rfl 10 (by decide) (hts _ (mC _ wd_351)) (fun _ h9 => h9) (v := .int ((sp_M_puts (u2 (u2 (u2 mo 0 0 (0 : Int32)) 13 ((u2 mo 0 0 (0 : Int32)) 2 0).toNatClampNeg bt) 2 0 (((u2 (u2 mo 0 0 (0 : Int32)) 13 ((u2 mo 0 0 (0 : Int32)) 2 0).toNatClampNeg bt) 2 0) + (1 : Int32))) bt) 2 0)) rfl d_M_type_146 ?_
                      refine lv_goto (tgt := 156) hx hb d_M_type_149 (by decide) ?_
                      refine ml_put (D := (dC, dI)) hx hb hts in_MC tyM tyM_ok nmM hown hK hP hD hS (0) (by decide) (mc_mod kc a (sp_M_puts (u2 (u2 (u2 mo 0 0 (0 : Int32)) 13 ((u2 mo 0 0 (0 : Int32)) 2 0).toNatClampNeg bt) 2 0 (((u2 (u2 mo 0 0 (0 : Int32)) 13 ((u2 mo 0 0 (0 : Int32)) 2 0).toNatClampNeg bt) 2 0) + (1 : Int32))) bt)) rfl 11 (by decide) (hts _ (mC _ wd_352)) (fun _ h9 => h9) rfl (ty := .int) (by decide +kernel) rfl rfl (Nat.le_of_ble_eq_true rfl) (f' := (mcell kc a (u2 (sp_M_puts (u2 (u2 (u2 mo 0 0 (0 : Int32)) 13 ((u2 mo 0 0 (0 : Int32)) 2 0).toNatClampNeg bt) 2 0 (((u2 (u2 mo 0 0 (0 : Int32)) 13 ((u2 mo 0 0 (0 : Int32)) 2 0).toNatClampNeg bt) 2 0) + (1 : Int32))) bt) 3 0 ((sp_M_puts (u2 (u2 (u2 mo 0 0 (0 : Int32)) 13 ((u2 mo 0 0 (0 : Int32)) 2 0).toNatClampNeg bt) 2 0 (((u2 (u2 mo 0 0 (0 : Int32)) 13 ((u2 mo 0 0 (0 : Int32)) 2 0).toNatClampNeg bt) 2 0) + (1 : Int32))) bt) 2 0)))) (mw_3 kc a _ ((sp_M_puts (u2 (u2 (u2 mo 0 0 (0 : Int32)) 13 ((u2 mo 0 0 (0 : Int32)) 2 0).toNatClampNeg bt) 2 0 (((u2 (u2 mo 0 0 (0 : Int32)) 13 ((u2 mo 0 0 (0 : Int32)) 2 0).toNatClampNeg bt) 2 0) + (1 : Int32))) bt) 2 0)) d_M_type_156 (fun H locs hP hD hS => ?_)
                      refine lv_iconst (v := 1) hx hb d_M_type_159 (by decide) ?_
                      obtain ⟨rfl, rfl⟩ := Prod.mk.inj hres
                      exact ml_zret hx hb hr (by decide) hlocks hP hK hD hS d_M_type_160
              · rw [if_pos h_9] at hres
                refine lv_bipush (v := 10) hx hb d_M_type_91 (by decide) ?_
                refine lv_goto (tgt := 97) hx hb d_M_type_93 (by decide) ?_
                refine lv_istore_n (lv' := [(2, .int (10 : Int32)), (0, .ref (a 0)), (1, .int bt)]) hx hb d_M_type_97 rfl hl (by decide) rfl (fun ls hl => ?_)
                refine lv_aload_n hx hb d_M_type_98 rfl (lv_at hl 1 rfl) ?_
                refine ml_get (D := (dC, dI)) hx hb hts in_MC hown hK hP (0) (by decide) (mc_mod kc a (u2 mo 0 0 (0 : Int32))) rfl 12 (by decide) (hts _ (mC _ wd_353)) (fun _ h9 => h9) (v := .ref (a 9)) rfl d_M_type_99 ?_
                refine lv_aload_n hx hb d_M_type_102 rfl (lv_at hl 1 rfl) ?_
                refine ml_get (D := (dC, dI)) hx hb hts in_MC hown hK hP (0) (by decide) (mc_mod kc a (u2 mo 0 0 (0 : Int32))) rfl 10 (by decide) (hts _ (mC _ wd_351)) (fun _ h9 => h9) (v := .int ((u2 mo 0 0 (0 : Int32)) 2 0)) rfl d_M_type_103 ?_
                refine lv_iload_n hx hb d_M_type_106 rfl (lv_at hl 0 rfl) ?_
                refine ml_iast hx hb hK hP hD hS (9) 0 (by decide) (mc_line kc a (u2 mo 0 0 (0 : Int32))) rfl (md_ln hw (by assumption)) (f' := (mcell kc a (u2 (u2 mo 0 0 (0 : Int32)) 13 ((u2 mo 0 0 (0 : Int32)) 2 0).toNatClampNeg (10 : Int32)))) (mw_line kc a _ ((u2 mo 0 0 (0 : Int32)) 2 0).toNatClampNeg (10 : Int32)) d_M_type_107 (fun H locs hP hD hS => ?_)
                refine lv_aload_n hx hb d_M_type_108 rfl (lv_at hl 1 rfl) ?_
                refine lv_dup hx hb d_M_type_109 rfl ?_
                refine ml_get (D := (dC, dI)) hx hb hts in_MC hown hK hP (0) (by decide) (mc_mod kc a (u2 (u2 mo 0 0 (0 : Int32)) 13 ((u2 mo 0 0 (0 : Int32)) 2 0).toNatClampNeg (10 : Int32))) rfl 10 (by decide) (hts _ (mC _ wd_351)) (fun _ h9 => h9) (v := .int ((u2 (u2 mo 0 0 (0 : Int32)) 13 ((u2 mo 0 0 (0 : Int32)) 2 0).toNatClampNeg (10 : Int32)) 2 0)) rfl d_M_type_110 ?_
                refine lv_iconst (v := 1) hx hb d_M_type_113 (by decide) ?_
                refine lv_iadd hx hb d_M_type_114 ?_
                refine ml_put (D := (dC, dI)) hx hb hts in_MC tyM tyM_ok nmM hown hK hP hD hS (0) (by decide) (mc_mod kc a (u2 (u2 mo 0 0 (0 : Int32)) 13 ((u2 mo 0 0 (0 : Int32)) 2 0).toNatClampNeg (10 : Int32))) rfl 10 (by decide) (hts _ (mC _ wd_351)) (fun _ h9 => h9) rfl (ty := .int) (by decide +kernel) rfl rfl (Nat.le_of_ble_eq_true rfl) (f' := (mcell kc a (u2 (u2 (u2 mo 0 0 (0 : Int32)) 13 ((u2 mo 0 0 (0 : Int32)) 2 0).toNatClampNeg (10 : Int32)) 2 0 (((u2 (u2 mo 0 0 (0 : Int32)) 13 ((u2 mo 0 0 (0 : Int32)) 2 0).toNatClampNeg (10 : Int32)) 2 0) + (1 : Int32))))) (mw_2 kc a _ (((u2 (u2 mo 0 0 (0 : Int32)) 13 ((u2 mo 0 0 (0 : Int32)) 2 0).toNatClampNeg (10 : Int32)) 2 0) + (1 : Int32))) d_M_type_115 (fun H locs hP hD hS => ?_)
                refine lv_aload_n hx hb d_M_type_118 rfl (lv_at hl 1 rfl) ?_
                refine lv_iload_n hx hb d_M_type_119 rfl (lv_at hl 0 rfl) ?_
                refine ml_callv (va_runV (As := [.int (10 : Int32)]) (rest := []) ⟨hx, hb, hml, hown, hts⟩ (c_M_puts l dC dI kc a _ (u2 (u2 (u2 mo 0 0 (0 : Int32)) 13 ((u2 mo 0 0 (0 : Int32)) 2 0).toNatClampNeg (10 : Int32)) 2 0 (((u2 (u2 mo 0 0 (0 : Int32)) 13 ((u2 mo 0 0 (0 : Int32)) 2 0).toNatClampNeg (10 : Int32)) 2 0) + (1 : Int32))) (10 : Int32) (md_b3 hs) _ rfl) (cwV 1 hts (gd_V mC wd_486 wd_488 ws_20 wd_6 wd_489) rfl rfl rfl hd_M_puts ⟨Nat.le_of_ble_eq_true rfl, Nat.le_of_ble_eq_true rfl⟩) ⟨ml_blind, va_recv hK hP (ci := 5) rfl (ml_at (by decide) (mc_mod kc a (u2 (u2 (u2 mo 0 0 (0 : Int32)) 13 ((u2 mo 0 0 (0 : Int32)) 2 0).toNatClampNeg (10 : Int32)) 2 0 (((u2 (u2 mo 0 0 (0 : Int32)) 13 ((u2 mo 0 0 (0 : Int32)) 2 0).toNatClampNeg (10 : Int32)) 2 0) + (1 : Int32))))), ml_pre hP hK hD⟩ rfl rfl hl.1 rfl (lv_room (Nat.le_of_ble_eq_true rfl)) d_M_type_120 ⟨Nat.zero_le _, Nat.zero_le _⟩) hD hS hA (fun H locs hP hD hS => ?_)
                refine lv_aload_n hx hb d_M_type_123 rfl (lv_at hl 1 rfl) ?_
                refine lv_iload_n hx hb d_M_type_124 rfl (lv_at hl 0 rfl) ?_
                refine lv_bipush (v := 10) hx hb d_M_type_125 (by decide) ?_
                refine lv_icmp_eq (tgt := 145) hx hb d_M_type_127 (by decide) (fun h_13 => ?_) (fun h_13 => ?_)
                · rw [if_pos h_13] at hres
                  refine lv_aload_n hx hb d_M_type_145 rfl (lv_at hl 1 rfl) ?_
                  refine ml_get (D := (dC, dI)) hx hb hts in_MC hown hK hP (0) (by decide) (mc_mod kc a (sp_M_puts (u2 (u2 (u2 mo 0 0 (0 : Int32)) 13 ((u2 mo 0 0 (0 : Int32)) 2 0).toNatClampNeg (10 : Int32)) 2 0 (((u2 (u2 mo 0 0 (0 : Int32)) 13 ((u2 mo 0 0 (0 : Int32)) 2 0).toNatClampNeg (10 : Int32)) 2 0) + (1 : Int32))) (10 : Int32))) rfl 10 (by decide) (hts _ (mC _ wd_351)) (fun _ h9 => h9) (v := .int ((sp_M_puts (u2 (u2 (u2 mo 0 0 (0 : Int32)) 13 ((u2 mo 0 0 (0 : Int32)) 2 0).toNatClampNeg (10 : Int32)) 2 0 (((u2 (u2 mo 0 0 (0 : Int32)) 13 ((u2 mo 0 0 (0 : Int32)) 2 0).toNatClampNeg (10 : Int32)) 2 0) + (1 : Int32))) (10 : Int32)) 2 0)) rfl d_M_type_146 ?_
                  refine lv_goto (tgt := 156) hx hb d_M_type_149 (by decide) ?_
                  refine ml_put (D := (dC, dI)) hx hb hts in_MC tyM tyM_ok nmM hown hK hP hD hS (0) (by decide) (mc_mod kc a (sp_M_puts (u2 (u2 (u2 mo 0 0 (0 : Int32)) 13 ((u2 mo 0 0 (0 : Int32)) 2 0).toNatClampNeg (10 : Int32)) 2 0 (((u2 (u2 mo 0 0 (0 : Int32)) 13 ((u2 mo 0 0 (0 : Int32)) 2 0).toNatClampNeg (10 : Int32)) 2 0) + (1 : Int32))) (10 : Int32))) rfl 11 (by decide) (hts _ (mC _ wd_352)) (fun _ h9 => h9) rfl (ty := .int) (by decide +kernel) rfl rfl (Nat.le_of_ble_eq_true rfl) (f' := (mcell kc a (u2 (sp_M_puts (u2 (u2 (u2 mo 0 0 (0 : Int32)) 13 ((u2 mo 0 0 (0 : Int32)) 2 0).toNatClampNeg (10 : Int32)) 2 0 (((u2 (u2 mo 0 0 (0 : Int32)) 13 ((u2 mo 0 0 (0 : Int32)) 2 0).toNatClampNeg (10 : Int32)) 2 0) + (1 : Int32))) (10 : Int32)) 3 0 ((sp_M_puts (u2 (u2 (u2 mo 0 0 (0 : Int32)) 13 ((u2 mo 0 0 (0 : Int32)) 2 0).toNatClampNeg (10 : Int32)) 2 0 (((u2 (u2 mo 0 0 (0 : Int32)) 13 ((u2 mo 0 0 (0 : Int32)) 2 0).toNatClampNeg (10 : Int32)) 2 0) + (1 : Int32))) (10 : Int32)) 2 0)))) (mw_3 kc a _ ((sp_M_puts (u2 (u2 (u2 mo 0 0 (0 : Int32)) 13 ((u2 mo 0 0 (0 : Int32)) 2 0).toNatClampNeg (10 : Int32)) 2 0 (((u2 (u2 mo 0 0 (0 : Int32)) 13 ((u2 mo 0 0 (0 : Int32)) 2 0).toNatClampNeg (10 : Int32)) 2 0) + (1 : Int32))) (10 : Int32)) 2 0)) d_M_type_156 (fun H locs hP hD hS => ?_)
                  refine lv_iconst (v := 1) hx hb d_M_type_159 (by decide) ?_
                  obtain ⟨rfl, rfl⟩ := Prod.mk.inj hres
                  exact ml_zret hx hb hr (by decide) hlocks hP hK hD hS d_M_type_160
                · rw [if_neg h_13] at hres
                  refine lv_iload_n hx hb d_M_type_130 rfl (lv_at hl 0 rfl) ?_
                  refine lv_iconst (v := 4) hx hb d_M_type_131 (by decide) ?_
                  refine lv_icmp_eq (tgt := 145) hx hb d_M_type_132 (by decide) (fun h_14 => ?_) (fun h_14 => ?_)
                  · rw [if_pos h_14] at hres
                    refine lv_aload_n hx hb d_M_type_145 rfl (lv_at hl 1 rfl) ?_
                    refine ml_get (D := (dC, dI)) hx hb hts in_MC hown hK hP (0) (by decide) (mc_mod kc a (sp_M_puts (u2 (u2 (u2 mo 0 0 (0 : Int32)) 13 ((u2 mo 0 0 (0 : Int32)) 2 0).toNatClampNeg (10 : Int32)) 2 0 (((u2 (u2 mo 0 0 (0 : Int32)) 13 ((u2 mo 0 0 (0 : Int32)) 2 0).toNatClampNeg (10 : Int32)) 2 0) + (1 : Int32))) (10 : Int32))) rfl 10 (by decide) (hts _ (mC _ wd_351)) (fun _ h9 => h9) (v := .int ((sp_M_puts (u2 (u2 (u2 mo 0 0 (0 : Int32)) 13 ((u2 mo 0 0 (0 : Int32)) 2 0).toNatClampNeg (10 : Int32)) 2 0 (((u2 (u2 mo 0 0 (0 : Int32)) 13 ((u2 mo 0 0 (0 : Int32)) 2 0).toNatClampNeg (10 : Int32)) 2 0) + (1 : Int32))) (10 : Int32)) 2 0)) rfl d_M_type_146 ?_
                    refine lv_goto (tgt := 156) hx hb d_M_type_149 (by decide) ?_
                    refine ml_put (D := (dC, dI)) hx hb hts in_MC tyM tyM_ok nmM hown hK hP hD hS (0) (by decide) (mc_mod kc a (sp_M_puts (u2 (u2 (u2 mo 0 0 (0 : Int32)) 13 ((u2 mo 0 0 (0 : Int32)) 2 0).toNatClampNeg (10 : Int32)) 2 0 (((u2 (u2 mo 0 0 (0 : Int32)) 13 ((u2 mo 0 0 (0 : Int32)) 2 0).toNatClampNeg (10 : Int32)) 2 0) + (1 : Int32))) (10 : Int32))) rfl 11 (by decide) (hts _ (mC _ wd_352)) (fun _ h9 => h9) rfl (ty := .int) (by decide +kernel) rfl rfl (Nat.le_of_ble_eq_true rfl) (f' := (mcell kc a (u2 (sp_M_puts (u2 (u2 (u2 mo 0 0 (0 : Int32)) 13 ((u2 mo 0 0 (0 : Int32)) 2 0).toNatClampNeg (10 : Int32)) 2 0 (((u2 (u2 mo 0 0 (0 : Int32)) 13 ((u2 mo 0 0 (0 : Int32)) 2 0).toNatClampNeg (10 : Int32)) 2 0) + (1 : Int32))) (10 : Int32)) 3 0 ((sp_M_puts (u2 (u2 (u2 mo 0 0 (0 : Int32)) 13 ((u2 mo 0 0 (0 : Int32)) 2 0).toNatClampNeg (10 : Int32)) 2 0 (((u2 (u2 mo 0 0 (0 : Int32)) 13 ((u2 mo 0 0 (0 : Int32)) 2 0).toNatClampNeg (10 : Int32)) 2 0) + (1 : Int32))) (10 : Int32)) 2 0)))) (mw_3 kc a _ ((sp_M_puts (u2 (u2 (u2 mo 0 0 (0 : Int32)) 13 ((u2 mo 0 0 (0 : Int32)) 2 0).toNatClampNeg (10 : Int32)) 2 0 (((u2 (u2 mo 0 0 (0 : Int32)) 13 ((u2 mo 0 0 (0 : Int32)) 2 0).toNatClampNeg (10 : Int32)) 2 0) + (1 : Int32))) (10 : Int32)) 2 0)) d_M_type_156 (fun H locs hP hD hS => ?_)
                    refine lv_iconst (v := 1) hx hb d_M_type_159 (by decide) ?_
                    obtain ⟨rfl, rfl⟩ := Prod.mk.inj hres
                    exact ml_zret hx hb hr (by decide) hlocks hP hK hD hS d_M_type_160
                  · rw [if_neg h_14] at hres
                    refine lv_aload_n hx hb d_M_type_135 rfl (lv_at hl 1 rfl) ?_
                    refine ml_get (D := (dC, dI)) hx hb hts in_MC hown hK hP (0) (by decide) (mc_mod kc a (sp_M_puts (u2 (u2 (u2 mo 0 0 (0 : Int32)) 13 ((u2 mo 0 0 (0 : Int32)) 2 0).toNatClampNeg (10 : Int32)) 2 0 (((u2 (u2 mo 0 0 (0 : Int32)) 13 ((u2 mo 0 0 (0 : Int32)) 2 0).toNatClampNeg (10 : Int32)) 2 0) + (1 : Int32))) (10 : Int32))) rfl 10 (by decide) (hts _ (mC _ wd_351)) (fun _ h9 => h9) (v := .int ((sp_M_puts (u2 (u2 (u2 mo 0 0 (0 : Int32)) 13 ((u2 mo 0 0 (0 : Int32)) 2 0).toNatClampNeg (10 : Int32)) 2 0 (((u2 (u2 mo 0 0 (0 : Int32)) 13 ((u2 mo 0 0 (0 : Int32)) 2 0).toNatClampNeg (10 : Int32)) 2 0) + (1 : Int32))) (10 : Int32)) 2 0)) rfl d_M_type_136 ?_
                    refine lv_sipush (v := 128) hx hb d_M_type_139 (by decide) ?_
                    refine lv_icmp_ne (tgt := 152) hx hb d_M_type_142 (by decide) (fun h_15 => ?_) (fun h_15 => ?_)
                    · rw [if_neg h_15] at hres
                      refine lv_aload_n hx hb d_M_type_152 rfl (lv_at hl 1 rfl) ?_
                      refine ml_get (D := (dC, dI)) hx hb hts in_MC hown hK hP (0) (by decide) (mc_mod kc a (sp_M_puts (u2 (u2 (u2 mo 0 0 (0 : Int32)) 13 ((u2 mo 0 0 (0 : Int32)) 2 0).toNatClampNeg (10 : Int32)) 2 0 (((u2 (u2 mo 0 0 (0 : Int32)) 13 ((u2 mo 0 0 (0 : Int32)) 2 0).toNatClampNeg (10 : Int32)) 2 0) + (1 : Int32))) (10 : Int32))) rfl 11 (by decide) (hts _ (mC _ wd_352)) (fun _ h9 => h9) (v := .int ((sp_M_puts (u2 (u2 (u2 mo 0 0 (0 : Int32)) 13 ((u2 mo 0 0 (0 : Int32)) 2 0).toNatClampNeg (10 : Int32)) 2 0 (((u2 (u2 mo 0 0 (0 : Int32)) 13 ((u2 mo 0 0 (0 : Int32)) 2 0).toNatClampNeg (10 : Int32)) 2 0) + (1 : Int32))) (10 : Int32)) 3 0)) rfl d_M_type_153 ?_
                      refine ml_put (D := (dC, dI)) hx hb hts in_MC tyM tyM_ok nmM hown hK hP hD hS (0) (by decide) (mc_mod kc a (sp_M_puts (u2 (u2 (u2 mo 0 0 (0 : Int32)) 13 ((u2 mo 0 0 (0 : Int32)) 2 0).toNatClampNeg (10 : Int32)) 2 0 (((u2 (u2 mo 0 0 (0 : Int32)) 13 ((u2 mo 0 0 (0 : Int32)) 2 0).toNatClampNeg (10 : Int32)) 2 0) + (1 : Int32))) (10 : Int32))) rfl 11 (by decide) (hts _ (mC _ wd_352)) (fun _ h9 => h9) rfl (ty := .int) (by decide +kernel) rfl rfl (Nat.le_of_ble_eq_true rfl) (f' := (mcell kc a (u2 (sp_M_puts (u2 (u2 (u2 mo 0 0 (0 : Int32)) 13 ((u2 mo 0 0 (0 : Int32)) 2 0).toNatClampNeg (10 : Int32)) 2 0 (((u2 (u2 mo 0 0 (0 : Int32)) 13 ((u2 mo 0 0 (0 : Int32)) 2 0).toNatClampNeg (10 : Int32)) 2 0) + (1 : Int32))) (10 : Int32)) 3 0 ((sp_M_puts (u2 (u2 (u2 mo 0 0 (0 : Int32)) 13 ((u2 mo 0 0 (0 : Int32)) 2 0).toNatClampNeg (10 : Int32)) 2 0 (((u2 (u2 mo 0 0 (0 : Int32)) 13 ((u2 mo 0 0 (0 : Int32)) 2 0).toNatClampNeg (10 : Int32)) 2 0) + (1 : Int32))) (10 : Int32)) 3 0)))) (mw_3 kc a _ ((sp_M_puts (u2 (u2 (u2 mo 0 0 (0 : Int32)) 13 ((u2 mo 0 0 (0 : Int32)) 2 0).toNatClampNeg (10 : Int32)) 2 0 (((u2 (u2 mo 0 0 (0 : Int32)) 13 ((u2 mo 0 0 (0 : Int32)) 2 0).toNatClampNeg (10 : Int32)) 2 0) + (1 : Int32))) (10 : Int32)) 3 0)) d_M_type_156 (fun H locs hP hD hS => ?_)
                      refine lv_iconst (v := 1) hx hb d_M_type_159 (by decide) ?_
                      obtain ⟨rfl, rfl⟩ := Prod.mk.inj hres
                      exact ml_zret hx hb hr (by decide) hlocks hP hK hD hS d_M_type_160
                    · rw [if_pos h_15] at hres
                      refine lv_aload_n hx hb d_M_type_145 rfl (lv_at hl 1 rfl) ?_
                      refine ml_get (D := (dC, dI)) hx hb hts in_MC hown hK hP (0) (by decide) (mc_mod kc a (sp_M_puts (u2 (u2 (u2 mo 0 0 (0 : Int32)) 13 ((u2 mo 0 0 (0 : Int32)) 2 0).toNatClampNeg (10 : Int32)) 2 0 (((u2 (u2 mo 0 0 (0 : Int32)) 13 ((u2 mo 0 0 (0 : Int32)) 2 0).toNatClampNeg (10 : Int32)) 2 0) + (1 : Int32))) (10 : Int32))) rfl 10 (by decide) (hts _ (mC _ wd_351)) (fun _ h9 => h9) (v := .int ((sp_M_puts (u2 (u2 (u2 mo 0 0 (0 : Int32)) 13 ((u2 mo 0 0 (0 : Int32)) 2 0).toNatClampNeg (10 : Int32)) 2 0 (((u2 (u2 mo 0 0 (0 : Int32)) 13 ((u2 mo 0 0 (0 : Int32)) 2 0).toNatClampNeg (10 : Int32)) 2 0) + (1 : Int32))) (10 : Int32)) 2 0)) rfl d_M_type_146 ?_
                      refine lv_goto (tgt := 156) hx hb d_M_type_149 (by decide) ?_
                      refine ml_put (D := (dC, dI)) hx hb hts in_MC tyM tyM_ok nmM hown hK hP hD hS (0) (by decide) (mc_mod kc a (sp_M_puts (u2 (u2 (u2 mo 0 0 (0 : Int32)) 13 ((u2 mo 0 0 (0 : Int32)) 2 0).toNatClampNeg (10 : Int32)) 2 0 (((u2 (u2 mo 0 0 (0 : Int32)) 13 ((u2 mo 0 0 (0 : Int32)) 2 0).toNatClampNeg (10 : Int32)) 2 0) + (1 : Int32))) (10 : Int32))) rfl 11 (by decide) (hts _ (mC _ wd_352)) (fun _ h9 => h9) rfl (ty := .int) (by decide +kernel) rfl rfl (Nat.le_of_ble_eq_true rfl) (f' := (mcell kc a (u2 (sp_M_puts (u2 (u2 (u2 mo 0 0 (0 : Int32)) 13 ((u2 mo 0 0 (0 : Int32)) 2 0).toNatClampNeg (10 : Int32)) 2 0 (((u2 (u2 mo 0 0 (0 : Int32)) 13 ((u2 mo 0 0 (0 : Int32)) 2 0).toNatClampNeg (10 : Int32)) 2 0) + (1 : Int32))) (10 : Int32)) 3 0 ((sp_M_puts (u2 (u2 (u2 mo 0 0 (0 : Int32)) 13 ((u2 mo 0 0 (0 : Int32)) 2 0).toNatClampNeg (10 : Int32)) 2 0 (((u2 (u2 mo 0 0 (0 : Int32)) 13 ((u2 mo 0 0 (0 : Int32)) 2 0).toNatClampNeg (10 : Int32)) 2 0) + (1 : Int32))) (10 : Int32)) 2 0)))) (mw_3 kc a _ ((sp_M_puts (u2 (u2 (u2 mo 0 0 (0 : Int32)) 13 ((u2 mo 0 0 (0 : Int32)) 2 0).toNatClampNeg (10 : Int32)) 2 0 (((u2 (u2 mo 0 0 (0 : Int32)) 13 ((u2 mo 0 0 (0 : Int32)) 2 0).toNatClampNeg (10 : Int32)) 2 0) + (1 : Int32))) (10 : Int32)) 2 0)) d_M_type_156 (fun H locs hP hD hS => ?_)
                      refine lv_iconst (v := 1) hx hb d_M_type_159 (by decide) ?_
                      obtain ⟨rfl, rfl⟩ := Prod.mk.inj hres
                      exact ml_zret hx hb hr (by decide) hlocks hP hK hD hS d_M_type_160
            · rw [if_pos h_8] at hres
              refine lv_iconst (v := 0) hx hb d_M_type_83 (by decide) ?_
              obtain ⟨rfl, rfl⟩ := Prod.mk.inj hres
              exact ml_zret hx hb hr (by decide) hlocks hP hK hD hS d_M_type_84
          · rw [if_pos h_7] at hres
            exact loop _ 0 (u2 mo 0 0 (0 : Int32)) _ _ ls (Nat.zero_le _) (by omega) (md_w0 hs hw) hres hP hD hS (lv_sub hl [0] rfl)
        · rw [if_pos h_6] at hres
          refine lv_aload_n hx hb d_M_type_30 rfl (lv_at hl 0 rfl) ?_
          refine ml_get (D := (dC, dI)) hx hb hts in_MC hown hK hP (0) (by decide) (mc_mod kc a (u2 mo 0 0 (0 : Int32))) rfl 10 (by decide) (hts _ (mC _ wd_351)) (fun _ h9 => h9) (v := .int ((u2 mo 0 0 (0 : Int32)) 2 0)) rfl d_M_type_31 ?_
          refine lv_aload_n hx hb d_M_type_34 rfl (lv_at hl 0 rfl) ?_
          refine ml_get (D := (dC, dI)) hx hb hts in_MC hown hK hP (0) (by decide) (mc_mod kc a (u2 mo 0 0 (0 : Int32))) rfl 11 (by decide) (hts _ (mC _ wd_352)) (fun _ h9 => h9) (v := .int ((u2 mo 0 0 (0 : Int32)) 3 0)) rfl d_M_type_35 ?_
          refine lv_icmp_le (tgt := 45) hx hb d_M_type_38 (by decide) (fun h_16 => ?_) (fun h_16 => ?_)
          · rw [if_pos h_16] at hres
            refine lv_iconst (v := 1) hx hb d_M_type_45 (by decide) ?_
            obtain ⟨rfl, rfl⟩ := Prod.mk.inj hres
            exact ml_zret hx hb hr (by decide) hlocks hP hK hD hS d_M_type_46
          · rw [if_neg h_16] at hres
            refine lv_aload_n hx hb d_M_type_41 rfl (lv_at hl 0 rfl) ?_
            refine ml_callv (va_runV (As := []) (rest := []) ⟨hx, hb, hml, hown, hts⟩ (c_M_back l dC dI kc a _ (u2 mo 0 0 (0 : Int32)) (md_b1 hs) _ rfl) (cwV 0 hts (gd_V mC wd_482 wd_484 ws_19 wd_6 wd_485) rfl rfl rfl hd_M_back ⟨Nat.le_of_ble_eq_true rfl, Nat.le_of_ble_eq_true rfl⟩) ⟨ml_blind, va_recv hK hP (ci := 5) rfl (ml_at (by decide) (mc_mod kc a (u2 mo 0 0 (0 : Int32)))), ml_pre hP hK hD⟩ rfl rfl hl.1 rfl (lv_room (Nat.le_of_ble_eq_true rfl)) d_M_type_42 ⟨Nat.zero_le _, Nat.zero_le _⟩) hD hS hA (fun H locs hP hD hS => ?_)
            refine lv_iconst (v := 1) hx hb d_M_type_45 (by decide) ?_
            obtain ⟨rfl, rfl⟩ := Prod.mk.inj hres
            exact ml_zret hx hb hr (by decide) hlocks hP hK hD hS d_M_type_46
    · rw [if_neg h_3] at hres
      refine lv_iconst (v := 0) hx hb d_M_type_16 (by decide) ?_
      obtain ⟨rfl, rfl⟩ := Prod.mk.inj hres
      exact ml_zret hx hb hr (by decide) hlocks hP hK hD hS d_M_type_17
def lp_M_read  : Nat → Nat → Int32 → MK → Int32 × MK
  | 0, _, _, mo => (0, mo)
  | n + 1, j, bb, mo =>
    (if (mo 2 0) ≤ (nI j) then (if bb = (4 : Int32) then ((-4 : Int32), mo) else (bb, mo)) else (lp_M_read n (j + 1) bb (u2 mo 13 (nI j).toNatClampNeg (mo 13 (nI (j + 1)).toNatClampNeg))))
def sp_M_read (mo : MK) (fi : Int32) : Int32 × MK :=
  (if (u2 mo 0 0 (0 : Int32)) 3 0 = (0 : Int32) then ((-3 : Int32), u2 mo 0 0 (0 : Int32)) else (if (u2 mo 0 0 (0 : Int32)) 13 (0 : Int32).toNatClampNeg = (4 : Int32) then (if fi = (0 : Int32) then (if (u2 mo 0 0 (0 : Int32)) 13 (0 : Int32).toNatClampNeg = (4 : Int32) then ((-4 : Int32), u2 mo 0 0 (0 : Int32)) else ((u2 mo 0 0 (0 : Int32)) 13 (0 : Int32).toNatClampNeg, u2 mo 0 0 (0 : Int32))) else (lp_M_read (127 + 1) 0 ((u2 mo 0 0 (0 : Int32)) 13 (0 : Int32).toNatClampNeg) (u2 (u2 (u2 mo 0 0 (0 : Int32)) 3 0 (((u2 mo 0 0 (0 : Int32)) 3 0) - (1 : Int32))) 2 0 (((u2 (u2 mo 0 0 (0 : Int32)) 3 0 (((u2 mo 0 0 (0 : Int32)) 3 0) - (1 : Int32))) 2 0) - (1 : Int32))))) else (lp_M_read (127 + 1) 0 ((u2 mo 0 0 (0 : Int32)) 13 (0 : Int32).toNatClampNeg) (u2 (u2 (u2 mo 0 0 (0 : Int32)) 3 0 (((u2 mo 0 0 (0 : Int32)) 3 0) - (1 : Int32))) 2 0 (((u2 (u2 mo 0 0 (0 : Int32)) 3 0 (((u2 mo 0 0 (0 : Int32)) 3 0) - (1 : Int32))) 2 0) - (1 : Int32))))))
abbrev rm_M_read : Room := { frames := 0, cells := 0, slots := 0, locals := 0 }
set_option maxHeartbeats 4000000 in
set_option maxRecDepth 100000 in
theorem c_M_read (l : Launch) (dC : Nat → ClassId) (dI : Nat → Nat → Nat) (kc : Nat → ClassId) (a : Nat → Nat) (sz : Nat) (mo : MK) (fi : Int32) (hw : ∃ dn t, dn ≤ t ∧ t ≤ 128 ∧ mo 3 0 = nI dn ∧ mo 2 0 = nI t) (R' : Int32) (mo' : MK) (hres : sp_M_read mo fi = (R', mo')) : Met l y_M_read ws_M_read rm_M_read (va_Pc [.ref (a 0), .int fi] (ml_B (dC, dI) vwCl (tysD kc) 11 a (mcell kc a mo) sz)) (va_Qi (fun r (_ : Unit) => r = R') (fun _ t => ml_E (dC, dI) vwCl (tysD kc) 11 a (mcell kc a mo') (va_A (ml 11 a (mcell kc a mo)) sz) t) (va_A (ml 11 a (mcell kc a mo)) sz)) 0 0 (va_A (ml 11 a (mcell kc a mo)) sz) := by
  refine Met.ofW (cc := prog_7_method_29_code) (maxL := 4) (ret := (some .int)) (by decide) rfl ?_
  intro p e s m args below meth c s₁ B hml hv
  obtain ⟨rfl, hsz, hP, hK, hD0⟩ := hv
  have hx := B.exec
  have hb := B.bytes
  have hr := B.returns
  have hts := atoms_spec (ws := ws_M_read) B.pre
  have hown : s.vm.findClass "HandleDeskModel" = some m.cls := findClass_of_methodNamed B.named
  have hlocks := B.notSynchronized
  subst hsz
  have hD := hD0.self (sz := s.heap.size)
  generalize hAe : va_A (ml 11 a (mcell kc a mo)) s.heap.size = A at hD ⊢
  have hA : ∀ q : Nat, s.heap.size ≤ q → A q := fun q h => by rw [← hAe]; exact Or.inr h
  have hS : va_S A s.heap s.heap [] := va_S.rf
  have loop : ∀ (n j : Nat) (bb : Int32) (mo : MK) (H : Heap) (locs : List Loc) (ls : Array Slot), j ≤ 127 → j + n = 127 + 1 → (∃ t, t ≤ 127 ∧ mo 2 0 = nI t) → lp_M_read n j bb mo = (R', mo') → va_P (dC, dI) vwCl (ml 11 a (mcell kc a mo)) H → va_D A (ml 11 a (mcell kc a mo)) → va_S A s.heap H locs → lv_has ls 4 [(0, .ref (a 0)), (2, .int bb), (3, .int (nI j))] → W p l e rm_M_read s m ([.ref (a 0), .int fi] : List Value).toArray below meth c H locs 0 0 (MQ below (va_Qi (fun r (_ : Unit) => r = R') (fun _ t => ml_E (dC, dI) vwCl (tysD kc) 11 a (mcell kc a mo') A t) A) ([.ref (a 0), .int fi] : List Value).toArray s 0 0 A) (F0 m 53 ls []) := by
    intro n
    induction n with
    | zero =>
      intro j bb mo H locs ls hj hn
      exact absurd hn (by omega)
    | succ n ih =>
      intro j bb mo H locs ls hj hn hinv hres hP hD hS hl
      rw [lp_M_read] at hres
      refine lv_iload_n hx hb d_M_read_53 rfl (lv_at hl 2 rfl) ?_
      refine lv_aload_n hx hb d_M_read_54 rfl (lv_at hl 0 rfl) ?_
      refine ml_get (D := (dC, dI)) hx hb hts in_MC hown hK hP (0) (by decide) (mc_mod kc a mo) rfl 10 (by decide) (hts _ (mC _ wd_351)) (fun _ h9 => h9) (v := .int (mo 2 0)) rfl d_M_read_55 ?_
      refine lv_icmp_ge (tgt := 81) hx hb d_M_read_58 (by decide) (fun h_1 => ?_) (fun h_1 => ?_)
      · rw [if_pos h_1] at hres
        refine lv_iload_n hx hb d_M_read_81 rfl (lv_at hl 1 rfl) ?_
        refine lv_iconst (v := 4) hx hb d_M_read_82 (by decide) ?_
        refine lv_icmp_ne (tgt := 91) hx hb d_M_read_83 (by decide) (fun h_2 => ?_) (fun h_2 => ?_)
        · rw [if_neg h_2] at hres
          refine lv_iload_n hx hb d_M_read_91 rfl (lv_at hl 1 rfl) ?_
          obtain ⟨rfl, rfl⟩ := Prod.mk.inj hres
          exact ml_iret hx hb hr hlocks hP hK hD hS d_M_read_92
        · rw [if_pos h_2] at hres
          refine lv_bipush (v := -4) hx hb d_M_read_86 (by decide) ?_
          refine lv_goto (tgt := 92) hx hb d_M_read_88 (by decide) ?_
          obtain ⟨rfl, rfl⟩ := Prod.mk.inj hres
          exact ml_iret hx hb hr hlocks hP hK hD hS d_M_read_92
      · rw [if_neg h_1] at hres
        refine lv_aload_n hx hb d_M_read_61 rfl (lv_at hl 0 rfl) ?_
        refine ml_get (D := (dC, dI)) hx hb hts in_MC hown hK hP (0) (by decide) (mc_mod kc a mo) rfl 12 (by decide) (hts _ (mC _ wd_353)) (fun _ h9 => h9) (v := .ref (a 9)) rfl d_M_read_62 ?_
        refine lv_iload_n hx hb d_M_read_65 rfl (lv_at hl 2 rfl) ?_
        refine lv_aload_n hx hb d_M_read_66 rfl (lv_at hl 0 rfl) ?_
        refine ml_get (D := (dC, dI)) hx hb hts in_MC hown hK hP (0) (by decide) (mc_mod kc a mo) rfl 12 (by decide) (hts _ (mC _ wd_353)) (fun _ h9 => h9) (v := .ref (a 9)) rfl d_M_read_67 ?_
        refine lv_iload_n hx hb d_M_read_70 rfl (lv_at hl 2 rfl) ?_
        refine lv_iconst (v := 1) hx hb d_M_read_71 (by decide) ?_
        refine lv_iadd hx hb d_M_read_72 ?_
        refine lv_eqi (nI_1 _) ?_
        refine ml_iald hx hb hK hP (9) 0 (by decide) (mc_line kc a mo) rfl (md_r1 hinv (by assumption) hj) d_M_read_73 ?_
        refine ml_iast hx hb hK hP hD hS (9) 0 (by decide) (mc_line kc a mo) rfl (md_r2 hinv (by assumption) hj) (f' := (mcell kc a (u2 mo 13 (nI j).toNatClampNeg (mo 13 (nI (j + 1)).toNatClampNeg)))) (mw_line kc a _ (nI j).toNatClampNeg (mo 13 (nI (j + 1)).toNatClampNeg)) d_M_read_74 (fun H locs hP hD hS => ?_)
        refine lv_iinc (v := nI (j + 1)) (lv' := [(3, .int (nI (j + 1))), (0, .ref (a 0)), (2, .int bb)]) hx hb d_M_read_75 hl (k := 2) rfl (nI_1 j) (by decide) rfl (fun ls hl => ?_)
        refine lv_goto (tgt := 53) hx hb d_M_read_78 (by decide) ?_
        exact ih (j + 1) bb (u2 mo 13 (nI j).toNatClampNeg (mo 13 (nI (j + 1)).toNatClampNeg)) _ _ ls (md_rlt hinv (by assumption) hj) (by omega) (md_rinv hinv) hres hP hD hS (lv_sub hl [1, 2, 0] rfl)
  have hl := lv_entry ([.ref (a 0), .int fi]) (n := 4) (Nat.le_of_ble_eq_true rfl)
  rw [lg_entry_eq]
  generalize (lg_sl ([.ref (a 0), .int fi]) ++ List.replicate (4 - (lg_sl ([.ref (a 0), .int fi])).length) Slot.unset).toArray = ls at hl ⊢
  have hl : lv_has ls 4 [(0, .ref (a 0)), (1, .int fi)] := hl
  rw [sp_M_read] at hres
  refine lv_aload_n hx hb d_M_read_0 rfl (lv_at hl 0 rfl) ?_
  refine lv_iconst (v := 0) hx hb d_M_read_1 (by decide) ?_
  refine ml_put (D := (dC, dI)) hx hb hts in_MC tyM tyM_ok nmM hown hK hP hD hS (0) (by decide) (mc_mod kc a mo) rfl 0 (by decide) (hts _ (mC _ wd_341)) (fun _ h9 => h9) rfl (ty := .int) (by decide +kernel) rfl rfl (Nat.le_of_ble_eq_true rfl) (f' := (mcell kc a (u2 mo 0 0 (0 : Int32)))) (mw_0 kc a _ (0 : Int32)) d_M_read_2 (fun H locs hP hD hS => ?_)
  refine lv_aload_n hx hb d_M_read_5 rfl (lv_at hl 0 rfl) ?_
  refine ml_get (D := (dC, dI)) hx hb hts in_MC hown hK hP (0) (by decide) (mc_mod kc a (u2 mo 0 0 (0 : Int32))) rfl 11 (by decide) (hts _ (mC _ wd_352)) (fun _ h9 => h9) (v := .int ((u2 mo 0 0 (0 : Int32)) 3 0)) rfl d_M_read_6 ?_
  refine lv_if_ne (tgt := 15) hx hb d_M_read_9 (by decide) (fun h_3 => ?_) (fun h_3 => ?_)
  · rw [if_neg h_3] at hres
    refine lv_aload_n hx hb d_M_read_15 rfl (lv_at hl 0 rfl) ?_
    refine ml_get (D := (dC, dI)) hx hb hts in_MC hown hK hP (0) (by decide) (mc_mod kc a (u2 mo 0 0 (0 : Int32))) rfl 12 (by decide) (hts _ (mC _ wd_353)) (fun _ h9 => h9) (v := .ref (a 9)) rfl d_M_read_16 ?_
    refine lv_iconst (v := 0) hx hb d_M_read_19 (by decide) ?_
    refine ml_iald hx hb hK hP (9) 0 (by decide) (mc_line kc a (u2 mo 0 0 (0 : Int32))) rfl (vp_in_nI (n := 0) (N := 128) (by decide) (by decide)) d_M_read_20 ?_
    refine lv_istore_n (lv' := [(2, .int ((u2 mo 0 0 (0 : Int32)) 13 (0 : Int32).toNatClampNeg)), (0, .ref (a 0)), (1, .int fi)]) hx hb d_M_read_21 rfl hl (by decide) rfl (fun ls hl => ?_)
    refine lv_iload_n hx hb d_M_read_22 rfl (lv_at hl 0 rfl) ?_
    refine lv_iconst (v := 4) hx hb d_M_read_23 (by decide) ?_
    refine lv_icmp_ne (tgt := 31) hx hb d_M_read_24 (by decide) (fun h_4 => ?_) (fun h_4 => ?_)
    · rw [if_neg h_4] at hres
      refine lv_aload_n hx hb d_M_read_31 rfl (lv_at hl 1 rfl) ?_
      refine lv_dup hx hb d_M_read_32 rfl ?_
      refine ml_get (D := (dC, dI)) hx hb hts in_MC hown hK hP (0) (by decide) (mc_mod kc a (u2 mo 0 0 (0 : Int32))) rfl 11 (by decide) (hts _ (mC _ wd_352)) (fun _ h9 => h9) (v := .int ((u2 mo 0 0 (0 : Int32)) 3 0)) rfl d_M_read_33 ?_
      refine lv_iconst (v := 1) hx hb d_M_read_36 (by decide) ?_
      refine lv_isub hx hb d_M_read_37 ?_
      refine ml_put (D := (dC, dI)) hx hb hts in_MC tyM tyM_ok nmM hown hK hP hD hS (0) (by decide) (mc_mod kc a (u2 mo 0 0 (0 : Int32))) rfl 11 (by decide) (hts _ (mC _ wd_352)) (fun _ h9 => h9) rfl (ty := .int) (by decide +kernel) rfl rfl (Nat.le_of_ble_eq_true rfl) (f' := (mcell kc a (u2 (u2 mo 0 0 (0 : Int32)) 3 0 (((u2 mo 0 0 (0 : Int32)) 3 0) - (1 : Int32))))) (mw_3 kc a _ (((u2 mo 0 0 (0 : Int32)) 3 0) - (1 : Int32))) d_M_read_38 (fun H locs hP hD hS => ?_)
      refine lv_aload_n hx hb d_M_read_41 rfl (lv_at hl 1 rfl) ?_
      refine lv_dup hx hb d_M_read_42 rfl ?_
      refine ml_get (D := (dC, dI)) hx hb hts in_MC hown hK hP (0) (by decide) (mc_mod kc a (u2 (u2 mo 0 0 (0 : Int32)) 3 0 (((u2 mo 0 0 (0 : Int32)) 3 0) - (1 : Int32)))) rfl 10 (by decide) (hts _ (mC _ wd_351)) (fun _ h9 => h9) (v := .int ((u2 (u2 mo 0 0 (0 : Int32)) 3 0 (((u2 mo 0 0 (0 : Int32)) 3 0) - (1 : Int32))) 2 0)) rfl d_M_read_43 ?_
      refine lv_iconst (v := 1) hx hb d_M_read_46 (by decide) ?_
      refine lv_isub hx hb d_M_read_47 ?_
      refine ml_put (D := (dC, dI)) hx hb hts in_MC tyM tyM_ok nmM hown hK hP hD hS (0) (by decide) (mc_mod kc a (u2 (u2 mo 0 0 (0 : Int32)) 3 0 (((u2 mo 0 0 (0 : Int32)) 3 0) - (1 : Int32)))) rfl 10 (by decide) (hts _ (mC _ wd_351)) (fun _ h9 => h9) rfl (ty := .int) (by decide +kernel) rfl rfl (Nat.le_of_ble_eq_true rfl) (f' := (mcell kc a (u2 (u2 (u2 mo 0 0 (0 : Int32)) 3 0 (((u2 mo 0 0 (0 : Int32)) 3 0) - (1 : Int32))) 2 0 (((u2 (u2 mo 0 0 (0 : Int32)) 3 0 (((u2 mo 0 0 (0 : Int32)) 3 0) - (1 : Int32))) 2 0) - (1 : Int32))))) (mw_2 kc a _ (((u2 (u2 mo 0 0 (0 : Int32)) 3 0 (((u2 mo 0 0 (0 : Int32)) 3 0) - (1 : Int32))) 2 0) - (1 : Int32))) d_M_read_48 (fun H locs hP hD hS => ?_)
      refine lv_iconst (v := 0) hx hb d_M_read_51 (by decide) ?_
      refine lv_istore_n (lv' := [(3, .int (0 : Int32)), (2, .int ((u2 mo 0 0 (0 : Int32)) 13 (0 : Int32).toNatClampNeg)), (0, .ref (a 0)), (1, .int fi)]) hx hb d_M_read_52 rfl hl (by decide) rfl (fun ls hl => ?_)
      exact loop _ 0 ((u2 mo 0 0 (0 : Int32)) 13 (0 : Int32).toNatClampNeg) (u2 (u2 (u2 mo 0 0 (0 : Int32)) 3 0 (((u2 mo 0 0 (0 : Int32)) 3 0) - (1 : Int32))) 2 0 (((u2 (u2 mo 0 0 (0 : Int32)) 3 0 (((u2 mo 0 0 (0 : Int32)) 3 0) - (1 : Int32))) 2 0) - (1 : Int32))) _ _ ls (Nat.zero_le _) (by omega) (md_rin hw (by assumption)) hres hP hD hS (lv_sub hl [2, 1, 0] rfl)
    · rw [if_pos h_4] at hres
      refine lv_iload_n hx hb d_M_read_27 rfl (lv_at hl 2 rfl) ?_
      refine lv_if_eq (tgt := 81) hx hb d_M_read_28 (by decide) (fun h_5 => ?_) (fun h_5 => ?_)
      · rw [if_pos h_5] at hres
        refine lv_iload_n hx hb d_M_read_81 rfl (lv_at hl 0 rfl) ?_
        refine lv_iconst (v := 4) hx hb d_M_read_82 (by decide) ?_
        refine lv_icmp_ne (tgt := 91) hx hb d_M_read_83 (by decide) (fun h_6 => ?_) (fun h_6 => ?_)
        · rw [if_neg h_6] at hres
          refine lv_iload_n hx hb d_M_read_91 rfl (lv_at hl 0 rfl) ?_
          obtain ⟨rfl, rfl⟩ := Prod.mk.inj hres
          exact ml_iret hx hb hr hlocks hP hK hD hS d_M_read_92
        · rw [if_pos h_6] at hres
          refine lv_bipush (v := -4) hx hb d_M_read_86 (by decide) ?_
          refine lv_goto (tgt := 92) hx hb d_M_read_88 (by decide) ?_
          obtain ⟨rfl, rfl⟩ := Prod.mk.inj hres
          exact ml_iret hx hb hr hlocks hP hK hD hS d_M_read_92
      · rw [if_neg h_5] at hres
        refine lv_aload_n hx hb d_M_read_31 rfl (lv_at hl 1 rfl) ?_
        refine lv_dup hx hb d_M_read_32 rfl ?_
        refine ml_get (D := (dC, dI)) hx hb hts in_MC hown hK hP (0) (by decide) (mc_mod kc a (u2 mo 0 0 (0 : Int32))) rfl 11 (by decide) (hts _ (mC _ wd_352)) (fun _ h9 => h9) (v := .int ((u2 mo 0 0 (0 : Int32)) 3 0)) rfl d_M_read_33 ?_
        refine lv_iconst (v := 1) hx hb d_M_read_36 (by decide) ?_
        refine lv_isub hx hb d_M_read_37 ?_
        refine ml_put (D := (dC, dI)) hx hb hts in_MC tyM tyM_ok nmM hown hK hP hD hS (0) (by decide) (mc_mod kc a (u2 mo 0 0 (0 : Int32))) rfl 11 (by decide) (hts _ (mC _ wd_352)) (fun _ h9 => h9) rfl (ty := .int) (by decide +kernel) rfl rfl (Nat.le_of_ble_eq_true rfl) (f' := (mcell kc a (u2 (u2 mo 0 0 (0 : Int32)) 3 0 (((u2 mo 0 0 (0 : Int32)) 3 0) - (1 : Int32))))) (mw_3 kc a _ (((u2 mo 0 0 (0 : Int32)) 3 0) - (1 : Int32))) d_M_read_38 (fun H locs hP hD hS => ?_)
        refine lv_aload_n hx hb d_M_read_41 rfl (lv_at hl 1 rfl) ?_
        refine lv_dup hx hb d_M_read_42 rfl ?_
        refine ml_get (D := (dC, dI)) hx hb hts in_MC hown hK hP (0) (by decide) (mc_mod kc a (u2 (u2 mo 0 0 (0 : Int32)) 3 0 (((u2 mo 0 0 (0 : Int32)) 3 0) - (1 : Int32)))) rfl 10 (by decide) (hts _ (mC _ wd_351)) (fun _ h9 => h9) (v := .int ((u2 (u2 mo 0 0 (0 : Int32)) 3 0 (((u2 mo 0 0 (0 : Int32)) 3 0) - (1 : Int32))) 2 0)) rfl d_M_read_43 ?_
        refine lv_iconst (v := 1) hx hb d_M_read_46 (by decide) ?_
        refine lv_isub hx hb d_M_read_47 ?_
        refine ml_put (D := (dC, dI)) hx hb hts in_MC tyM tyM_ok nmM hown hK hP hD hS (0) (by decide) (mc_mod kc a (u2 (u2 mo 0 0 (0 : Int32)) 3 0 (((u2 mo 0 0 (0 : Int32)) 3 0) - (1 : Int32)))) rfl 10 (by decide) (hts _ (mC _ wd_351)) (fun _ h9 => h9) rfl (ty := .int) (by decide +kernel) rfl rfl (Nat.le_of_ble_eq_true rfl) (f' := (mcell kc a (u2 (u2 (u2 mo 0 0 (0 : Int32)) 3 0 (((u2 mo 0 0 (0 : Int32)) 3 0) - (1 : Int32))) 2 0 (((u2 (u2 mo 0 0 (0 : Int32)) 3 0 (((u2 mo 0 0 (0 : Int32)) 3 0) - (1 : Int32))) 2 0) - (1 : Int32))))) (mw_2 kc a _ (((u2 (u2 mo 0 0 (0 : Int32)) 3 0 (((u2 mo 0 0 (0 : Int32)) 3 0) - (1 : Int32))) 2 0) - (1 : Int32))) d_M_read_48 (fun H locs hP hD hS => ?_)
        refine lv_iconst (v := 0) hx hb d_M_read_51 (by decide) ?_
        refine lv_istore_n (lv' := [(3, .int (0 : Int32)), (2, .int ((u2 mo 0 0 (0 : Int32)) 13 (0 : Int32).toNatClampNeg)), (0, .ref (a 0)), (1, .int fi)]) hx hb d_M_read_52 rfl hl (by decide) rfl (fun ls hl => ?_)
        exact loop _ 0 ((u2 mo 0 0 (0 : Int32)) 13 (0 : Int32).toNatClampNeg) (u2 (u2 (u2 mo 0 0 (0 : Int32)) 3 0 (((u2 mo 0 0 (0 : Int32)) 3 0) - (1 : Int32))) 2 0 (((u2 (u2 mo 0 0 (0 : Int32)) 3 0 (((u2 mo 0 0 (0 : Int32)) 3 0) - (1 : Int32))) 2 0) - (1 : Int32))) _ _ ls (Nat.zero_le _) (by omega) (md_rin hw (by assumption)) hres hP hD hS (lv_sub hl [2, 1, 0] rfl)
  · rw [if_pos h_3] at hres
    refine lv_bipush (v := -3) hx hb d_M_read_12 (by decide) ?_
    obtain ⟨rfl, rfl⟩ := Prod.mk.inj hres
    exact ml_iret hx hb hr hlocks hP hK hD hS d_M_read_14
def sp_M_waiting (mo : MK) (wh : Int32) : Int32 × MK :=
  (if wh = (0 : Int32) then ((u2 mo 0 0 (0 : Int32)) 3 0, u2 mo 0 0 (0 : Int32)) else (if wh = (1 : Int32) then ((u2 mo 0 0 (0 : Int32)) 2 0, u2 mo 0 0 (0 : Int32)) else ((-1 : Int32), u2 mo 0 0 (0 : Int32))))
abbrev rm_M_waiting : Room := { frames := 0, cells := 0, slots := 0, locals := 0 }
set_option maxHeartbeats 4000000 in
set_option maxRecDepth 100000 in
theorem c_M_waiting (l : Launch) (dC : Nat → ClassId) (dI : Nat → Nat → Nat) (kc : Nat → ClassId) (a : Nat → Nat) (sz : Nat) (mo : MK) (wh : Int32) (R' : Int32) (mo' : MK) (hres : sp_M_waiting mo wh = (R', mo')) : Met l y_M_waiting ws_M_waiting rm_M_waiting (va_Pc [.ref (a 0), .int wh] (ml_B (dC, dI) vwCl (tysD kc) 11 a (mcell kc a mo) sz)) (va_Qi (fun r (_ : Unit) => r = R') (fun _ t => ml_E (dC, dI) vwCl (tysD kc) 11 a (mcell kc a mo') (va_A (ml 11 a (mcell kc a mo)) sz) t) (va_A (ml 11 a (mcell kc a mo)) sz)) 0 0 (va_A (ml 11 a (mcell kc a mo)) sz) := by
  refine Met.ofW (cc := prog_7_method_30_code) (maxL := 2) (ret := (some .int)) (by decide) rfl ?_
  intro p e s m args below meth c s₁ B hml hv
  obtain ⟨rfl, hsz, hP, hK, hD0⟩ := hv
  have hx := B.exec
  have hb := B.bytes
  have hr := B.returns
  have hts := atoms_spec (ws := ws_M_waiting) B.pre
  have hown : s.vm.findClass "HandleDeskModel" = some m.cls := findClass_of_methodNamed B.named
  have hlocks := B.notSynchronized
  subst hsz
  have hD := hD0.self (sz := s.heap.size)
  generalize hAe : va_A (ml 11 a (mcell kc a mo)) s.heap.size = A at hD ⊢
  have hA : ∀ q : Nat, s.heap.size ≤ q → A q := fun q h => by rw [← hAe]; exact Or.inr h
  have hS : va_S A s.heap s.heap [] := va_S.rf
  have hl := lv_entry ([.ref (a 0), .int wh]) (n := 2) (Nat.le_of_ble_eq_true rfl)
  rw [lg_entry_eq]
  generalize (lg_sl ([.ref (a 0), .int wh]) ++ List.replicate (2 - (lg_sl ([.ref (a 0), .int wh])).length) Slot.unset).toArray = ls at hl ⊢
  have hl : lv_has ls 2 [(0, .ref (a 0)), (1, .int wh)] := hl
  rw [sp_M_waiting] at hres
  refine lv_aload_n hx hb d_M_waiting_0 rfl (lv_at hl 0 rfl) ?_
  refine lv_iconst (v := 0) hx hb d_M_waiting_1 (by decide) ?_
  refine ml_put (D := (dC, dI)) hx hb hts in_MC tyM tyM_ok nmM hown hK hP hD hS (0) (by decide) (mc_mod kc a mo) rfl 0 (by decide) (hts _ (mC _ wd_341)) (fun _ h9 => h9) rfl (ty := .int) (by decide +kernel) rfl rfl (Nat.le_of_ble_eq_true rfl) (f' := (mcell kc a (u2 mo 0 0 (0 : Int32)))) (mw_0 kc a _ (0 : Int32)) d_M_waiting_2 (fun H locs hP hD hS => ?_)
  refine lv_iload_n hx hb d_M_waiting_5 rfl (lv_at hl 1 rfl) ?_
  refine lv_if_ne (tgt := 16) hx hb d_M_waiting_6 (by decide) (fun h_1 => ?_) (fun h_1 => ?_)
  · rw [if_neg h_1] at hres
    refine lv_iload_n hx hb d_M_waiting_16 rfl (lv_at hl 1 rfl) ?_
    refine lv_iconst (v := 1) hx hb d_M_waiting_17 (by decide) ?_
    refine lv_icmp_ne (tgt := 28) hx hb d_M_waiting_18 (by decide) (fun h_2 => ?_) (fun h_2 => ?_)
    · rw [if_neg h_2] at hres
      refine lv_iconst (v := -1) hx hb d_M_waiting_28 (by decide) ?_
      obtain ⟨rfl, rfl⟩ := Prod.mk.inj hres
      exact ml_iret hx hb hr hlocks hP hK hD hS d_M_waiting_29
    · rw [if_pos h_2] at hres
      refine lv_aload_n hx hb d_M_waiting_21 rfl (lv_at hl 0 rfl) ?_
      refine ml_get (D := (dC, dI)) hx hb hts in_MC hown hK hP (0) (by decide) (mc_mod kc a (u2 mo 0 0 (0 : Int32))) rfl 10 (by decide) (hts _ (mC _ wd_351)) (fun _ h9 => h9) (v := .int ((u2 mo 0 0 (0 : Int32)) 2 0)) rfl d_M_waiting_22 ?_
      refine lv_goto (tgt := 29) hx hb d_M_waiting_25 (by decide) ?_
      obtain ⟨rfl, rfl⟩ := Prod.mk.inj hres
      exact ml_iret hx hb hr hlocks hP hK hD hS d_M_waiting_29
  · rw [if_pos h_1] at hres
    refine lv_aload_n hx hb d_M_waiting_9 rfl (lv_at hl 0 rfl) ?_
    refine ml_get (D := (dC, dI)) hx hb hts in_MC hown hK hP (0) (by decide) (mc_mod kc a (u2 mo 0 0 (0 : Int32))) rfl 11 (by decide) (hts _ (mC _ wd_352)) (fun _ h9 => h9) (v := .int ((u2 mo 0 0 (0 : Int32)) 3 0)) rfl d_M_waiting_10 ?_
    refine lv_goto (tgt := 29) hx hb d_M_waiting_13 (by decide) ?_
    obtain ⟨rfl, rfl⟩ := Prod.mk.inj hres
    exact ml_iret hx hb hr hlocks hP hK hD hS d_M_waiting_29
def sp_M_show (mo : MK) (bt : Int32) : MK :=
  (sp_M_puts (u2 mo 0 0 (0 : Int32)) bt)
abbrev rm_M_show : Room := { frames := 1, cells := 0, slots := 0, locals := 21 }
set_option maxHeartbeats 4000000 in
set_option maxRecDepth 100000 in
theorem c_M_show (l : Launch) (dC : Nat → ClassId) (dI : Nat → Nat → Nat) (kc : Nat → ClassId) (a : Nat → Nat) (sz : Nat) (mo : MK) (bt : Int32) (hs : ∃ n, n + 1 < 2 ^ 30 ∧ mo 4 0 = nI n) (mo' : MK) (hres : sp_M_show mo bt = mo') : Met l y_M_show ws_M_show rm_M_show (va_Pc [.ref (a 0), .int bt] (ml_B (dC, dI) vwCl (tysD kc) 11 a (mcell kc a mo) sz)) (va_Qv (fun (_ : Unit) => True) (fun _ t => ml_E (dC, dI) vwCl (tysD kc) 11 a (mcell kc a mo') (va_A (ml 11 a (mcell kc a mo)) sz) t) (va_A (ml 11 a (mcell kc a mo)) sz)) 0 0 (va_A (ml 11 a (mcell kc a mo)) sz) := by
  refine Met.ofW (cc := prog_7_method_31_code) (maxL := 2) (ret := (none : Option Jvm.ClassFile.FieldType)) (by decide) rfl ?_
  intro p e s m args below meth c s₁ B hml hv
  obtain ⟨rfl, hsz, hP, hK, hD0⟩ := hv
  have hx := B.exec
  have hb := B.bytes
  have hr := B.returns
  have hts := atoms_spec (ws := ws_M_show) B.pre
  have hown : s.vm.findClass "HandleDeskModel" = some m.cls := findClass_of_methodNamed B.named
  have hlocks := B.notSynchronized
  subst hsz
  have hD := hD0.self (sz := s.heap.size)
  generalize hAe : va_A (ml 11 a (mcell kc a mo)) s.heap.size = A at hD ⊢
  have hA : ∀ q : Nat, s.heap.size ≤ q → A q := fun q h => by rw [← hAe]; exact Or.inr h
  have hS : va_S A s.heap s.heap [] := va_S.rf
  have hl := lv_entry ([.ref (a 0), .int bt]) (n := 2) (Nat.le_of_ble_eq_true rfl)
  rw [lg_entry_eq]
  generalize (lg_sl ([.ref (a 0), .int bt]) ++ List.replicate (2 - (lg_sl ([.ref (a 0), .int bt])).length) Slot.unset).toArray = ls at hl ⊢
  have hl : lv_has ls 2 [(0, .ref (a 0)), (1, .int bt)] := hl
  rw [sp_M_show] at hres
  refine lv_aload_n hx hb d_M_show_0 rfl (lv_at hl 0 rfl) ?_
  refine lv_iconst (v := 0) hx hb d_M_show_1 (by decide) ?_
  refine ml_put (D := (dC, dI)) hx hb hts in_MC tyM tyM_ok nmM hown hK hP hD hS (0) (by decide) (mc_mod kc a mo) rfl 0 (by decide) (hts _ (mC _ wd_341)) (fun _ h9 => h9) rfl (ty := .int) (by decide +kernel) rfl rfl (Nat.le_of_ble_eq_true rfl) (f' := (mcell kc a (u2 mo 0 0 (0 : Int32)))) (mw_0 kc a _ (0 : Int32)) d_M_show_2 (fun H locs hP hD hS => ?_)
  refine lv_aload_n hx hb d_M_show_5 rfl (lv_at hl 0 rfl) ?_
  refine lv_iload_n hx hb d_M_show_6 rfl (lv_at hl 1 rfl) ?_
  refine ml_callv (va_runV (As := [.int bt]) (rest := []) ⟨hx, hb, hml, hown, hts⟩ (c_M_puts l dC dI kc a _ (u2 mo 0 0 (0 : Int32)) bt hs _ rfl) (cwV 1 hts (gd_V mC wd_486 wd_488 ws_20 wd_6 wd_489) rfl rfl rfl hd_M_puts ⟨Nat.le_of_ble_eq_true rfl, Nat.le_of_ble_eq_true rfl⟩) ⟨ml_blind, va_recv hK hP (ci := 5) rfl (ml_at (by decide) (mc_mod kc a (u2 mo 0 0 (0 : Int32)))), ml_pre hP hK hD⟩ rfl rfl hl.1 rfl (lv_room (Nat.le_of_ble_eq_true rfl)) d_M_show_7 ⟨Nat.zero_le _, Nat.zero_le _⟩) hD hS hA (fun H locs hP hD hS => ?_)
  subst hres
  exact ml_vret hx hb hr hlocks hP hK hD hS d_M_show_10
def sp_M_shown (mo : MK) (kx : Int32) : Int32 × MK :=
  (if kx < (0 : Int32) then ((-1 : Int32), u2 mo 0 0 (0 : Int32)) else (if ((u2 mo 0 0 (0 : Int32)) 4 0) ≤ kx then ((-1 : Int32), u2 mo 0 0 (0 : Int32)) else (if kx < (((u2 mo 0 0 (0 : Int32)) 4 0) - (4096 : Int32)) then ((-1 : Int32), u2 mo 0 0 (0 : Int32)) else (((u2 mo 0 0 (0 : Int32)) 14 (kx - kx / (4096 : Int32) * (4096 : Int32)).toNatClampNeg) &&& (255 : Int32), u2 mo 0 0 (0 : Int32)))))
abbrev rm_M_shown : Room := { frames := 0, cells := 0, slots := 0, locals := 0 }
set_option maxHeartbeats 4000000 in
set_option maxRecDepth 100000 in
theorem c_M_shown (l : Launch) (dC : Nat → ClassId) (dI : Nat → Nat → Nat) (kc : Nat → ClassId) (a : Nat → Nat) (sz : Nat) (mo : MK) (kx : Int32) (hs : ∃ n, n < 2 ^ 30 ∧ mo 4 0 = nI n) (R' : Int32) (mo' : MK) (hres : sp_M_shown mo kx = (R', mo')) : Met l y_M_shown ws_M_shown rm_M_shown (va_Pc [.ref (a 0), .int kx] (ml_B (dC, dI) vwCl (tysD kc) 11 a (mcell kc a mo) sz)) (va_Qi (fun r (_ : Unit) => r = R') (fun _ t => ml_E (dC, dI) vwCl (tysD kc) 11 a (mcell kc a mo') (va_A (ml 11 a (mcell kc a mo)) sz) t) (va_A (ml 11 a (mcell kc a mo)) sz)) 0 0 (va_A (ml 11 a (mcell kc a mo)) sz) := by
  refine Met.ofW (cc := prog_7_method_32_code) (maxL := 2) (ret := (some .int)) (by decide) rfl ?_
  intro p e s m args below meth c s₁ B hml hv
  obtain ⟨rfl, hsz, hP, hK, hD0⟩ := hv
  have hx := B.exec
  have hb := B.bytes
  have hr := B.returns
  have hts := atoms_spec (ws := ws_M_shown) B.pre
  have hown : s.vm.findClass "HandleDeskModel" = some m.cls := findClass_of_methodNamed B.named
  have hlocks := B.notSynchronized
  subst hsz
  have hD := hD0.self (sz := s.heap.size)
  generalize hAe : va_A (ml 11 a (mcell kc a mo)) s.heap.size = A at hD ⊢
  have hA : ∀ q : Nat, s.heap.size ≤ q → A q := fun q h => by rw [← hAe]; exact Or.inr h
  have hS : va_S A s.heap s.heap [] := va_S.rf
  have hl := lv_entry ([.ref (a 0), .int kx]) (n := 2) (Nat.le_of_ble_eq_true rfl)
  rw [lg_entry_eq]
  generalize (lg_sl ([.ref (a 0), .int kx]) ++ List.replicate (2 - (lg_sl ([.ref (a 0), .int kx])).length) Slot.unset).toArray = ls at hl ⊢
  have hl : lv_has ls 2 [(0, .ref (a 0)), (1, .int kx)] := hl
  rw [sp_M_shown] at hres
  refine lv_aload_n hx hb d_M_shown_0 rfl (lv_at hl 0 rfl) ?_
  refine lv_iconst (v := 0) hx hb d_M_shown_1 (by decide) ?_
  refine ml_put (D := (dC, dI)) hx hb hts in_MC tyM tyM_ok nmM hown hK hP hD hS (0) (by decide) (mc_mod kc a mo) rfl 0 (by decide) (hts _ (mC _ wd_341)) (fun _ h9 => h9) rfl (ty := .int) (by decide +kernel) rfl rfl (Nat.le_of_ble_eq_true rfl) (f' := (mcell kc a (u2 mo 0 0 (0 : Int32)))) (mw_0 kc a _ (0 : Int32)) d_M_shown_2 (fun H locs hP hD hS => ?_)
  refine lv_iload_n hx hb d_M_shown_5 rfl (lv_at hl 1 rfl) ?_
  refine lv_if_lt (tgt := 46) hx hb d_M_shown_6 (by decide) (fun h_1 => ?_) (fun h_1 => ?_)
  · rw [if_pos h_1] at hres
    refine lv_iconst (v := -1) hx hb d_M_shown_46 (by decide) ?_
    obtain ⟨rfl, rfl⟩ := Prod.mk.inj hres
    exact ml_iret hx hb hr hlocks hP hK hD hS d_M_shown_47
  · rw [if_neg h_1] at hres
    refine lv_iload_n hx hb d_M_shown_9 rfl (lv_at hl 1 rfl) ?_
    refine lv_aload_n hx hb d_M_shown_10 rfl (lv_at hl 0 rfl) ?_
    refine ml_get (D := (dC, dI)) hx hb hts in_MC hown hK hP (0) (by decide) (mc_mod kc a (u2 mo 0 0 (0 : Int32))) rfl 13 (by decide) (hts _ (mC _ wd_354)) (fun _ h9 => h9) (v := .int ((u2 mo 0 0 (0 : Int32)) 4 0)) rfl d_M_shown_11 ?_
    refine lv_icmp_ge (tgt := 46) hx hb d_M_shown_14 (by decide) (fun h_2 => ?_) (fun h_2 => ?_)
    · rw [if_pos h_2] at hres
      refine lv_iconst (v := -1) hx hb d_M_shown_46 (by decide) ?_
      obtain ⟨rfl, rfl⟩ := Prod.mk.inj hres
      exact ml_iret hx hb hr hlocks hP hK hD hS d_M_shown_47
    · rw [if_neg h_2] at hres
      refine lv_iload_n hx hb d_M_shown_17 rfl (lv_at hl 1 rfl) ?_
      refine lv_aload_n hx hb d_M_shown_18 rfl (lv_at hl 0 rfl) ?_
      refine ml_get (D := (dC, dI)) hx hb hts in_MC hown hK hP (0) (by decide) (mc_mod kc a (u2 mo 0 0 (0 : Int32))) rfl 13 (by decide) (hts _ (mC _ wd_354)) (fun _ h9 => h9) (v := .int ((u2 mo 0 0 (0 : Int32)) 4 0)) rfl d_M_shown_19 ?_
      refine lv_sipush (v := 4096) hx hb d_M_shown_22 (by decide) ?_
      refine lv_isub hx hb d_M_shown_25 ?_
      refine lv_icmp_lt (tgt := 46) hx hb d_M_shown_26 (by decide) (fun h_3 => ?_) (fun h_3 => ?_)
      · rw [if_pos h_3] at hres
        refine lv_iconst (v := -1) hx hb d_M_shown_46 (by decide) ?_
        obtain ⟨rfl, rfl⟩ := Prod.mk.inj hres
        exact ml_iret hx hb hr hlocks hP hK hD hS d_M_shown_47
      · rw [if_neg h_3] at hres
        refine lv_aload_n hx hb d_M_shown_29 rfl (lv_at hl 0 rfl) ?_
        refine ml_get (D := (dC, dI)) hx hb hts in_MC hown hK hP (0) (by decide) (mc_mod kc a (u2 mo 0 0 (0 : Int32))) rfl 14 (by decide) (hts _ (mC _ wd_355)) (fun _ h9 => h9) (v := .ref (a 10)) rfl d_M_shown_30 ?_
        refine lv_iload_n hx hb d_M_shown_33 rfl (lv_at hl 1 rfl) ?_
        refine lv_sipush (v := 4096) hx hb d_M_shown_34 (by decide) ?_
        refine lv_irem hx hb d_M_shown_37 (by decide) ?_
        refine ml_bald hx hb hK hP (10) 1 (by decide) (mc_screen kc a (u2 mo 0 0 (0 : Int32))) rfl (md_sh (by assumption)) d_M_shown_38 ?_
        refine lv_sipush (v := 255) hx hb d_M_shown_39 (by decide) ?_
        refine lv_iand hx hb d_M_shown_42 ?_
        refine lv_goto (tgt := 47) hx hb d_M_shown_43 (by decide) ?_
        obtain ⟨rfl, rfl⟩ := Prod.mk.inj hres
        exact ml_iret hx hb hr hlocks hP hK hD hS d_M_shown_47
def sp_M_count (mo : MK)  : Int32 × MK :=
  ((u2 mo 0 0 (0 : Int32)) 4 0, u2 mo 0 0 (0 : Int32))
abbrev rm_M_count : Room := { frames := 0, cells := 0, slots := 0, locals := 0 }
set_option maxHeartbeats 4000000 in
set_option maxRecDepth 100000 in
theorem c_M_count (l : Launch) (dC : Nat → ClassId) (dI : Nat → Nat → Nat) (kc : Nat → ClassId) (a : Nat → Nat) (sz : Nat) (mo : MK) (R' : Int32) (mo' : MK) (hres : sp_M_count mo = (R', mo')) : Met l y_M_count ws_M_count rm_M_count (va_Pc [.ref (a 0)] (ml_B (dC, dI) vwCl (tysD kc) 11 a (mcell kc a mo) sz)) (va_Qi (fun r (_ : Unit) => r = R') (fun _ t => ml_E (dC, dI) vwCl (tysD kc) 11 a (mcell kc a mo') (va_A (ml 11 a (mcell kc a mo)) sz) t) (va_A (ml 11 a (mcell kc a mo)) sz)) 0 0 (va_A (ml 11 a (mcell kc a mo)) sz) := by
  refine Met.ofW (cc := prog_7_method_33_code) (maxL := 1) (ret := (some .int)) (by decide) rfl ?_
  intro p e s m args below meth c s₁ B hml hv
  obtain ⟨rfl, hsz, hP, hK, hD0⟩ := hv
  have hx := B.exec
  have hb := B.bytes
  have hr := B.returns
  have hts := atoms_spec (ws := ws_M_count) B.pre
  have hown : s.vm.findClass "HandleDeskModel" = some m.cls := findClass_of_methodNamed B.named
  have hlocks := B.notSynchronized
  subst hsz
  have hD := hD0.self (sz := s.heap.size)
  generalize hAe : va_A (ml 11 a (mcell kc a mo)) s.heap.size = A at hD ⊢
  have hA : ∀ q : Nat, s.heap.size ≤ q → A q := fun q h => by rw [← hAe]; exact Or.inr h
  have hS : va_S A s.heap s.heap [] := va_S.rf
  have hl := lv_entry ([.ref (a 0)]) (n := 1) (Nat.le_of_ble_eq_true rfl)
  rw [lg_entry_eq]
  generalize (lg_sl ([.ref (a 0)]) ++ List.replicate (1 - (lg_sl ([.ref (a 0)])).length) Slot.unset).toArray = ls at hl ⊢
  have hl : lv_has ls 1 [(0, .ref (a 0))] := hl
  rw [sp_M_count] at hres
  refine lv_aload_n hx hb d_M_count_0 rfl (lv_at hl 0 rfl) ?_
  refine lv_iconst (v := 0) hx hb d_M_count_1 (by decide) ?_
  refine ml_put (D := (dC, dI)) hx hb hts in_MC tyM tyM_ok nmM hown hK hP hD hS (0) (by decide) (mc_mod kc a mo) rfl 0 (by decide) (hts _ (mC _ wd_341)) (fun _ h9 => h9) rfl (ty := .int) (by decide +kernel) rfl rfl (Nat.le_of_ble_eq_true rfl) (f' := (mcell kc a (u2 mo 0 0 (0 : Int32)))) (mw_0 kc a _ (0 : Int32)) d_M_count_2 (fun H locs hP hD hS => ?_)
  refine lv_aload_n hx hb d_M_count_5 rfl (lv_at hl 0 rfl) ?_
  refine ml_get (D := (dC, dI)) hx hb hts in_MC hown hK hP (0) (by decide) (mc_mod kc a (u2 mo 0 0 (0 : Int32))) rfl 13 (by decide) (hts _ (mC _ wd_354)) (fun _ h9 => h9) (v := .int ((u2 mo 0 0 (0 : Int32)) 4 0)) rfl d_M_count_6 ?_
  obtain ⟨rfl, rfl⟩ := Prod.mk.inj hres
  exact ml_iret hx hb hr hlocks hP hK hD hS d_M_count_9
