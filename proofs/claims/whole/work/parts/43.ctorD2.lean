/-! The desk's constructor: its walk. -/
abbrev rm_init_D : Room := { frames := 2, cells := 56, slots := 8926, locals := 60 }
set_option maxHeartbeats 8000000 in
set_option maxRecDepth 100000 in
theorem c_init_D (l : Launch) (dC : Nat → ClassId) (dI : Nat → Nat → Nat) (kc : Nat → ClassId) (sz h0 : Nat) (a : Nat → Nat) (ha : a 0 = h0) : Met l y_init_D ws_init_D rm_init_D (va_Pc [.ref h0] (fun U => ml_B (dC, dI) vwCl (tysD kc) 1 a (gp kc a (dsD 0 a) 0 0) sz U ∧ xt U)) (va_Qv (fun (_ : Nat → Nat) => True) (fun u t => ml_E (dC, dI) vwCl (tysD kc) 57 (va_up u 0 h0) (dcell kc (va_up u 0 h0) d00) (va_A (ml 1 a (gp kc a (dsD 0 a) 0 0)) sz) t) (va_A (ml 1 a (gp kc a (dsD 0 a) 0 0)) sz)) 56 8926 (va_A (ml 1 a (gp kc a (dsD 0 a) 0 0)) sz) := by
  refine Met.ofW (cc := prog_1_method_1_code) (maxL := 2) (ret := (none : Option Jvm.ClassFile.FieldType)) (by decide) rfl ?_
  intro p e s m args below meth c s₁ B hml hv
  obtain ⟨rfl, ⟨hsz, hP, hK, hD0⟩, hxt⟩ := hv
  have hx := B.exec
  have hb := B.bytes
  have hr := B.returns
  have hts := atoms_spec (ws := ws_init_D) B.pre
  have hown : s.vm.findClass "HandleDesk" = some m.cls := findClass_of_methodNamed B.named
  have hlocks := B.notSynchronized
  have hin : meth.name = "<init>" := (name_of_methodNamed B.named B.method).1
  subst hsz
  have hD := hD0.self (sz := s.heap.size)
  generalize hAe : va_A (ml 1 a (gp kc a (dsD 0 a) 0 0)) s.heap.size = A at hD ⊢
  have hA : ∀ q : Nat, s.heap.size ≤ q → A q := fun q h => by rw [← hAe]; exact Or.inr h
  have hS : va_S A s.heap s.heap [] := va_S.rf
  clear hAe
  have loop2 : ∀ (n i : Nat) (a : Nat → Nat) (H : Heap) (locs : List Loc) (ls : Array Slot), i ≤ 8 → i + n = 9 → a 0 = h0 → va_P (dC, dI) vwCl (ml (36 + 2 * i) a (gp kc a (dsD 3 a) 32 i)) H → va_D A (ml (36 + 2 * i) a (gp kc a (dsD 3 a) 32 i)) → va_S A s.heap H locs → lv_has ls 2 [(0, .ref h0), (1, .int (nI i))] → W p l e rm_init_D s m ([.ref h0] : List Value).toArray below meth c H locs (35 + 2 * i) (536 + 518 * i) (MQ below (va_Qv (fun (_ : Nat → Nat) => True) (fun u t => ml_E (dC, dI) vwCl (tysD kc) 57 (va_up u 0 h0) (dcell kc (va_up u 0 h0) d00) A t) A) ([.ref h0] : List Value).toArray s 56 8926 A) (F0 m 62 ls []) := by
    intro n
    induction n with
    | zero =>
      intro i a H locs ls hi hn
      exact absurd hn (by omega)
    | succ n ih =>
      intro i a H locs ls hi hn ha hP hD hS hl
      refine lv_iload_n hx hb d_init_D_62 rfl (lv_at hl 1 rfl) ?_
      refine lv_bipush (v := 8) hx hb d_init_D_63 (by decide) ?_
      refine lv_icmp_ge (tgt := 88) hx hb d_init_D_65 (by decide) (fun hc => ?_) (fun hc => ?_)
      · have hi8 : i = 8 := by have := (le_lit (B := 8) rfl (by decide) (by omega)).mp hc; omega
        subst hi8
        have hP : va_P (dC, dI) vwCl (ml 52 a (gp kc a (dsD 3 a) 32 8)) H := hP
        have hD : va_D A (ml 52 a (gp kc a (dsD 3 a) 32 8)) := hD
        refine lv_aload_n hx hb d_init_D_88 rfl (lv_at hl 0 rfl) ?_
        refine lv_bipush (v := 16) hx hb d_init_D_89 (by decide) ?_
        refine ml_newa (atype := .int) hx hb (hts _ (mC _ wd_108)) rfl hK hP hD hS hA (a0 := (16, .inl (fun _ => 0))) (fun _ => rfl) (by decide) (N' := 16) (by decide) (by decide) (Nat.le_of_ble_eq_true rfl) (Nat.le_of_ble_eq_true rfl) d_init_D_91 (kc 0) kc_i (fun q1 H hP hD hS => ?_)
        refine W.widen (k := 52) (n := 4696) (by omega) (by omega) ?_
        obtain ⟨a1, h1⟩ : ∃ a1, a1 = va_up a 52 q1 := ⟨_, rfl⟩
        rw [← h1] at hP hD
        have ha1 : a1 0 = h0 := by rw [h1, va_up_ne _ _ (by decide)]; exact ha
        refine ml_putFx (D := (dC, dI)) hx hb hts in_DC tyD tyD_ok nmD hown hK hP hD hS 0 (by decide) ha1 (fs := dsD 3 a) (by rfl) rfl 3 (by decide) (hts _ (mC _ wd_126)) (fun _ h9 => h9) rfl hin rfl (ty := (.array .int)) (by decide +kernel) rfl rfl (Nat.le_of_ble_eq_true rfl) rfl d_init_D_93 (fun H locs hP hD hS => ?_)
        refine lv_aload_n hx hb d_init_D_96 rfl (lv_at hl 0 rfl) ?_
        refine lv_iconst (v := 0) hx hb d_init_D_97 (by decide) ?_
        refine ml_putx (D := (dC, dI)) hx hb hts in_DC tyD tyD_ok nmD hown hK hP hD hS 0 (by decide) ha1 (fs := (dsD 3 a).set 3 (.ref q1)) (by rfl) rfl 4 (by decide) (hts _ (mC _ wd_127)) (fun _ h9 => h9) rfl (ty := .int) (by decide +kernel) rfl rfl (Nat.le_of_ble_eq_true rfl) rfl d_init_D_98 (fun H locs hP hD hS => ?_)
        refine lv_aload_n hx hb d_init_D_101 rfl (lv_at hl 0 rfl) ?_
        refine ml_new (D := (dC, dI)) (ci := 3) (fs := [.null, .int 0, .int 0, .int 0]) hx hb hts in_CC tyC tyC_ok hown (hts _ (mC _ wd_87)) (hts _ (mC _ wd_88)) (hts _ (mC _ wd_4)) hK hP hD hS hA rfl (fun j hj => by rcases (show j = 0 ∨ j = 1 ∨ j = 2 ∨ j = 3 by omega) with rfl | rfl | rfl | rfl <;> rfl) (by show _ ≤ 56; omega) (by show _ ≤ 8926; omega) d_init_D_102 (fun q2 H hP hD hS => ?_)
        refine W.widen (k := 53) (n := 4700) (by omega) (by omega) ?_
        refine lv_dup hx hb d_init_D_105 rfl ?_
        obtain ⟨a2, h2⟩ : ∃ a2, a2 = va_up a1 53 q2 := ⟨_, rfl⟩
        rw [← h2] at hP hD
        have ha2 : a2 0 = h0 := by rw [h2, va_up_ne _ _ (by decide)]; exact ha1
        refine ml_callS (S := Nat) (va_runIN (As := []) (rest := [.ref q2, .ref h0]) ⟨hx, hb, hml, hown, hts⟩ (c_init_C l dC dI kc 54 a2 _ _ 53 q2 (by decide) (by rw [h2]; exact va_up_self _ _ _) [.null, .int 0, .int 0, .int 0] (va_up_self _ _ _) rfl) ⟨va_cnB 0 hts (gd_I mC wd_91) rfl rfl rfl hxt.2.2.1 (hts _ (mC _ wd_4)) hi_init_C ⟨Nat.le_of_ble_eq_true rfl, Nat.le_of_ble_eq_true rfl⟩, rfl, hts _ (mC _ wd_90)⟩ ⟨ml_blind, ml_pre hP hK hD⟩ rfl rfl hl.1 rfl (lv_room (Nat.le_of_ble_eq_true rfl)) d_init_D_106 ⟨Nat.le_of_ble_eq_true rfl, Nat.le_of_ble_eq_true rfl⟩) hD hS hA (fun q3 H locs hP hD hS => ?_)
        refine W.widen (k := 54) (n := 4828) (by omega) (by omega) ?_
        obtain ⟨a3, h3⟩ : ∃ a3, a3 = va_up a2 54 q3 := ⟨_, rfl⟩
        rw [← h3] at hP hD
        have ha3 : a3 0 = h0 := by rw [h3, va_up_ne _ _ (by decide)]; exact ha2
        refine ml_putFx (D := (dC, dI)) hx hb hts in_DC tyD tyD_ok nmD hown hK hP hD hS 0 (by decide) ha3 (fs := ((dsD 3 a).set 3 (.ref q1)).set 4 (.int 0)) (by rfl) rfl 5 (by decide) (hts _ (mC _ wd_128)) (fun _ h9 => h9) rfl hin rfl (ty := (.object "HandleDesk$Console")) (by decide +kernel) rfl rfl (Nat.le_of_ble_eq_true rfl) rfl d_init_D_109 (fun H locs hP hD hS => ?_)
        refine lv_aload_n hx hb d_init_D_112 rfl (lv_at hl 0 rfl) ?_
        refine ml_new (D := (dC, dI)) (ci := 4) (fs := [.null, .int 0]) hx hb hts in_SC tyS tyS_ok hown (hts _ (mC _ wd_109)) (hts _ (mC _ wd_110)) (hts _ (mC _ wd_5)) hK hP hD hS hA rfl (fun j hj => by rcases (show j = 0 ∨ j = 1 by omega) with rfl | rfl <;> rfl) (by show _ ≤ 56; omega) (by show _ ≤ 8926; omega) d_init_D_113 (fun q4 H hP hD hS => ?_)
        refine W.widen (k := 55) (n := 4830) (by omega) (by omega) ?_
        refine lv_dup hx hb d_init_D_116 rfl ?_
        obtain ⟨a4, h4⟩ : ∃ a4, a4 = va_up a3 55 q4 := ⟨_, rfl⟩
        rw [← h4] at hP hD
        have ha4 : a4 0 = h0 := by rw [h4, va_up_ne _ _ (by decide)]; exact ha3
        refine ml_callS (S := Nat) (va_runIN (As := []) (rest := [.ref q4, .ref h0]) ⟨hx, hb, hml, hown, hts⟩ (c_init_S l dC dI kc 56 a4 _ _ 55 q4 (by decide) (by rw [h4]; exact va_up_self _ _ _) [.null, .int 0] (va_up_self _ _ _) rfl) ⟨va_cnB 0 hts (gd_I mC wd_113) rfl rfl rfl hxt.2.2.2 (hts _ (mC _ wd_5)) hi_init_S ⟨Nat.le_of_ble_eq_true rfl, Nat.le_of_ble_eq_true rfl⟩, rfl, hts _ (mC _ wd_112)⟩ ⟨ml_blind, ml_pre hP hK hD⟩ rfl rfl hl.1 rfl (lv_room (Nat.le_of_ble_eq_true rfl)) d_init_D_117 ⟨Nat.le_of_ble_eq_true rfl, Nat.le_of_ble_eq_true rfl⟩) hD hS hA (fun q5 H locs hP hD hS => ?_)
        refine W.widen (k := 56) (n := 8926) (by omega) (by omega) ?_
        obtain ⟨a5, h5⟩ : ∃ a5, a5 = va_up a4 56 q5 := ⟨_, rfl⟩
        rw [← h5] at hP hD
        have ha5 : a5 0 = h0 := by rw [h5, va_up_ne _ _ (by decide)]; exact ha4
        refine ml_putFx (D := (dC, dI)) hx hb hts in_DC tyD tyD_ok nmD hown hK hP hD hS 0 (by decide) ha5 (fs := (((dsD 3 a).set 3 (.ref q1)).set 4 (.int 0)).set 5 (.ref q2)) (by rfl) rfl 6 (by decide) (hts _ (mC _ wd_129)) (fun _ h9 => h9) rfl hin rfl (ty := (.object "HandleDesk$Screen")) (by decide +kernel) rfl rfl (Nat.le_of_ble_eq_true rfl) rfl d_init_D_120 (fun H locs hP hD hS => ?_)
        rw [← cg_4 h1 h2 h3 h4 h5] at hP hD
        have e1 : va_up a5 0 h0 = a5 := by
          funext k
          by_cases e : k = 0
          · rw [e, va_up_self, ha5]
          · rw [va_up_ne _ _ e]
        exact ml_vretS (S := Nat → Nat) (a2 := fun u => va_up u 0 h0) (f2 := fun u => dcell kc (va_up u 0 h0) d00) a5 hx hb hr hlocks (by rw [e1]; exact hP) hK (by rw [e1]; exact hD) hS d_init_D_123
      · have hi8 := lp_adv (b := (8 : Int32)) (B := 8) rfl (by decide) hi hc
        refine lv_aload_n hx hb d_init_D_68 rfl (lv_at hl 0 rfl) ?_
        refine ml_getx (D := (dC, dI)) hx hb hts in_DC hown hK hP 0 (by omega) ha (fs := dsD 3 a) rfl rfl 2 (by decide) (hts _ (mC _ wd_125)) (fun _ h9 => h9) (v := .ref (a 35)) rfl d_init_D_69 ?_
        refine lv_iload_n hx hb d_init_D_72 rfl (lv_at hl 1 rfl) ?_
        refine ml_new (D := (dC, dI)) (ci := 2) (fs := [.int 0, .null, .int 0, .int 0, .int 0, .int 0]) hx hb hts in_PC tyP tyP_ok hown (hts _ (mC _ wd_56)) (hts _ (mC _ wd_58)) (hts _ (mC _ wd_3)) hK hP hD hS hA rfl (fun j hj => by rcases (show j = 0 ∨ j = 1 ∨ j = 2 ∨ j = 3 ∨ j = 4 ∨ j = 5 by omega) with rfl | rfl | rfl | rfl | rfl | rfl <;> rfl) (by show _ ≤ 56; omega) (by show _ ≤ 8926; omega) d_init_D_73 (fun q H hP hD hS => ?_)
        refine W.widen (k := 35 + 2 * i + 1) (n := 536 + 518 * i + 6) (by omega) (by omega) ?_
        refine lv_dup hx hb d_init_D_76 rfl ?_
        refine lv_iload_n hx hb d_init_D_77 rfl (lv_at hl 1 rfl) ?_
        obtain ⟨a1, h1⟩ : ∃ a1, a1 = va_up a (36 + 2 * i) q := ⟨_, rfl⟩
        rw [← h1] at hP hD
        refine ml_callS (S := Nat) (va_runI (As := [.int (nI i)]) (rest := [.ref q, .int (nI i), .ref (a 35)]) ⟨hx, hb, hml, hown, hts⟩ (c_init_P l dC dI kc (36 + 2 * i + 1) a1 _ _ (36 + 2 * i) q (by omega) (by rw [h1]; exact va_up_self _ _ _) [.int 0, .null, .int 0, .int 0, .int 0, .int 0] (va_up_self _ _ _) rfl (nI i)) (cwI 1 hts (gd_I mC wd_61) rfl rfl rfl (hts _ (mC _ wd_3)) (hts _ (mC _ wd_59)) (hts _ (mC _ wd_60)) rfl hi_init_P ⟨Nat.le_of_ble_eq_true rfl, Nat.le_of_ble_eq_true rfl⟩) ⟨ml_blind, ml_pre hP hK hD⟩ rfl rfl hl.1 rfl (lv_room (Nat.le_of_ble_eq_true rfl)) d_init_D_78 ⟨by show _ ≤ 56; omega, by show _ ≤ 8926; omega⟩) hD hS hA (fun q2 H locs hP hD hS => ?_)
        refine W.widen (k := 35 + 2 * (i + 1)) (n := 536 + 518 * (i + 1)) (by omega) (by omega) ?_
        obtain ⟨a2, h2⟩ : ∃ a2, a2 = va_up a1 (36 + 2 * i + 1) q2 := ⟨_, rfl⟩
        rw [← h2] at hP hD
        have e35 : a2 35 = a 35 := by rw [h2, va_up_ne _ _ (by omega), h1, va_up_ne _ _ (by omega)]
        have eq : a2 (36 + 2 * i) = q := by rw [h2, va_up_ne _ _ (by omega), h1, va_up_self]
        refine ml_astqx (r := ("HandleDesk$Pipe", TP, 6)) hx hb hK hP hD hS 35 3 (36 + 2 * i) 2 (by omega) e35 (by rw [va_up_ne _ _ (by omega), va_up_ne _ _ (by omega), va_up_ne _ _ (by omega)]; exact gp_35) rfl (by omega) eq (va_up_self _ _ _) rfl (vp_in_nI hi8 (by decide)) d_init_D_81 (fun H locs hP hD hS => ?_)
        rw [nI_clamp (by omega), ← cg_3 (by omega) h1 h2] at hP hD
        refine lv_iinc (v := nI (i + 1)) (lv' := [(1, .int (nI (i + 1))), (0, .ref h0)]) hx hb d_init_D_82 hl (k := 1) rfl (nI_1 i) (by decide) rfl (fun ls hl => ?_)
        refine lv_goto (tgt := 62) hx hb d_init_D_85 (by decide) ?_
        exact ih (i + 1) a2 _ _ ls hi8 (by omega) (by rw [h2, va_up_ne _ _ (by omega), h1, va_up_ne _ _ (by omega)]; exact ha) hP hD hS (lv_sub hl [1, 0] rfl)
  have loop1 : ∀ (n i : Nat) (a : Nat → Nat) (H : Heap) (locs : List Loc) (ls : Array Slot), i ≤ 32 → i + n = 33 → a 0 = h0 → va_P (dC, dI) vwCl (ml (3 + i) a (gp kc a (dsD 2 a) i 0)) H → va_D A (ml (3 + i) a (gp kc a (dsD 2 a) i 0)) → va_S A s.heap H locs → lv_has ls 2 [(0, .ref h0), (1, .int (nI i))] → W p l e rm_init_D s m ([.ref h0] : List Value).toArray below meth c H locs (2 + i) (272 + 8 * i) (MQ below (va_Qv (fun (_ : Nat → Nat) => True) (fun u t => ml_E (dC, dI) vwCl (tysD kc) 57 (va_up u 0 h0) (dcell kc (va_up u 0 h0) d00) A t) A) ([.ref h0] : List Value).toArray s 56 8926 A) (F0 m 25 ls []) := by
    intro n
    induction n with
    | zero =>
      intro i a H locs ls hi hn
      exact absurd hn (by omega)
    | succ n ih =>
      intro i a H locs ls hi hn ha hP hD hS hl
      refine lv_iload_n hx hb d_init_D_25 rfl (lv_at hl 1 rfl) ?_
      refine lv_bipush (v := 32) hx hb d_init_D_26 (by decide) ?_
      refine lv_icmp_ge (tgt := 51) hx hb d_init_D_28 (by decide) (fun hc => ?_) (fun hc => ?_)
      · have hi32 : i = 32 := by have := (le_lit (B := 32) rfl (by decide) (by omega)).mp hc; omega
        subst hi32
        have hP : va_P (dC, dI) vwCl (ml 35 a (gp kc a (dsD 2 a) 32 0)) H := hP
        have hD : va_D A (ml 35 a (gp kc a (dsD 2 a) 32 0)) := hD
        refine lv_aload_n hx hb d_init_D_51 rfl (lv_at hl 0 rfl) ?_
        refine lv_bipush (v := 8) hx hb d_init_D_52 (by decide) ?_
        refine ml_newq hx hb hown (hts _ (mC _ wd_56)) hxt.2.1 hK hP hD hS hA (by decide) (N' := 8) (by decide) (by decide) (Nat.le_of_ble_eq_true rfl) (Nat.le_of_ble_eq_true rfl) d_init_D_54 (kc 3) kc_p (fun q H hP hD hS => ?_)
        refine W.widen (k := 35) (n := 536) (by omega) (by omega) ?_
        obtain ⟨a1, h1⟩ : ∃ a1, a1 = va_up a 35 q := ⟨_, rfl⟩
        rw [← h1] at hP hD
        have ha1 : a1 0 = h0 := by rw [h1, va_up_ne _ _ (by decide)]; exact ha
        refine ml_putFx (D := (dC, dI)) hx hb hts in_DC tyD tyD_ok nmD hown hK hP hD hS 0 (by decide) ha1 (fs := dsD 2 a) (by rfl) rfl 2 (by decide) (hts _ (mC _ wd_125)) (fun _ h9 => h9) rfl hin rfl (ty := (.array (.object "HandleDesk$Pipe"))) (by decide +kernel) rfl rfl (Nat.le_of_ble_eq_true rfl) rfl d_init_D_57 (fun H locs hP hD hS => ?_)
        rw [← cg_2 h1] at hP hD
        refine lv_iconst (v := 0) hx hb d_init_D_60 (by decide) ?_
        refine lv_istore_n (lv' := [(1, .int 0), (0, .ref h0)]) hx hb d_init_D_61 rfl hl (by decide) rfl (fun ls hl => ?_)
        exact loop2 9 0 a1 _ _ ls (by decide) (by decide) ha1 hP hD hS (lv_sub hl [1, 0] rfl)
      · have hi32 := lp_adv (b := (32 : Int32)) (B := 32) rfl (by decide) hi hc
        refine lv_aload_n hx hb d_init_D_31 rfl (lv_at hl 0 rfl) ?_
        refine ml_getx (D := (dC, dI)) hx hb hts in_DC hown hK hP 0 (by omega) ha (fs := dsD 2 a) rfl rfl 1 (by decide) (hts _ (mC _ wd_124)) (fun _ h9 => h9) (v := .ref (a 2)) rfl d_init_D_32 ?_
        refine lv_iload_n hx hb d_init_D_35 rfl (lv_at hl 1 rfl) ?_
        refine ml_new (D := (dC, dI)) (ci := 1) (fs := [.int 0, .int 0, .int 0, .null, .int 0, .int 0, .int 0, .int 0]) hx hb hts in_FC tyF tyF_ok hown (hts _ (mC _ wd_16)) (hts _ (mC _ wd_18)) (hts _ (mC _ wd_2)) hK hP hD hS hA rfl (fun j hj => by rcases (show j = 0 ∨ j = 1 ∨ j = 2 ∨ j = 3 ∨ j = 4 ∨ j = 5 ∨ j = 6 ∨ j = 7 by omega) with rfl | rfl | rfl | rfl | rfl | rfl | rfl | rfl <;> rfl) (by show _ ≤ 56; omega) (by show _ ≤ 8926; omega) d_init_D_36 (fun q H hP hD hS => ?_)
        refine W.widen (k := 2 + i + 1) (n := 272 + 8 * i + 8) (by omega) (by omega) ?_
        refine lv_dup hx hb d_init_D_39 rfl ?_
        refine lv_iload_n hx hb d_init_D_40 rfl (lv_at hl 1 rfl) ?_
        obtain ⟨a1, h1⟩ : ∃ a1, a1 = va_up a (3 + i) q := ⟨_, rfl⟩
        rw [← h1] at hP hD
        refine ml_callv (va_runI (As := [.int (nI i)]) (rest := [.ref q, .int (nI i), .ref (a 2)]) ⟨hx, hb, hml, hown, hts⟩ (c_init_F l dC dI kc (3 + i + 1) a1 _ _ (3 + i) q (by omega) (by rw [h1]; exact va_up_self _ _ _) [.int 0, .int 0, .int 0, .null, .int 0, .int 0, .int 0, .int 0] (va_up_self _ _ _) rfl (nI i)) (cwI 1 hts (gd_I mC wd_21) rfl rfl rfl (hts _ (mC _ wd_2)) (hts _ (mC _ wd_19)) (hts _ (mC _ wd_20)) rfl hi_init_F ⟨Nat.le_of_ble_eq_true rfl, Nat.le_of_ble_eq_true rfl⟩) ⟨ml_blind, ml_pre hP hK hD⟩ rfl rfl hl.1 rfl (lv_room (Nat.le_of_ble_eq_true rfl)) d_init_D_41 ⟨by show _ ≤ 56; omega, by show _ ≤ 8926; omega⟩) hD hS hA (fun H locs hP hD hS => ?_)
        refine W.widen (k := 2 + (i + 1)) (n := 272 + 8 * (i + 1)) (by omega) (by omega) ?_
        have e2 : a1 2 = a 2 := by rw [h1, va_up_ne _ _ (by omega)]
        have eq : a1 (3 + i) = q := by rw [h1, va_up_self]
        refine ml_astqx (r := ("HandleDesk$OpenFile", TF, 8)) hx hb hK hP hD hS 2 2 (3 + i) 1 (by omega) e2 (by rw [va_up_ne _ _ (by omega), va_up_ne _ _ (by omega)]; exact gp_2) rfl (by omega) eq (va_up_self _ _ _) rfl (vp_in_nI hi32 (by decide)) d_init_D_44 (fun H locs hP hD hS => ?_)
        rw [nI_clamp (by omega), ← cg_1 (by omega) h1] at hP hD
        refine lv_iinc (v := nI (i + 1)) (lv' := [(1, .int (nI (i + 1))), (0, .ref h0)]) hx hb d_init_D_45 hl (k := 1) rfl (nI_1 i) (by decide) rfl (fun ls hl => ?_)
        refine lv_goto (tgt := 25) hx hb d_init_D_48 (by decide) ?_
        exact ih (i + 1) a1 _ _ ls hi32 (by omega) (by rw [h1, va_up_ne _ _ (by omega)]; exact ha) hP hD hS (lv_sub hl [1, 0] rfl)
  have hl := lv_entry ([.ref h0]) (n := 2) (Nat.le_of_ble_eq_true rfl)
  rw [lg_entry_eq]
  generalize (lg_sl ([.ref h0]) ++ List.replicate (2 - (lg_sl ([.ref h0])).length) Slot.unset).toArray = ls at hl ⊢
  have hl : lv_has ls 2 [(0, .ref h0)] := hl
  refine lv_aload_n hx hb d_init_D_0 rfl (lv_at hl 0 rfl) ?_
  refine W.objInit hx hb hown (hts _ (mC _ wd_13)) (hts _ (mC _ wd_14)) (hts _ (mC _ wd_15)) rfl (by rw [hml]; exact hl.1) rfl d_init_D_1 (Nat.le_of_ble_eq_true rfl) (Nat.le_of_ble_eq_true rfl) ?_
  refine W.eq (g2 := F0 m 4 ls []) rfl ?_
  refine lv_aload_n hx hb d_init_D_4 rfl (lv_at hl 0 rfl) ?_
  refine lv_sipush (v := 240) hx hb d_init_D_5 (by decide) ?_
  refine ml_newq hx hb hown (hts _ (mC _ wd_16)) hxt.1 hK hP hD hS hA (by decide) (N' := 240) (by decide) (by decide) (Nat.le_of_ble_eq_true rfl) (Nat.le_of_ble_eq_true rfl) d_init_D_8 (kc 2) kc_f (fun q H hP hD hS => ?_)
  refine W.widen (k := 1) (n := 240) (by omega) (by omega) ?_
  obtain ⟨a1, h1⟩ : ∃ a1, a1 = va_up a 1 q := ⟨_, rfl⟩
  rw [← h1] at hP hD
  have ha1 : a1 0 = h0 := by rw [h1, va_up_ne _ _ (by decide)]; exact ha
  refine ml_putFx (D := (dC, dI)) hx hb hts in_DC tyD tyD_ok nmD hown hK hP hD hS 0 (by decide) ha1 (fs := dsD 0 a) (by rfl) rfl 0 (by decide) (hts _ (mC _ wd_123)) (fun _ h9 => h9) rfl hin rfl (ty := (.array (.object "HandleDesk$OpenFile"))) (by decide +kernel) rfl rfl (Nat.le_of_ble_eq_true rfl) rfl d_init_D_11 (fun H locs hP hD hS => ?_)
  refine lv_aload_n hx hb d_init_D_14 rfl (lv_at hl 0 rfl) ?_
  refine lv_bipush (v := 32) hx hb d_init_D_15 (by decide) ?_
  refine ml_newq hx hb hown (hts _ (mC _ wd_16)) hxt.1 hK hP hD hS hA (by decide) (N' := 32) (by decide) (by decide) (Nat.le_of_ble_eq_true rfl) (Nat.le_of_ble_eq_true rfl) d_init_D_17 (kc 2) kc_f (fun q2 H hP hD hS => ?_)
  refine W.widen (k := 2) (n := 272) (by omega) (by omega) ?_
  obtain ⟨a2, h2⟩ : ∃ a2, a2 = va_up a1 2 q2 := ⟨_, rfl⟩
  rw [← h2] at hP hD
  have ha2 : a2 0 = h0 := by rw [h2, va_up_ne _ _ (by decide)]; exact ha1
  refine ml_putFx (D := (dC, dI)) hx hb hts in_DC tyD tyD_ok nmD hown hK hP hD hS 0 (by decide) ha2 (fs := (dsD 0 a).set 0 (.ref q)) (by rfl) rfl 1 (by decide) (hts _ (mC _ wd_124)) (fun _ h9 => h9) rfl hin rfl (ty := (.array (.object "HandleDesk$OpenFile"))) (by decide +kernel) rfl rfl (Nat.le_of_ble_eq_true rfl) rfl d_init_D_20 (fun H locs hP hD hS => ?_)
  have hcg : ml 3 a2 (gp kc a2 (dsD 2 a2) 0 0) = ml 3 a2 (va_up (va_up (va_up (va_up (gp kc a (dsD 0 a) 0 0) 1 (.inl (kc 2, 240, .inr (.inr (.inr (.inr (fun _ => none))))))) 0 (.inr (0, (dsD 0 a).set 0 (.ref q)))) 2 (.inl (kc 2, 32, .inr (.inr (.inr (.inr (fun _ => none))))))) 0 (.inr (0, ((dsD 0 a).set 0 (.ref q)).set 1 (.ref q2)))) := by
    subst h1
    subst h2
    exact ml_congr (fun _ _ => rfl) (fun k hk => match k, hk with | 0, _ => rfl | 1, _ => rfl | 2, _ => by rw [gp_2]; simp [va_up] | k + 3, h => absurd h (by omega))
  rw [← hcg] at hP hD
  refine lv_iconst (v := 0) hx hb d_init_D_23 (by decide) ?_
  refine lv_istore_n (lv' := [(1, .int 0), (0, .ref h0)]) hx hb d_init_D_24 rfl hl (by decide) rfl (fun ls hl => ?_)
  exact loop1 33 0 a2 _ _ ls (by decide) (by decide) ha2 hP hD hS (lv_sub hl [1, 0] rfl)
