/-! The model's constructor. -/
def m00 : MK := fun _ _ => 0
def dsM (t : Nat) (b : Nat → Nat) : List Value := [.int 0, (if 0 < t then .ref (b 1) else .null), (if 1 < t then .ref (b 2) else .null), (if 2 < t then .ref (b 3) else .null), (if 3 < t then .ref (b 4) else .null), (if 4 < t then .ref (b 5) else .null), (if 5 < t then .ref (b 6) else .null), (if 6 < t then .ref (b 7) else .null), .int 0, (if 7 < t then .ref (b 8) else .null), .int 0, .int 0, (if 8 < t then .ref (b 9) else .null), .int 0, (if 9 < t then .ref (b 10) else .null)]
def gm (kc : Nat → ClassId) (t : Nat) (b : Nat → Nat) (k : Nat) : va_E := if k = 0 then .inr (5, dsM t b) else mcell kc b m00 k
abbrev rm_init_M : Room := { frames := 1, cells := 10, slots := 8712, locals := 24 }
set_option maxHeartbeats 4000000 in
set_option maxRecDepth 100000 in
theorem c_init_M (l : Launch) (dC : Nat → ClassId) (dI : Nat → Nat → Nat) (kc : Nat → ClassId) (sz h0 : Nat) (a : Nat → Nat) (ha : a 0 = h0) : Met l y_init_M ws_init_M rm_init_M (va_Pc [.ref h0] (ml_B (dC, dI) vwCl (tysD kc) 1 a (gm kc 0 a) sz)) (va_Qv (fun (_ : Nat → Nat) => True) (fun u t => ml_E (dC, dI) vwCl (tysD kc) 11 (va_up u 0 h0) (mcell kc (va_up u 0 h0) m00) (va_A (ml 1 a (gm kc 0 a)) sz) t) (va_A (ml 1 a (gm kc 0 a)) sz)) 10 8712 (va_A (ml 1 a (gm kc 0 a)) sz) := by
  refine Met.ofW (cc := prog_7_method_1_code) (maxL := 1) (ret := (none : Option Jvm.ClassFile.FieldType)) (by decide) rfl ?_
  intro p e s m args below meth c s₁ B hml hv
  obtain ⟨rfl, hsz, hP, hK, hD0⟩ := hv
  have hx := B.exec
  have hb := B.bytes
  have hr := B.returns
  have hts := atoms_spec (ws := ws_init_M) B.pre
  have hown : s.vm.findClass "HandleDeskModel" = some m.cls := findClass_of_methodNamed B.named
  have hlocks := B.notSynchronized
  have hin : meth.name = "<init>" := (name_of_methodNamed B.named B.method).1
  subst hsz
  have hD := hD0.self (sz := s.heap.size)
  generalize hAe : va_A (ml 1 a (gm kc 0 a)) s.heap.size = A at hD ⊢
  have hA : ∀ q : Nat, s.heap.size ≤ q → A q := fun q h => by rw [← hAe]; exact Or.inr h
  have hS : va_S A s.heap s.heap [] := va_S.rf
  have hl := lv_entry ([.ref h0]) (n := 1) (Nat.le_of_ble_eq_true rfl)
  rw [lg_entry_eq]
  generalize (lg_sl ([.ref h0]) ++ List.replicate (1 - (lg_sl ([.ref h0])).length) Slot.unset).toArray = ls at hl ⊢
  have hl : lv_has ls 1 [(0, .ref h0)] := hl
  clear hAe
  refine lv_aload_n hx hb d_init_M_0 rfl (lv_at hl 0 rfl) ?_
  refine W.objInit hx hb hown (hts _ (mC _ wd_340)) (hts _ (mC _ wd_14)) (hts _ (mC _ wd_15)) rfl (by rw [hml]; exact hl.1) rfl d_init_M_1 (Nat.le_of_ble_eq_true rfl) (Nat.le_of_ble_eq_true rfl) ?_
  refine W.eq (g2 := F0 m 4 ls []) rfl ?_
  refine lv_aload_n hx hb d_init_M_4 rfl (lv_at hl 0 rfl) ?_
  refine lv_sipush (v := 240) hx hb d_init_M_5 (by decide) ?_
  refine ml_newa (atype := .int) hx hb (hts _ (mC _ wd_108)) rfl hK hP hD hS hA (a0 := (240, .inl (fun _ => 0))) (fun _ => rfl) (by decide) (N' := 240) (by decide) (by decide) (Nat.le_of_ble_eq_true rfl) (Nat.le_of_ble_eq_true rfl) d_init_M_8 (kc 0) kc_i (fun q H hP hD hS => ?_)
  refine W.widen (k := 1) (n := 240) (by omega) (by omega) ?_
  have ex : va_up a 1 q 0 = h0 := by rw [va_up_ne a q (by decide)]; exact ha
  refine ml_putFx (D := (dC, dI)) hx hb hts in_MC tyM tyM_ok nmM hown hK hP hD hS 0 (by decide) ex (fs := dsM 0 a) rfl rfl 1 (by decide) (hts _ (mC _ wd_342)) (fun _ h9 => h9) rfl hin rfl (ty := .array .int) (by decide +kernel) rfl rfl (Nat.le_of_ble_eq_true rfl) rfl d_init_M_10 (fun H locs hP hD hS => ?_)
  have hc : ml 2 (va_up a 1 q) (gm kc 1 (va_up a 1 q)) = ml 2 (va_up a 1 q) (va_up (va_up (gm kc 0 a) 1 (.inl (kc 0, 240, .inl (fun _ => 0)))) 0 (.inr (5, (dsM 0 a).set 1 (.ref q)))) := ml_congr (fun _ _ => rfl) (fun k hk => match k, hk with | 0, _ => rfl | 1, _ => rfl | k + 2, h => absurd h (by omega))
  rw [← hc] at hP hD
  clear hc
  obtain ⟨a, hP, hD, ha⟩ : ∃ a' : Nat → Nat, va_P (dC, dI) vwCl (ml 2 a' (gm kc 1 a')) H ∧ va_D A (ml 2 a' (gm kc 1 a')) ∧ a' 0 = h0 := ⟨_, hP, hD, ex⟩
  refine lv_aload_n hx hb d_init_M_13 rfl (lv_at hl 0 rfl) ?_
  refine lv_bipush (v := 32) hx hb d_init_M_14 (by decide) ?_
  refine ml_newa (atype := .int) hx hb (hts _ (mC _ wd_108)) rfl hK hP hD hS hA (a0 := (32, .inl (fun _ => 0))) (fun _ => rfl) (by decide) (N' := 32) (by decide) (by decide) (Nat.le_of_ble_eq_true rfl) (Nat.le_of_ble_eq_true rfl) d_init_M_16 (kc 0) kc_i (fun q H hP hD hS => ?_)
  refine W.widen (k := 2) (n := 272) (by omega) (by omega) ?_
  have ex : va_up a 2 q 0 = h0 := by rw [va_up_ne a q (by decide)]; exact ha
  refine ml_putFx (D := (dC, dI)) hx hb hts in_MC tyM tyM_ok nmM hown hK hP hD hS 0 (by decide) ex (fs := dsM 1 a) rfl rfl 2 (by decide) (hts _ (mC _ wd_343)) (fun _ h9 => h9) rfl hin rfl (ty := .array .int) (by decide +kernel) rfl rfl (Nat.le_of_ble_eq_true rfl) rfl d_init_M_18 (fun H locs hP hD hS => ?_)
  have hc : ml 3 (va_up a 2 q) (gm kc 2 (va_up a 2 q)) = ml 3 (va_up a 2 q) (va_up (va_up (gm kc 1 a) 2 (.inl (kc 0, 32, .inl (fun _ => 0)))) 0 (.inr (5, (dsM 1 a).set 2 (.ref q)))) := ml_congr (fun _ _ => rfl) (fun k hk => match k, hk with | 0, _ => rfl | 1, _ => rfl | 2, _ => rfl | k + 3, h => absurd h (by omega))
  rw [← hc] at hP hD
  clear hc
  obtain ⟨a, hP, hD, ha⟩ : ∃ a' : Nat → Nat, va_P (dC, dI) vwCl (ml 3 a' (gm kc 2 a')) H ∧ va_D A (ml 3 a' (gm kc 2 a')) ∧ a' 0 = h0 := ⟨_, hP, hD, ex⟩
  refine lv_aload_n hx hb d_init_M_21 rfl (lv_at hl 0 rfl) ?_
  refine lv_bipush (v := 32) hx hb d_init_M_22 (by decide) ?_
  refine ml_newa (atype := .int) hx hb (hts _ (mC _ wd_108)) rfl hK hP hD hS hA (a0 := (32, .inl (fun _ => 0))) (fun _ => rfl) (by decide) (N' := 32) (by decide) (by decide) (Nat.le_of_ble_eq_true rfl) (Nat.le_of_ble_eq_true rfl) d_init_M_24 (kc 0) kc_i (fun q H hP hD hS => ?_)
  refine W.widen (k := 3) (n := 304) (by omega) (by omega) ?_
  have ex : va_up a 3 q 0 = h0 := by rw [va_up_ne a q (by decide)]; exact ha
  refine ml_putFx (D := (dC, dI)) hx hb hts in_MC tyM tyM_ok nmM hown hK hP hD hS 0 (by decide) ex (fs := dsM 2 a) rfl rfl 3 (by decide) (hts _ (mC _ wd_344)) (fun _ h9 => h9) rfl hin rfl (ty := .array .int) (by decide +kernel) rfl rfl (Nat.le_of_ble_eq_true rfl) rfl d_init_M_26 (fun H locs hP hD hS => ?_)
  have hc : ml 4 (va_up a 3 q) (gm kc 3 (va_up a 3 q)) = ml 4 (va_up a 3 q) (va_up (va_up (gm kc 2 a) 3 (.inl (kc 0, 32, .inl (fun _ => 0)))) 0 (.inr (5, (dsM 2 a).set 3 (.ref q)))) := ml_congr (fun _ _ => rfl) (fun k hk => match k, hk with | 0, _ => rfl | 1, _ => rfl | 2, _ => rfl | 3, _ => rfl | k + 4, h => absurd h (by omega))
  rw [← hc] at hP hD
  clear hc
  obtain ⟨a, hP, hD, ha⟩ : ∃ a' : Nat → Nat, va_P (dC, dI) vwCl (ml 4 a' (gm kc 3 a')) H ∧ va_D A (ml 4 a' (gm kc 3 a')) ∧ a' 0 = h0 := ⟨_, hP, hD, ex⟩
  refine lv_aload_n hx hb d_init_M_29 rfl (lv_at hl 0 rfl) ?_
  refine lv_bipush (v := 32) hx hb d_init_M_30 (by decide) ?_
  refine ml_newa (atype := .int) hx hb (hts _ (mC _ wd_108)) rfl hK hP hD hS hA (a0 := (32, .inl (fun _ => 0))) (fun _ => rfl) (by decide) (N' := 32) (by decide) (by decide) (Nat.le_of_ble_eq_true rfl) (Nat.le_of_ble_eq_true rfl) d_init_M_32 (kc 0) kc_i (fun q H hP hD hS => ?_)
  refine W.widen (k := 4) (n := 336) (by omega) (by omega) ?_
  have ex : va_up a 4 q 0 = h0 := by rw [va_up_ne a q (by decide)]; exact ha
  refine ml_putFx (D := (dC, dI)) hx hb hts in_MC tyM tyM_ok nmM hown hK hP hD hS 0 (by decide) ex (fs := dsM 3 a) rfl rfl 4 (by decide) (hts _ (mC _ wd_345)) (fun _ h9 => h9) rfl hin rfl (ty := .array .int) (by decide +kernel) rfl rfl (Nat.le_of_ble_eq_true rfl) rfl d_init_M_34 (fun H locs hP hD hS => ?_)
  have hc : ml 5 (va_up a 4 q) (gm kc 4 (va_up a 4 q)) = ml 5 (va_up a 4 q) (va_up (va_up (gm kc 3 a) 4 (.inl (kc 0, 32, .inl (fun _ => 0)))) 0 (.inr (5, (dsM 3 a).set 4 (.ref q)))) := ml_congr (fun _ _ => rfl) (fun k hk => match k, hk with | 0, _ => rfl | 1, _ => rfl | 2, _ => rfl | 3, _ => rfl | 4, _ => rfl | k + 5, h => absurd h (by omega))
  rw [← hc] at hP hD
  clear hc
  obtain ⟨a, hP, hD, ha⟩ : ∃ a' : Nat → Nat, va_P (dC, dI) vwCl (ml 5 a' (gm kc 4 a')) H ∧ va_D A (ml 5 a' (gm kc 4 a')) ∧ a' 0 = h0 := ⟨_, hP, hD, ex⟩
  refine lv_aload_n hx hb d_init_M_37 rfl (lv_at hl 0 rfl) ?_
  refine lv_bipush (v := 32) hx hb d_init_M_38 (by decide) ?_
  refine ml_newa (atype := .int) hx hb (hts _ (mC _ wd_108)) rfl hK hP hD hS hA (a0 := (32, .inl (fun _ => 0))) (fun _ => rfl) (by decide) (N' := 32) (by decide) (by decide) (Nat.le_of_ble_eq_true rfl) (Nat.le_of_ble_eq_true rfl) d_init_M_40 (kc 0) kc_i (fun q H hP hD hS => ?_)
  refine W.widen (k := 5) (n := 368) (by omega) (by omega) ?_
  have ex : va_up a 5 q 0 = h0 := by rw [va_up_ne a q (by decide)]; exact ha
  refine ml_putFx (D := (dC, dI)) hx hb hts in_MC tyM tyM_ok nmM hown hK hP hD hS 0 (by decide) ex (fs := dsM 4 a) rfl rfl 5 (by decide) (hts _ (mC _ wd_346)) (fun _ h9 => h9) rfl hin rfl (ty := .array .int) (by decide +kernel) rfl rfl (Nat.le_of_ble_eq_true rfl) rfl d_init_M_42 (fun H locs hP hD hS => ?_)
  have hc : ml 6 (va_up a 5 q) (gm kc 5 (va_up a 5 q)) = ml 6 (va_up a 5 q) (va_up (va_up (gm kc 4 a) 5 (.inl (kc 0, 32, .inl (fun _ => 0)))) 0 (.inr (5, (dsM 4 a).set 5 (.ref q)))) := ml_congr (fun _ _ => rfl) (fun k hk => match k, hk with | 0, _ => rfl | 1, _ => rfl | 2, _ => rfl | 3, _ => rfl | 4, _ => rfl | 5, _ => rfl | k + 6, h => absurd h (by omega))
  rw [← hc] at hP hD
  clear hc
  obtain ⟨a, hP, hD, ha⟩ : ∃ a' : Nat → Nat, va_P (dC, dI) vwCl (ml 6 a' (gm kc 5 a')) H ∧ va_D A (ml 6 a' (gm kc 5 a')) ∧ a' 0 = h0 := ⟨_, hP, hD, ex⟩
  refine lv_aload_n hx hb d_init_M_45 rfl (lv_at hl 0 rfl) ?_
  refine lv_bipush (v := 8) hx hb d_init_M_46 (by decide) ?_
  refine ml_newa (atype := .int) hx hb (hts _ (mC _ wd_108)) rfl hK hP hD hS hA (a0 := (8, .inl (fun _ => 0))) (fun _ => rfl) (by decide) (N' := 8) (by decide) (by decide) (Nat.le_of_ble_eq_true rfl) (Nat.le_of_ble_eq_true rfl) d_init_M_48 (kc 0) kc_i (fun q H hP hD hS => ?_)
  refine W.widen (k := 6) (n := 376) (by omega) (by omega) ?_
  have ex : va_up a 6 q 0 = h0 := by rw [va_up_ne a q (by decide)]; exact ha
  refine ml_putFx (D := (dC, dI)) hx hb hts in_MC tyM tyM_ok nmM hown hK hP hD hS 0 (by decide) ex (fs := dsM 5 a) rfl rfl 6 (by decide) (hts _ (mC _ wd_347)) (fun _ h9 => h9) rfl hin rfl (ty := .array .int) (by decide +kernel) rfl rfl (Nat.le_of_ble_eq_true rfl) rfl d_init_M_50 (fun H locs hP hD hS => ?_)
  have hc : ml 7 (va_up a 6 q) (gm kc 6 (va_up a 6 q)) = ml 7 (va_up a 6 q) (va_up (va_up (gm kc 5 a) 6 (.inl (kc 0, 8, .inl (fun _ => 0)))) 0 (.inr (5, (dsM 5 a).set 6 (.ref q)))) := ml_congr (fun _ _ => rfl) (fun k hk => match k, hk with | 0, _ => rfl | 1, _ => rfl | 2, _ => rfl | 3, _ => rfl | 4, _ => rfl | 5, _ => rfl | 6, _ => rfl | k + 7, h => absurd h (by omega))
  rw [← hc] at hP hD
  clear hc
  obtain ⟨a, hP, hD, ha⟩ : ∃ a' : Nat → Nat, va_P (dC, dI) vwCl (ml 7 a' (gm kc 6 a')) H ∧ va_D A (ml 7 a' (gm kc 6 a')) ∧ a' 0 = h0 := ⟨_, hP, hD, ex⟩
  refine lv_aload_n hx hb d_init_M_53 rfl (lv_at hl 0 rfl) ?_
  refine lv_sipush (v := 4096) hx hb d_init_M_54 (by decide) ?_
  refine ml_newa (atype := .byte) hx hb (hts _ (mC _ wd_86)) rfl hK hP hD hS hA (a0 := (4096, .inl (fun _ => 0))) (fun _ => rfl) (by decide) (N' := 4096) (by decide) (by decide) (Nat.le_of_ble_eq_true rfl) (Nat.le_of_ble_eq_true rfl) d_init_M_57 (kc 1) kc_b (fun q H hP hD hS => ?_)
  refine W.widen (k := 7) (n := 4472) (by omega) (by omega) ?_
  have ex : va_up a 7 q 0 = h0 := by rw [va_up_ne a q (by decide)]; exact ha
  refine ml_putFx (D := (dC, dI)) hx hb hts in_MC tyM tyM_ok nmM hown hK hP hD hS 0 (by decide) ex (fs := dsM 6 a) rfl rfl 7 (by decide) (hts _ (mC _ wd_348)) (fun _ h9 => h9) rfl hin rfl (ty := .array .byte) (by decide +kernel) rfl rfl (Nat.le_of_ble_eq_true rfl) rfl d_init_M_59 (fun H locs hP hD hS => ?_)
  have hc : ml 8 (va_up a 7 q) (gm kc 7 (va_up a 7 q)) = ml 8 (va_up a 7 q) (va_up (va_up (gm kc 6 a) 7 (.inl (kc 1, 4096, .inl (fun _ => 0)))) 0 (.inr (5, (dsM 6 a).set 7 (.ref q)))) := ml_congr (fun _ _ => rfl) (fun k hk => match k, hk with | 0, _ => rfl | 1, _ => rfl | 2, _ => rfl | 3, _ => rfl | 4, _ => rfl | 5, _ => rfl | 6, _ => rfl | 7, _ => rfl | k + 8, h => absurd h (by omega))
  rw [← hc] at hP hD
  clear hc
  obtain ⟨a, hP, hD, ha⟩ : ∃ a' : Nat → Nat, va_P (dC, dI) vwCl (ml 8 a' (gm kc 7 a')) H ∧ va_D A (ml 8 a' (gm kc 7 a')) ∧ a' 0 = h0 := ⟨_, hP, hD, ex⟩
  refine lv_aload_n hx hb d_init_M_62 rfl (lv_at hl 0 rfl) ?_
  refine lv_bipush (v := 16) hx hb d_init_M_63 (by decide) ?_
  refine ml_newa (atype := .int) hx hb (hts _ (mC _ wd_108)) rfl hK hP hD hS hA (a0 := (16, .inl (fun _ => 0))) (fun _ => rfl) (by decide) (N' := 16) (by decide) (by decide) (Nat.le_of_ble_eq_true rfl) (Nat.le_of_ble_eq_true rfl) d_init_M_65 (kc 0) kc_i (fun q H hP hD hS => ?_)
  refine W.widen (k := 8) (n := 4488) (by omega) (by omega) ?_
  have ex : va_up a 8 q 0 = h0 := by rw [va_up_ne a q (by decide)]; exact ha
  refine ml_putFx (D := (dC, dI)) hx hb hts in_MC tyM tyM_ok nmM hown hK hP hD hS 0 (by decide) ex (fs := dsM 7 a) rfl rfl 9 (by decide) (hts _ (mC _ wd_350)) (fun _ h9 => h9) rfl hin rfl (ty := .array .int) (by decide +kernel) rfl rfl (Nat.le_of_ble_eq_true rfl) rfl d_init_M_67 (fun H locs hP hD hS => ?_)
  have hc : ml 9 (va_up a 8 q) (gm kc 8 (va_up a 8 q)) = ml 9 (va_up a 8 q) (va_up (va_up (gm kc 7 a) 8 (.inl (kc 0, 16, .inl (fun _ => 0)))) 0 (.inr (5, (dsM 7 a).set 9 (.ref q)))) := ml_congr (fun _ _ => rfl) (fun k hk => match k, hk with | 0, _ => rfl | 1, _ => rfl | 2, _ => rfl | 3, _ => rfl | 4, _ => rfl | 5, _ => rfl | 6, _ => rfl | 7, _ => rfl | 8, _ => rfl | k + 9, h => absurd h (by omega))
  rw [← hc] at hP hD
  clear hc
  obtain ⟨a, hP, hD, ha⟩ : ∃ a' : Nat → Nat, va_P (dC, dI) vwCl (ml 9 a' (gm kc 8 a')) H ∧ va_D A (ml 9 a' (gm kc 8 a')) ∧ a' 0 = h0 := ⟨_, hP, hD, ex⟩
  refine lv_aload_n hx hb d_init_M_70 rfl (lv_at hl 0 rfl) ?_
  refine lv_sipush (v := 128) hx hb d_init_M_71 (by decide) ?_
  refine ml_newa (atype := .int) hx hb (hts _ (mC _ wd_108)) rfl hK hP hD hS hA (a0 := (128, .inl (fun _ => 0))) (fun _ => rfl) (by decide) (N' := 128) (by decide) (by decide) (Nat.le_of_ble_eq_true rfl) (Nat.le_of_ble_eq_true rfl) d_init_M_74 (kc 0) kc_i (fun q H hP hD hS => ?_)
  refine W.widen (k := 9) (n := 4616) (by omega) (by omega) ?_
  have ex : va_up a 9 q 0 = h0 := by rw [va_up_ne a q (by decide)]; exact ha
  refine ml_putFx (D := (dC, dI)) hx hb hts in_MC tyM tyM_ok nmM hown hK hP hD hS 0 (by decide) ex (fs := dsM 8 a) rfl rfl 12 (by decide) (hts _ (mC _ wd_353)) (fun _ h9 => h9) rfl hin rfl (ty := .array .int) (by decide +kernel) rfl rfl (Nat.le_of_ble_eq_true rfl) rfl d_init_M_76 (fun H locs hP hD hS => ?_)
  have hc : ml 10 (va_up a 9 q) (gm kc 9 (va_up a 9 q)) = ml 10 (va_up a 9 q) (va_up (va_up (gm kc 8 a) 9 (.inl (kc 0, 128, .inl (fun _ => 0)))) 0 (.inr (5, (dsM 8 a).set 12 (.ref q)))) := ml_congr (fun _ _ => rfl) (fun k hk => match k, hk with | 0, _ => rfl | 1, _ => rfl | 2, _ => rfl | 3, _ => rfl | 4, _ => rfl | 5, _ => rfl | 6, _ => rfl | 7, _ => rfl | 8, _ => rfl | 9, _ => rfl | k + 10, h => absurd h (by omega))
  rw [← hc] at hP hD
  clear hc
  obtain ⟨a, hP, hD, ha⟩ : ∃ a' : Nat → Nat, va_P (dC, dI) vwCl (ml 10 a' (gm kc 9 a')) H ∧ va_D A (ml 10 a' (gm kc 9 a')) ∧ a' 0 = h0 := ⟨_, hP, hD, ex⟩
  refine lv_aload_n hx hb d_init_M_79 rfl (lv_at hl 0 rfl) ?_
  refine lv_sipush (v := 4096) hx hb d_init_M_80 (by decide) ?_
  refine ml_newa (atype := .byte) hx hb (hts _ (mC _ wd_86)) rfl hK hP hD hS hA (a0 := (4096, .inl (fun _ => 0))) (fun _ => rfl) (by decide) (N' := 4096) (by decide) (by decide) (Nat.le_of_ble_eq_true rfl) (Nat.le_of_ble_eq_true rfl) d_init_M_83 (kc 1) kc_b (fun q H hP hD hS => ?_)
  refine W.widen (k := 10) (n := 8712) (by omega) (by omega) ?_
  have ex : va_up a 10 q 0 = h0 := by rw [va_up_ne a q (by decide)]; exact ha
  refine ml_putFx (D := (dC, dI)) hx hb hts in_MC tyM tyM_ok nmM hown hK hP hD hS 0 (by decide) ex (fs := dsM 9 a) rfl rfl 14 (by decide) (hts _ (mC _ wd_355)) (fun _ h9 => h9) rfl hin rfl (ty := .array .byte) (by decide +kernel) rfl rfl (Nat.le_of_ble_eq_true rfl) rfl d_init_M_85 (fun H locs hP hD hS => ?_)
  have hc : ml 11 (va_up a 10 q) (gm kc 10 (va_up a 10 q)) = ml 11 (va_up a 10 q) (va_up (va_up (gm kc 9 a) 10 (.inl (kc 1, 4096, .inl (fun _ => 0)))) 0 (.inr (5, (dsM 9 a).set 14 (.ref q)))) := ml_congr (fun _ _ => rfl) (fun k hk => match k, hk with | 0, _ => rfl | 1, _ => rfl | 2, _ => rfl | 3, _ => rfl | 4, _ => rfl | 5, _ => rfl | 6, _ => rfl | 7, _ => rfl | 8, _ => rfl | 9, _ => rfl | 10, _ => rfl | k + 11, h => absurd h (by omega))
  rw [← hc] at hP hD
  clear hc
  obtain ⟨a, hP, hD, ha⟩ : ∃ a' : Nat → Nat, va_P (dC, dI) vwCl (ml 11 a' (gm kc 10 a')) H ∧ va_D A (ml 11 a' (gm kc 10 a')) ∧ a' 0 = h0 := ⟨_, hP, hD, ex⟩
  have e1 : va_up a 0 h0 = a := by
    funext k
    by_cases e : k = 0
    · rw [e, va_up_self, ha]
    · rw [va_up_ne _ _ e]
  have e2 : ml 11 (va_up a 0 h0) (mcell kc (va_up a 0 h0) m00) = ml 11 a (gm kc 10 a) := by
    rw [e1]
    exact ml_congr (fun _ _ => rfl) (fun k hk => match k, hk with | 0, _ => rfl | 1, _ => rfl | 2, _ => rfl | 3, _ => rfl | 4, _ => rfl | 5, _ => rfl | 6, _ => rfl | 7, _ => rfl | 8, _ => rfl | 9, _ => rfl | 10, _ => rfl | k + 11, h => absurd h (by omega))
  rw [← e2] at hP hD
  exact ml_vretS (S := Nat → Nat) (a2 := fun u => va_up u 0 h0) (f2 := fun u => mcell kc (va_up u 0 h0) m00) a hx hb hr hlocks hP hK hD hS d_init_M_88
