/-! Rows for constructors: an address by another word. -/
section CX
variable {p : Program} {l : Launch} {e : Env} {R : Room} {s : State} {m : MethodId} {args : Array Value} {below : List Frame} {meth : Method} {c : Code} {H : Heap} {locs : List Loc} {cells slots : Nat} {Q : State → Prop}
variable {cc : ByteArray} {pc : Nat} {ls : Array Slot} {rest : List Value} {D : va_G} {cl : List vw_C} {A : Nat → Prop} {tys : List (ClassId × FieldType)} {H0 : Heap} {N : Nat} {a : Nat → Nat} {f f' : Nat → va_E}
theorem ml_getx {xa : Nat} (hexec : p.tables.exec = Jvm.exec) (hb : c.code = cc) {own ref C : String} {T : u_T} {n ci index : Nat} {Ts : List Cond} (hts : ∀ w ∈ Ts, w.before args s = true) (hin : ∀ w ∈ u_ws C T n, w ∈ Ts) (hown : s.vm.findClass own = some m.cls) (hK : va_K D cl tys s) (hP : va_P D cl (ml N a f) H) (q0 : Nat) (hq : q0 < N) (hxa : a q0 = xa) {fs : List Value} (he : f q0 = .inr (ci, fs)) (hc : cl[ci]? = some (C, T, n)) (k : Nat) (hk : k < n) (hlink : (Cond.fieldLink own index ref (T k).2.1 (T k).2.2.1).before args s = true) (hsame : ∀ x, s.fieldFound? (T k).1 (T k).2.1 (T k).2.2.1 = some x → s.fieldFound? ref (T k).2.1 (T k).2.2.1 = some x) {v : Value} (hv : fs[k]? = some v) (hdg : decode cc pc = .ok (.getfield index, 3))
    (kk : W p l e R s m args below meth c H locs cells slots Q (F0 m (pc + 3) ls (v :: rest))) : W p l e R s m args below meth c H locs cells slots Q (F0 m pc ls (.ref xa :: rest)) := by
  subst hxa
  exact ml_get hexec hb hts hin hown hK hP q0 hq he hc k hk hlink hsame hv hdg kk
theorem ml_putx {xa : Nat} (hexec : p.tables.exec = Jvm.exec) (hb : c.code = cc) {own ref C : String} {T : u_T} {n ci index : Nat} {Ts : List Cond} (hts : ∀ w ∈ Ts, w.before args s = true) (hin : ∀ w ∈ u_ws C T n, w ∈ Ts) (ty0 : Nat → FieldType) (hty : ∀ k, k < n → parseFieldDescriptor (T k).2.2.1 = some (ty0 k)) (hnm : ∀ a, a < n → ∀ b, b < n → a ≠ b → (T a).2.1 ≠ (T b).2.1) (hown : s.vm.findClass own = some m.cls) (hK : va_K D cl tys s) (hP : va_P D cl (ml N a f) H) (hD : va_D A (ml N a f)) (hS0 : va_S A H0 H locs) (q0 : Nat) (hq : q0 < N) (hxa : a q0 = xa) {fs : List Value} (he : f q0 = .inr (ci, fs)) (hc : cl[ci]? = some (C, T, n)) (k : Nat) (hk : k < n) (hlink : (Cond.fieldLink own index ref (T k).2.1 (T k).2.2.1).before args s = true) (hsame : ∀ x, s.fieldFound? (T k).1 (T k).2.1 (T k).2.2.1 = some x → s.fieldFound? ref (T k).2.1 (T k).2.2.1 = some x) (hfin : (T k).2.2.2 = false) {ty : FieldType} {v : Value} (hd : parseFieldDescriptor (T k).2.2.1 = some ty) (hn : narrow ty v = v) (hfit : fits ty v = true) (hl : k < fs.length)
    (hu : f' = va_up f q0 (.inr (ci, fs.set k v))) (hdg : decode cc pc = .ok (.putfield index, 3)) (kk : ∀ (H1 : Heap) (locs1 : List Loc), va_P D cl (ml N a f') H1 → va_D A (ml N a f') → va_S A H0 H1 locs1 → W p l e R s m args below meth c H1 locs1 cells slots Q (F0 m (pc + 3) ls rest)) : W p l e R s m args below meth c H locs cells slots Q (F0 m pc ls (v :: .ref xa :: rest)) := by
  subst hxa
  exact ml_put hexec hb hts hin ty0 hty hnm hown hK hP hD hS0 q0 hq he hc k hk hlink hsame hfin hd hn hfit hl hu hdg kk
theorem ml_putFx {xa : Nat} (hexec : p.tables.exec = Jvm.exec) (hb : c.code = cc) {own ref C : String} {T : u_T} {n ci index : Nat} {Ts : List Cond} (hts : ∀ w ∈ Ts, w.before args s = true) (hin : ∀ w ∈ u_ws C T n, w ∈ Ts) (ty0 : Nat → FieldType) (hty : ∀ k, k < n → parseFieldDescriptor (T k).2.2.1 = some (ty0 k)) (hnm : ∀ a, a < n → ∀ b, b < n → a ≠ b → (T a).2.1 ≠ (T b).2.1) (hown : s.vm.findClass own = some m.cls) (hK : va_K D cl tys s) (hP : va_P D cl (ml N a f) H) (hD : va_D A (ml N a f)) (hS0 : va_S A H0 H locs) (q0 : Nat) (hq : q0 < N) (hxa : a q0 = xa) {fs : List Value} (he : f q0 = .inr (ci, fs)) (hc : cl[ci]? = some (C, T, n)) (k : Nat) (hk : k < n) (hlink : (Cond.fieldLink own index ref (T k).2.1 (T k).2.2.1).before args s = true) (hsame : ∀ x, s.fieldFound? (T k).1 (T k).2.1 (T k).2.2.1 = some x → s.fieldFound? ref (T k).2.1 (T k).2.2.1 = some x) (hfin : (T k).2.2.2 = true) (hin2 : meth.name = "<init>") (hdecl : (T k).1 = own) {ty : FieldType} {v : Value} (hd : parseFieldDescriptor (T k).2.2.1 = some ty) (hn : narrow ty v = v) (hfit : fits ty v = true) (hl : k < fs.length)
    (hu : f' = va_up f q0 (.inr (ci, fs.set k v))) (hdg : decode cc pc = .ok (.putfield index, 3)) (kk : ∀ (H1 : Heap) (locs1 : List Loc), va_P D cl (ml N a f') H1 → va_D A (ml N a f') → va_S A H0 H1 locs1 → W p l e R s m args below meth c H1 locs1 cells slots Q (F0 m (pc + 3) ls rest)) : W p l e R s m args below meth c H locs cells slots Q (F0 m pc ls (v :: .ref xa :: rest)) := by
  subst hxa
  exact ml_putF hexec hb hts hin ty0 hty hnm hown hK hP hD hS0 q0 hq he hc k hk hlink hsame hfin hin2 hdecl hd hn hfit hl hu hdg kk
end CX
theorem kc_b {D : va_G} {kc : Nat → ClassId} {s : State} (cA : ClassId) (h : va_K D vwCl (tysD kc ++ [(cA, .byte)]) s) : cA = kc 1 := by
  have h1 : s.vm.findClass ("[" ++ (FieldType.byte).toString) = some (kc 1) := (h.2 1 (kc 1, .byte) rfl).2
  have h2 : s.vm.findClass ("[" ++ (FieldType.byte).toString) = some cA := (h.2 4 (cA, .byte) rfl).2
  exact Option.some.inj (h2.symm.trans h1)
theorem kc_i {D : va_G} {kc : Nat → ClassId} {s : State} (cA : ClassId) (h : va_K D vwCl (tysD kc ++ [(cA, .int)]) s) : cA = kc 0 := by
  have h1 : s.vm.findClass ("[" ++ (FieldType.int).toString) = some (kc 0) := (h.2 0 (kc 0, .int) rfl).2
  have h2 : s.vm.findClass ("[" ++ (FieldType.int).toString) = some cA := (h.2 4 (cA, .int) rfl).2
  exact Option.some.inj (h2.symm.trans h1)
theorem kc_f {D : va_G} {kc : Nat → ClassId} {s : State} (cA : ClassId) (h : va_K D vwCl (tysD kc ++ [(cA, .object "HandleDesk$OpenFile")]) s) : cA = kc 2 := by
  obtain ⟨_, _, _, _, _, h1⟩ := (h.2 2 (kc 2, .object "HandleDesk$OpenFile") rfl).2
  obtain ⟨_, _, _, _, _, h2⟩ := (h.2 4 (cA, .object "HandleDesk$OpenFile") rfl).2
  exact Option.some.inj (h2.symm.trans h1)
theorem kc_p {D : va_G} {kc : Nat → ClassId} {s : State} (cA : ClassId) (h : va_K D vwCl (tysD kc ++ [(cA, .object "HandleDesk$Pipe")]) s) : cA = kc 3 := by
  obtain ⟨_, _, _, _, _, h1⟩ := (h.2 3 (kc 3, .object "HandleDesk$Pipe") rfl).2
  obtain ⟨_, _, _, _, _, h2⟩ := (h.2 4 (cA, .object "HandleDesk$Pipe") rfl).2
  exact Option.some.inj (h2.symm.trans h1)
abbrev rm_init_F : Room := { frames := 1, cells := 0, slots := 0, locals := 24 }
set_option maxHeartbeats 4000000 in
set_option maxRecDepth 100000 in
theorem c_init_F (l : Launch) (dC : Nat → ClassId) (dI : Nat → Nat → Nat) (kc : Nat → ClassId) (N : Nat) (a : Nat → Nat) (f : Nat → va_E) (sz q0 xa : Nat) (hq : q0 < N) (hxa : a q0 = xa) (fs : List Value) (he : f q0 = .inr (1, fs)) (hlen : fs.length = 8) (v : Int32) : Met l y_init_F ws_init_F rm_init_F (va_Pc [.ref xa, .int v] (ml_B (dC, dI) vwCl (tysD kc) N a f sz)) (va_Qv (fun (_ : Unit) => True) (fun _ t => ml_E (dC, dI) vwCl (tysD kc) N a (va_up f q0 (.inr (1, fs.set 0 (.int v)))) (va_A (ml N a f) sz) t) (va_A (ml N a f) sz)) 0 0 (va_A (ml N a f) sz) := by
  refine Met.ofW (cc := prog_3_method_1_code) (maxL := 2) (ret := (none : Option Jvm.ClassFile.FieldType)) (by decide) rfl ?_
  intro p e s m args below meth c s₁ B hml hv
  obtain ⟨rfl, hsz, hP, hK, hD0⟩ := hv
  have hx := B.exec
  have hb := B.bytes
  have hr := B.returns
  have hts := atoms_spec (ws := ws_init_F) B.pre
  have hown : s.vm.findClass "HandleDesk$OpenFile" = some m.cls := findClass_of_methodNamed B.named
  have hlocks := B.notSynchronized
  have hin : meth.name = "<init>" := (name_of_methodNamed B.named B.method).1
  subst hsz
  have hD := hD0.self (sz := s.heap.size)
  generalize hAe : va_A (ml N a f) s.heap.size = A at hD ⊢
  have hA : ∀ q : Nat, s.heap.size ≤ q → A q := fun q h => by rw [← hAe]; exact Or.inr h
  have hS : va_S A s.heap s.heap [] := va_S.rf
  have hl := lv_entry ([.ref xa, .int v]) (n := 2) (Nat.le_of_ble_eq_true rfl)
  rw [lg_entry_eq]
  generalize (lg_sl ([.ref xa, .int v]) ++ List.replicate (2 - (lg_sl ([.ref xa, .int v])).length) Slot.unset).toArray = ls at hl ⊢
  have hl : lv_has ls 2 [(0, .ref xa), (1, .int v)] := hl
  refine lv_aload_n hx hb d_init_F_0 rfl (lv_at hl 0 rfl) ?_
  refine W.objInit hx hb hown (hts _ (mC _ wd_22)) (hts _ (mC _ wd_14)) (hts _ (mC _ wd_15)) rfl (by rw [hml]; exact hl.1) rfl d_init_F_1 (Nat.le_of_ble_eq_true rfl) (Nat.le_of_ble_eq_true rfl) ?_
  refine W.eq (g2 := F0 m 4 ls []) rfl ?_
  refine lv_aload_n hx hb d_init_F_4 rfl (lv_at hl 0 rfl) ?_
  refine lv_iload_n hx hb d_init_F_5 rfl (lv_at hl 1 rfl) ?_
  refine ml_putFx (D := (dC, dI)) hx hb hts in_FC tyF tyF_ok nmF hown hK hP hD hS q0 hq hxa he rfl 0 (by decide) (hts _ (mC _ wd_23)) (fun _ h9 => h9) rfl hin rfl (ty := .int) (by decide +kernel) rfl rfl (by omega) rfl d_init_F_6 (fun H locs hP hD hS => ?_)
  exact ml_vret hx hb hr hlocks hP hK hD hS d_init_F_9
abbrev rm_init_P : Room := { frames := 1, cells := 1, slots := 512, locals := 24 }
set_option maxHeartbeats 4000000 in
set_option maxRecDepth 100000 in
theorem c_init_P (l : Launch) (dC : Nat → ClassId) (dI : Nat → Nat → Nat) (kc : Nat → ClassId) (N : Nat) (a : Nat → Nat) (f : Nat → va_E) (sz q0 xa : Nat) (hq : q0 < N) (hxa : a q0 = xa) (fs : List Value) (he : f q0 = .inr (2, fs)) (hlen : fs.length = 6) (v : Int32) : Met l y_init_P ws_init_P rm_init_P (va_Pc [.ref xa, .int v] (ml_B (dC, dI) vwCl (tysD kc) N a f sz)) (va_Qv (fun (_ : Nat) => True) (fun q t => ml_E (dC, dI) vwCl (tysD kc) (N + 1) (va_up a N q) (va_up (va_up f N (.inl (kc 1, 512, .inl (fun _ => 0)))) q0 (.inr (2, (fs.set 1 (.ref q)).set 0 (.int v)))) (va_A (ml N a f) sz) t) (va_A (ml N a f) sz)) 1 512 (va_A (ml N a f) sz) := by
  refine Met.ofW (cc := prog_4_method_1_code) (maxL := 2) (ret := (none : Option Jvm.ClassFile.FieldType)) (by decide) rfl ?_
  intro p e s m args below meth c s₁ B hml hv
  obtain ⟨rfl, hsz, hP, hK, hD0⟩ := hv
  have hx := B.exec
  have hb := B.bytes
  have hr := B.returns
  have hts := atoms_spec (ws := ws_init_P) B.pre
  have hown : s.vm.findClass "HandleDesk$Pipe" = some m.cls := findClass_of_methodNamed B.named
  have hlocks := B.notSynchronized
  have hin : meth.name = "<init>" := (name_of_methodNamed B.named B.method).1
  subst hsz
  have hD := hD0.self (sz := s.heap.size)
  generalize hAe : va_A (ml N a f) s.heap.size = A at hD ⊢
  have hA : ∀ q : Nat, s.heap.size ≤ q → A q := fun q h => by rw [← hAe]; exact Or.inr h
  have hS : va_S A s.heap s.heap [] := va_S.rf
  have hl := lv_entry ([.ref xa, .int v]) (n := 2) (Nat.le_of_ble_eq_true rfl)
  rw [lg_entry_eq]
  generalize (lg_sl ([.ref xa, .int v]) ++ List.replicate (2 - (lg_sl ([.ref xa, .int v])).length) Slot.unset).toArray = ls at hl ⊢
  have hl : lv_has ls 2 [(0, .ref xa), (1, .int v)] := hl
  refine lv_aload_n hx hb d_init_P_0 rfl (lv_at hl 0 rfl) ?_
  refine W.objInit hx hb hown (hts _ (mC _ wd_62)) (hts _ (mC _ wd_14)) (hts _ (mC _ wd_15)) rfl (by rw [hml]; exact hl.1) rfl d_init_P_1 (Nat.le_of_ble_eq_true rfl) (Nat.le_of_ble_eq_true rfl) ?_
  refine W.eq (g2 := F0 m 4 ls []) rfl ?_
  refine lv_aload_n hx hb d_init_P_4 rfl (lv_at hl 0 rfl) ?_
  refine lv_sipush (v := 512) hx hb d_init_P_5 (by decide) ?_
  refine ml_newa (atype := .byte) hx hb (hts _ (mC _ wd_86)) rfl hK hP hD hS hA (a0 := (512, .inl (fun _ => 0))) (fun _ => rfl) (by decide) (N' := 512) (by decide) (by decide) (Nat.le_of_ble_eq_true rfl) (Nat.le_of_ble_eq_true rfl) d_init_P_8 (kc 1) kc_b (fun q H hP hD hS => ?_)
  refine W.widen (k := 1) (n := 512) (by omega) (by omega) ?_
  have ex : va_up a N q q0 = xa := by rw [va_up_ne a q (by omega)]; exact hxa
  have ef : va_up f N (.inl (kc 1, 512, .inl (fun _ => 0))) q0 = .inr (2, fs) := by rw [va_up_ne _ _ (by omega)]; exact he
  refine ml_putFx (D := (dC, dI)) hx hb hts in_PC tyP tyP_ok nmP hown hK hP hD hS q0 (by omega) ex ef rfl 1 (by decide) (hts _ (mC _ wd_65)) (fun _ h9 => h9) rfl hin rfl (ty := .array .byte) (by decide +kernel) rfl rfl (by omega) rfl d_init_P_10 (fun H locs hP hD hS => ?_)
  refine lv_aload_n hx hb d_init_P_13 rfl (lv_at hl 0 rfl) ?_
  refine lv_iload_n hx hb d_init_P_14 rfl (lv_at hl 1 rfl) ?_
  refine ml_putFx (D := (dC, dI)) hx hb hts in_PC tyP tyP_ok nmP hown hK hP hD hS q0 (by omega) ex (va_up_self _ _ _) rfl 0 (by decide) (hts _ (mC _ wd_63)) (fun _ h9 => h9) rfl hin rfl (ty := .int) (by decide +kernel) rfl rfl (by rw [List.length_set]; omega) rfl d_init_P_15 (fun H locs hP hD hS => ?_)
  rw [bx_uu] at hP hD
  exact ml_vretS (S := Nat) (a2 := fun q => va_up a N q) (f2 := fun q => va_up (va_up f N (.inl (kc 1, 512, .inl (fun _ => 0)))) q0 (.inr (2, (fs.set 1 (.ref q)).set 0 (.int v)))) q hx hb hr hlocks hP hK hD hS d_init_P_18
abbrev rm_init_C : Room := { frames := 1, cells := 1, slots := 128, locals := 24 }
set_option maxHeartbeats 4000000 in
set_option maxRecDepth 100000 in
theorem c_init_C (l : Launch) (dC : Nat → ClassId) (dI : Nat → Nat → Nat) (kc : Nat → ClassId) (N : Nat) (a : Nat → Nat) (f : Nat → va_E) (sz q0 xa : Nat) (hq : q0 < N) (hxa : a q0 = xa) (fs : List Value) (he : f q0 = .inr (3, fs)) (hlen : fs.length = 4) : Met l y_init_C ws_init_C rm_init_C (va_Pc [.ref xa] (ml_B (dC, dI) vwCl (tysD kc) N a f sz)) (va_Qv (fun (_ : Nat) => True) (fun q t => ml_E (dC, dI) vwCl (tysD kc) (N + 1) (va_up a N q) (va_up (va_up f N (.inl (kc 1, 128, .inl (fun _ => 0)))) q0 (.inr (3, fs.set 0 (.ref q)))) (va_A (ml N a f) sz) t) (va_A (ml N a f) sz)) 1 128 (va_A (ml N a f) sz) := by
  refine Met.ofW (cc := prog_2_method_1_code) (maxL := 1) (ret := (none : Option Jvm.ClassFile.FieldType)) (by decide) rfl ?_
  intro p e s m args below meth c s₁ B hml hv
  obtain ⟨rfl, hsz, hP, hK, hD0⟩ := hv
  have hx := B.exec
  have hb := B.bytes
  have hr := B.returns
  have hts := atoms_spec (ws := ws_init_C) B.pre
  have hown : s.vm.findClass "HandleDesk$Console" = some m.cls := findClass_of_methodNamed B.named
  have hlocks := B.notSynchronized
  have hin : meth.name = "<init>" := (name_of_methodNamed B.named B.method).1
  subst hsz
  have hD := hD0.self (sz := s.heap.size)
  generalize hAe : va_A (ml N a f) s.heap.size = A at hD ⊢
  have hA : ∀ q : Nat, s.heap.size ≤ q → A q := fun q h => by rw [← hAe]; exact Or.inr h
  have hS : va_S A s.heap s.heap [] := va_S.rf
  have hl := lv_entry ([.ref xa]) (n := 1) (Nat.le_of_ble_eq_true rfl)
  rw [lg_entry_eq]
  generalize (lg_sl ([.ref xa]) ++ List.replicate (1 - (lg_sl ([.ref xa])).length) Slot.unset).toArray = ls at hl ⊢
  have hl : lv_has ls 1 [(0, .ref xa)] := hl
  refine lv_aload_n hx hb d_init_C_0 rfl (lv_at hl 0 rfl) ?_
  refine W.objInit hx hb hown (hts _ (mC _ wd_92)) (hts _ (mC _ wd_14)) (hts _ (mC _ wd_15)) rfl (by rw [hml]; exact hl.1) rfl d_init_C_1 (Nat.le_of_ble_eq_true rfl) (Nat.le_of_ble_eq_true rfl) ?_
  refine W.eq (g2 := F0 m 4 ls []) rfl ?_
  refine lv_aload_n hx hb d_init_C_4 rfl (lv_at hl 0 rfl) ?_
  refine lv_sipush (v := 128) hx hb d_init_C_5 (by decide) ?_
  refine ml_newa (atype := .byte) hx hb (hts _ (mC _ wd_86)) rfl hK hP hD hS hA (a0 := (128, .inl (fun _ => 0))) (fun _ => rfl) (by decide) (N' := 128) (by decide) (by decide) (Nat.le_of_ble_eq_true rfl) (Nat.le_of_ble_eq_true rfl) d_init_C_8 (kc 1) kc_b (fun q H hP hD hS => ?_)
  refine W.widen (k := 1) (n := 128) (by omega) (by omega) ?_
  have ex : va_up a N q q0 = xa := by rw [va_up_ne a q (by omega)]; exact hxa
  have ef : va_up f N (.inl (kc 1, 128, .inl (fun _ => 0))) q0 = .inr (3, fs) := by rw [va_up_ne _ _ (by omega)]; exact he
  refine ml_putFx (D := (dC, dI)) hx hb hts in_CC tyC tyC_ok nmC hown hK hP hD hS q0 (by omega) ex ef rfl 0 (by decide) (hts _ (mC _ wd_93)) (fun _ h9 => h9) rfl hin rfl (ty := .array .byte) (by decide +kernel) rfl rfl (by omega) rfl d_init_C_10 (fun H locs hP hD hS => ?_)
  exact ml_vretS (S := Nat) (a2 := fun q => va_up a N q) (f2 := fun q => va_up (va_up f N (.inl (kc 1, 128, .inl (fun _ => 0)))) q0 (.inr (3, fs.set 0 (.ref q)))) q hx hb hr hlocks hP hK hD hS d_init_C_13
abbrev rm_init_S : Room := { frames := 1, cells := 1, slots := 4096, locals := 24 }
set_option maxHeartbeats 4000000 in
set_option maxRecDepth 100000 in
theorem c_init_S (l : Launch) (dC : Nat → ClassId) (dI : Nat → Nat → Nat) (kc : Nat → ClassId) (N : Nat) (a : Nat → Nat) (f : Nat → va_E) (sz q0 xa : Nat) (hq : q0 < N) (hxa : a q0 = xa) (fs : List Value) (he : f q0 = .inr (4, fs)) (hlen : fs.length = 2) : Met l y_init_S ws_init_S rm_init_S (va_Pc [.ref xa] (ml_B (dC, dI) vwCl (tysD kc) N a f sz)) (va_Qv (fun (_ : Nat) => True) (fun q t => ml_E (dC, dI) vwCl (tysD kc) (N + 1) (va_up a N q) (va_up (va_up f N (.inl (kc 1, 4096, .inl (fun _ => 0)))) q0 (.inr (4, fs.set 0 (.ref q)))) (va_A (ml N a f) sz) t) (va_A (ml N a f) sz)) 1 4096 (va_A (ml N a f) sz) := by
  refine Met.ofW (cc := prog_5_method_1_code) (maxL := 1) (ret := (none : Option Jvm.ClassFile.FieldType)) (by decide) rfl ?_
  intro p e s m args below meth c s₁ B hml hv
  obtain ⟨rfl, hsz, hP, hK, hD0⟩ := hv
  have hx := B.exec
  have hb := B.bytes
  have hr := B.returns
  have hts := atoms_spec (ws := ws_init_S) B.pre
  have hown : s.vm.findClass "HandleDesk$Screen" = some m.cls := findClass_of_methodNamed B.named
  have hlocks := B.notSynchronized
  have hin : meth.name = "<init>" := (name_of_methodNamed B.named B.method).1
  subst hsz
  have hD := hD0.self (sz := s.heap.size)
  generalize hAe : va_A (ml N a f) s.heap.size = A at hD ⊢
  have hA : ∀ q : Nat, s.heap.size ≤ q → A q := fun q h => by rw [← hAe]; exact Or.inr h
  have hS : va_S A s.heap s.heap [] := va_S.rf
  have hl := lv_entry ([.ref xa]) (n := 1) (Nat.le_of_ble_eq_true rfl)
  rw [lg_entry_eq]
  generalize (lg_sl ([.ref xa]) ++ List.replicate (1 - (lg_sl ([.ref xa])).length) Slot.unset).toArray = ls at hl ⊢
  have hl : lv_has ls 1 [(0, .ref xa)] := hl
  refine lv_aload_n hx hb d_init_S_0 rfl (lv_at hl 0 rfl) ?_
  refine W.objInit hx hb hown (hts _ (mC _ wd_114)) (hts _ (mC _ wd_14)) (hts _ (mC _ wd_15)) rfl (by rw [hml]; exact hl.1) rfl d_init_S_1 (Nat.le_of_ble_eq_true rfl) (Nat.le_of_ble_eq_true rfl) ?_
  refine W.eq (g2 := F0 m 4 ls []) rfl ?_
  refine lv_aload_n hx hb d_init_S_4 rfl (lv_at hl 0 rfl) ?_
  refine lv_sipush (v := 4096) hx hb d_init_S_5 (by decide) ?_
  refine ml_newa (atype := .byte) hx hb (hts _ (mC _ wd_86)) rfl hK hP hD hS hA (a0 := (4096, .inl (fun _ => 0))) (fun _ => rfl) (by decide) (N' := 4096) (by decide) (by decide) (Nat.le_of_ble_eq_true rfl) (Nat.le_of_ble_eq_true rfl) d_init_S_8 (kc 1) kc_b (fun q H hP hD hS => ?_)
  refine W.widen (k := 1) (n := 4096) (by omega) (by omega) ?_
  have ex : va_up a N q q0 = xa := by rw [va_up_ne a q (by omega)]; exact hxa
  have ef : va_up f N (.inl (kc 1, 4096, .inl (fun _ => 0))) q0 = .inr (4, fs) := by rw [va_up_ne _ _ (by omega)]; exact he
  refine ml_putFx (D := (dC, dI)) hx hb hts in_SC tyS tyS_ok nmS hown hK hP hD hS q0 (by omega) ex ef rfl 0 (by decide) (hts _ (mC _ wd_115)) (fun _ h9 => h9) rfl hin rfl (ty := .array .byte) (by decide +kernel) rfl rfl (by omega) rfl d_init_S_10 (fun H locs hP hD hS => ?_)
  exact ml_vretS (S := Nat) (a2 := fun q => va_up a N q) (f2 := fun q => va_up (va_up f N (.inl (kc 1, 4096, .inl (fun _ => 0)))) q0 (.inr (4, fs.set 0 (.ref q)))) q hx hb hr hlocks hP hK hD hS d_init_S_13
