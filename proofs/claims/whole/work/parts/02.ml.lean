/-! A world whose cells are numbered: for k below N cell k lies at the address a k and is f k. -/
def ml (N : Nat) (a : Nat → Nat) (f : Nat → va_E) : va_W := (List.range N).map (fun k => (a k, f k))
theorem ml_at {N : Nat} {a : Nat → Nat} {f : Nat → va_E} {k : Nat} {e : va_E} (hk : k < N) (he : f k = e) : (ml N a f)[k]? = some (a k, e) := by
  subst he
  simp [ml, hk]
theorem ml_len {N : Nat} {a : Nat → Nat} {f : Nat → va_E} : (ml N a f).length = N := by simp [ml]
theorem ml_no {N : Nat} {a : Nat → Nat} {f : Nat → va_E} {k : Nat} (hk : N ≤ k) : (ml N a f)[k]? = none := List.getElem?_eq_none (by rw [ml_len]; exact hk)
theorem ml_inv {N : Nat} {a : Nat → Nat} {f : Nat → va_E} {k : Nat} {q : Nat × va_E} (h : (ml N a f)[k]? = some q) : k < N ∧ q = (a k, f k) := by
  by_cases hk : k < N
  · rw [ml_at hk rfl] at h
    exact ⟨hk, (Option.some.inj h).symm⟩
  · rw [ml_no (by omega)] at h
    cases h
theorem ml_set {N : Nat} {a : Nat → Nat} {f : Nat → va_E} {k : Nat} {e : va_E} (hk : k < N) : (ml N a f).set k (a k, e) = ml N a (va_up f k e) := by
  apply List.ext_getElem?
  intro j
  by_cases hj : j = k
  · subst hj
    rw [List.getElem?_set_self (by rw [ml_len]; exact hk), ml_at hk (va_up_self f j e)]
  · rw [List.getElem?_set_ne (Ne.symm hj)]
    by_cases hN : j < N
    · rw [ml_at hN rfl, ml_at hN (va_up_ne f e hj)]
    · rw [ml_no (by omega), ml_no (by omega)]
theorem ml_congr {N : Nat} {a a' : Nat → Nat} {f f' : Nat → va_E} (ha : ∀ k, k < N → a' k = a k) (hf : ∀ k, k < N → f' k = f k) : ml N a' f' = ml N a f := by
  apply List.ext_getElem?
  intro j
  by_cases hN : j < N
  · rw [ml_at hN rfl, ml_at hN rfl, ha j hN, hf j hN]
  · rw [ml_no (by omega), ml_no (by omega)]
theorem ml_push {N : Nat} {a a' : Nat → Nat} {f f' : Nat → va_E} {q : Nat} {e : va_E} (ha : ∀ k, k < N → a' k = a k) (hf : ∀ k, k < N → f' k = f k) (hq : a' N = q) (he : f' N = e) : ml N a f ++ [(q, e)] = ml (N + 1) a' f' := by
  apply List.ext_getElem?
  intro j
  by_cases hN : j < N
  · rw [List.getElem?_append_left (by rw [ml_len]; exact hN), ml_at hN rfl, ml_at (Nat.lt_succ_of_lt hN) rfl, ha j hN, hf j hN]
  · by_cases hj : j = N
    · subst hj
      rw [List.getElem?_append_right (by rw [ml_len]; exact Nat.le_refl _), ml_len, Nat.sub_self, ml_at (Nat.lt_succ_self _) he, hq]
      rfl
    · rw [ml_no (by omega), List.getElem?_eq_none (by rw [List.length_append, ml_len]; simp; omega)]
/-- a method's start, and its end -/
def ml_B (D : va_G) (cl : List vw_C) (tys : List (ClassId × FieldType)) (N : Nat) (a : Nat → Nat) (f : Nat → va_E) (sz : Nat) (U : State) : Prop := U.heap.size = sz ∧ va_P D cl (ml N a f) U.heap ∧ va_K D cl tys U ∧ va_D (fun _ => True) (ml N a f)
def ml_E (D : va_G) (cl : List vw_C) (tys : List (ClassId × FieldType)) (N : Nat) (a : Nat → Nat) (f : Nat → va_E) (A : Nat → Prop) (t : State) : Prop := va_P D cl (ml N a f) t.heap ∧ va_K D cl tys t ∧ va_D A (ml N a f)
theorem ml_blind {D : va_G} {cl : List vw_C} {tys : List (ClassId × FieldType)} {N : Nat} {a : Nat → Nat} {f : Nat → va_E} {sz : Nat} {av : List Value} : FrameBlind (va_Pc av (ml_B D cl tys N a f sz)) := fun ar U g mk q => by
  obtain ⟨q0, q1, qP, qK, qD⟩ := q
  exact ⟨q0, q1, qP, va_K.moved (u := U) (U := U.calling g mk ar) (Vm.Alike.refl U.vm) qK, qD⟩
theorem ml_pre {D : va_G} {cl : List vw_C} {tys : List (ClassId × FieldType)} {N : Nat} {a : Nat → Nat} {f : Nat → va_E} {av : List Value} {s : State} {H : Heap} {A : Nat → Prop} (hP : va_P D cl (ml N a f) H) (hK : va_K D cl tys s) (hD : va_D A (ml N a f)) : ∀ U : State, U.heap = H → s.WarmedH U.vm → va_Pc av (ml_B D cl tys N a f H.size) av.toArray U :=
  fun U hU hW => ⟨rfl, by rw [hU], by rw [hU]; exact hP, va_K.moved hW.alike hK, hD.weaken (fun _ _ _ _ => trivial)⟩
theorem ml_free {A : Nat → Prop} {ws : va_W} {H0 H : Heap} {locs : List Loc} (hD : va_D A ws) (hS : va_S A H0 H locs) (hA : ∀ q, H0.size ≤ q → A q) : ∀ q, va_A ws H.size q → A q := by
  intro q h
  rcases h with ⟨k, e, h⟩ | h
  · exact hD.2 k (q, e) h
  · exact hA q (Nat.le_trans hS.1 h)
section ML
variable {p : Program} {l : Launch} {e : Env} {R : Room} {s : State} {m : MethodId} {args : Array Value} {below : List Frame} {meth : Method} {c : Code} {H : Heap} {locs : List Loc} {cells slots : Nat} {Q : State → Prop}
variable {cc : ByteArray} {pc : Nat} {ls : Array Slot} {rest : List Value} {D : va_G} {cl : List vw_C} {A : Nat → Prop} {tys : List (ClassId × FieldType)} {H0 : Heap} {N : Nat} {a : Nat → Nat} {f f' : Nat → va_E}
theorem ml_get (hexec : p.tables.exec = Jvm.exec) (hb : c.code = cc) {own ref C : String} {T : u_T} {n ci index : Nat} {Ts : List Cond} (hts : ∀ w ∈ Ts, w.before args s = true) (hin : ∀ w ∈ u_ws C T n, w ∈ Ts) (hown : s.vm.findClass own = some m.cls) (hK : va_K D cl tys s) (hP : va_P D cl (ml N a f) H) (q0 : Nat) (hq : q0 < N) {fs : List Value} (he : f q0 = .inr (ci, fs)) (hc : cl[ci]? = some (C, T, n)) (k : Nat) (hk : k < n) (hlink : (Cond.fieldLink own index ref (T k).2.1 (T k).2.2.1).before args s = true) (hsame : ∀ x, s.fieldFound? (T k).1 (T k).2.1 (T k).2.2.1 = some x → s.fieldFound? ref (T k).2.1 (T k).2.2.1 = some x) {v : Value} (hv : fs[k]? = some v) (hdg : decode cc pc = .ok (.getfield index, 3))
    (kk : W p l e R s m args below meth c H locs cells slots Q (F0 m (pc + 3) ls (v :: rest))) : W p l e R s m args below meth c H locs cells slots Q (F0 m pc ls (.ref (a q0) :: rest)) :=
  va_get hexec hb hts hin hown hK hP q0 (ml_at hq he) hc k hk hlink hsame hv hdg kk
theorem ml_put (hexec : p.tables.exec = Jvm.exec) (hb : c.code = cc) {own ref C : String} {T : u_T} {n ci index : Nat} {Ts : List Cond} (hts : ∀ w ∈ Ts, w.before args s = true) (hin : ∀ w ∈ u_ws C T n, w ∈ Ts) (ty0 : Nat → FieldType) (hty : ∀ k, k < n → parseFieldDescriptor (T k).2.2.1 = some (ty0 k)) (hnm : ∀ a, a < n → ∀ b, b < n → a ≠ b → (T a).2.1 ≠ (T b).2.1) (hown : s.vm.findClass own = some m.cls) (hK : va_K D cl tys s) (hP : va_P D cl (ml N a f) H) (hD : va_D A (ml N a f)) (hS0 : va_S A H0 H locs) (q0 : Nat) (hq : q0 < N) {fs : List Value} (he : f q0 = .inr (ci, fs)) (hc : cl[ci]? = some (C, T, n)) (k : Nat) (hk : k < n) (hlink : (Cond.fieldLink own index ref (T k).2.1 (T k).2.2.1).before args s = true) (hsame : ∀ x, s.fieldFound? (T k).1 (T k).2.1 (T k).2.2.1 = some x → s.fieldFound? ref (T k).2.1 (T k).2.2.1 = some x) (hfin : (T k).2.2.2 = false) {ty : FieldType} {v : Value} (hd : parseFieldDescriptor (T k).2.2.1 = some ty) (hn : narrow ty v = v) (hfit : fits ty v = true) (hl : k < fs.length)
    (hu : f' = va_up f q0 (.inr (ci, fs.set k v))) (hdg : decode cc pc = .ok (.putfield index, 3)) (kk : ∀ (H1 : Heap) (locs1 : List Loc), va_P D cl (ml N a f') H1 → va_D A (ml N a f') → va_S A H0 H1 locs1 → W p l e R s m args below meth c H1 locs1 cells slots Q (F0 m (pc + 3) ls rest)) : W p l e R s m args below meth c H locs cells slots Q (F0 m pc ls (v :: .ref (a q0) :: rest)) := by
  subst hu
  exact va_put hexec hb hts hin ty0 hty hnm hown hK hP hD hS0 q0 (ml_at hq he) hc k hk hlink hsame hfin hd hn hfit hl hdg (fun H1 locs1 h1 h2 h3 => kk H1 locs1 (by rw [← ml_set hq]; exact h1) (by rw [← ml_set hq]; exact h2) h3)
theorem ml_putF (hexec : p.tables.exec = Jvm.exec) (hb : c.code = cc) {own ref C : String} {T : u_T} {n ci index : Nat} {Ts : List Cond} (hts : ∀ w ∈ Ts, w.before args s = true) (hin : ∀ w ∈ u_ws C T n, w ∈ Ts) (ty0 : Nat → FieldType) (hty : ∀ k, k < n → parseFieldDescriptor (T k).2.2.1 = some (ty0 k)) (hnm : ∀ a, a < n → ∀ b, b < n → a ≠ b → (T a).2.1 ≠ (T b).2.1) (hown : s.vm.findClass own = some m.cls) (hK : va_K D cl tys s) (hP : va_P D cl (ml N a f) H) (hD : va_D A (ml N a f)) (hS0 : va_S A H0 H locs) (q0 : Nat) (hq : q0 < N) {fs : List Value} (he : f q0 = .inr (ci, fs)) (hc : cl[ci]? = some (C, T, n)) (k : Nat) (hk : k < n) (hlink : (Cond.fieldLink own index ref (T k).2.1 (T k).2.2.1).before args s = true) (hsame : ∀ x, s.fieldFound? (T k).1 (T k).2.1 (T k).2.2.1 = some x → s.fieldFound? ref (T k).2.1 (T k).2.2.1 = some x) (hfin : (T k).2.2.2 = true) (hin2 : meth.name = "<init>") (hdecl : (T k).1 = own) {ty : FieldType} {v : Value} (hd : parseFieldDescriptor (T k).2.2.1 = some ty) (hn : narrow ty v = v) (hfit : fits ty v = true) (hl : k < fs.length)
    (hu : f' = va_up f q0 (.inr (ci, fs.set k v))) (hdg : decode cc pc = .ok (.putfield index, 3)) (kk : ∀ (H1 : Heap) (locs1 : List Loc), va_P D cl (ml N a f') H1 → va_D A (ml N a f') → va_S A H0 H1 locs1 → W p l e R s m args below meth c H1 locs1 cells slots Q (F0 m (pc + 3) ls rest)) : W p l e R s m args below meth c H locs cells slots Q (F0 m pc ls (v :: .ref (a q0) :: rest)) := by
  subst hu
  exact va_putF hexec hb hts hin ty0 hty hnm hown hK hP hD hS0 q0 (ml_at hq he) hc k hk hlink hsame hfin hin2 hdecl hd hn hfit hl hdg (fun H1 locs1 h1 h2 h3 => kk H1 locs1 (by rw [← ml_set hq]; exact h1) (by rw [← ml_set hq]; exact h2) h3)
theorem ml_iald (hexec : p.tables.exec = Jvm.exec) (hb : c.code = cc) (hK : va_K D cl tys s) (hP : va_P D cl (ml N a f) H) (q0 t0 : Nat) (hq : q0 < N) {cA : ClassId} {n : Nat} {g : Nat → Int32} (he : f q0 = .inl (cA, n, .inl g)) (ht : tys[t0]? = some (cA, .int)) {i : Int32} (hin : vp_in i n) (hdg : decode cc pc = .ok (.iaload, 1))
    (kk : W p l e R s m args below meth c H locs cells slots Q (F0 m (pc + 1) ls (.int (g i.toNatClampNeg) :: rest))) : W p l e R s m args below meth c H locs cells slots Q (F0 m pc ls (.int i :: .ref (a q0) :: rest)) :=
  va_iald hexec hb hK hP q0 t0 (ml_at hq he) ht hin hdg kk
theorem ml_bald (hexec : p.tables.exec = Jvm.exec) (hb : c.code = cc) (hK : va_K D cl tys s) (hP : va_P D cl (ml N a f) H) (q0 t0 : Nat) (hq : q0 < N) {cA : ClassId} {n : Nat} {g : Nat → Int32} (he : f q0 = .inl (cA, n, .inl g)) (ht : tys[t0]? = some (cA, .byte)) {i : Int32} (hin : vp_in i n) (hdg : decode cc pc = .ok (.baload, 1))
    (kk : W p l e R s m args below meth c H locs cells slots Q (F0 m (pc + 1) ls (.int (g i.toNatClampNeg) :: rest))) : W p l e R s m args below meth c H locs cells slots Q (F0 m pc ls (.int i :: .ref (a q0) :: rest)) :=
  va_bald hexec hb hK hP q0 t0 (ml_at hq he) ht hin hdg kk
theorem ml_iast (hexec : p.tables.exec = Jvm.exec) (hb : c.code = cc) (hK : va_K D cl tys s) (hP : va_P D cl (ml N a f) H) (hD : va_D A (ml N a f)) (hS : va_S A H0 H locs) (q0 t0 : Nat) (hq : q0 < N) {cA : ClassId} {n : Nat} {g : Nat → Int32} (he : f q0 = .inl (cA, n, .inl g)) (ht : tys[t0]? = some (cA, .int)) {i x : Int32} (hin : vp_in i n) (hu : f' = va_up f q0 (.inl (cA, n, .inl (upd g i.toNatClampNeg x)))) (hdg : decode cc pc = .ok (.iastore, 1))
    (kk : ∀ (H1 : Heap) (locs1 : List Loc), va_P D cl (ml N a f') H1 → va_D A (ml N a f') → va_S A H0 H1 locs1 → W p l e R s m args below meth c H1 locs1 cells slots Q (F0 m (pc + 1) ls rest)) : W p l e R s m args below meth c H locs cells slots Q (F0 m pc ls (.int x :: .int i :: .ref (a q0) :: rest)) := by
  subst hu
  exact va_iast hexec hb hK hP hD hS q0 t0 (ml_at hq he) ht hin hdg (fun H1 locs1 h1 h2 h3 => kk H1 locs1 (by rw [← ml_set hq]; exact h1) (by rw [← ml_set hq]; exact h2) h3)
theorem ml_bast (hexec : p.tables.exec = Jvm.exec) (hb : c.code = cc) (hK : va_K D cl tys s) (hP : va_P D cl (ml N a f) H) (hD : va_D A (ml N a f)) (hS : va_S A H0 H locs) (q0 t0 : Nat) (hq : q0 < N) {cA : ClassId} {n : Nat} {g : Nat → Int32} (he : f q0 = .inl (cA, n, .inl g)) (ht : tys[t0]? = some (cA, .byte)) {i x : Int32} (hin : vp_in i n) (hu : f' = va_up f q0 (.inl (cA, n, .inl (upd g i.toNatClampNeg (vp_nar .byte x))))) (hdg : decode cc pc = .ok (.bastore, 1))
    (kk : ∀ (H1 : Heap) (locs1 : List Loc), va_P D cl (ml N a f') H1 → va_D A (ml N a f') → va_S A H0 H1 locs1 → W p l e R s m args below meth c H1 locs1 cells slots Q (F0 m (pc + 1) ls rest)) : W p l e R s m args below meth c H locs cells slots Q (F0 m pc ls (.int x :: .int i :: .ref (a q0) :: rest)) := by
  subst hu
  exact va_bast hexec hb hK hP hD hS q0 t0 (ml_at hq he) ht hin hdg (fun H1 locs1 h1 h2 h3 => kk H1 locs1 (by rw [← ml_set hq]; exact h1) (by rw [← ml_set hq]; exact h2) h3)
theorem ml_alen (hexec : p.tables.exec = Jvm.exec) (hb : c.code = cc) (hK : va_K D cl tys s) (hP : va_P D cl (ml N a f) H) (q0 t0 : Nat) (hq : q0 < N) {cA : ClassId} {x : vp_A} (he : f q0 = .inl (cA, x)) {ty : FieldType} (ht : tys[t0]? = some (cA, ty)) {v : Int32} (hv : Int32.ofNat x.1 = v) (hdg : decode cc pc = .ok (.arraylength, 1))
    (kk : W p l e R s m args below meth c H locs cells slots Q (F0 m (pc + 1) ls (.int v :: rest))) : W p l e R s m args below meth c H locs cells slots Q (F0 m pc ls (.ref (a q0) :: rest)) :=
  va_alen hexec hb hK hP q0 t0 (ml_at hq he) ht hv hdg kk
theorem ml_iret {v : Int32} (hexec : p.tables.exec = Jvm.exec) (hb : c.code = cc) (hr : meth.sig.returnType = some .int) (hlocks : meth.locks = false) (hP : va_P D cl (ml N a f) H) (hK : va_K D cl tys s) (hD : va_D A (ml N a f)) (hS : va_S A s.heap H locs) (hdg : decode cc pc = .ok (.ireturn, 1)) :
    W p l e R s m args below meth c H locs cells slots (MQ below (va_Qi (fun r (_ : Unit) => r = v) (fun _ t => ml_E D cl tys N a f A t) A) args s cells slots A) (F0 m pc ls [.int v]) :=
  W.iret hexec hb hr (fun t ht hW => ⟨⟨v, (), rfl, rfl, by rw [ht]; exact hP, va_K.moved hW.alike hK, hD⟩, hS.F ht⟩) hS.2.2 hdg hlocks
theorem ml_zret {v : Int32} {ty : FieldType} (hexec : p.tables.exec = Jvm.exec) (hb : c.code = cc) (hr : meth.sig.returnType = some ty) (hn : narrow ty (.int v) = .int v) (hlocks : meth.locks = false) (hP : va_P D cl (ml N a f) H) (hK : va_K D cl tys s) (hD : va_D A (ml N a f)) (hS : va_S A s.heap H locs) (hdg : decode cc pc = .ok (.ireturn, 1)) :
    W p l e R s m args below meth c H locs cells slots (MQ below (va_Qi (fun r (_ : Unit) => r = v) (fun _ t => ml_E D cl tys N a f A t) A) args s cells slots A) (F0 m pc ls [.int v]) :=
  W.zret hexec hb hr hn (fun t ht hW => ⟨⟨v, (), rfl, rfl, by rw [ht]; exact hP, va_K.moved hW.alike hK, hD⟩, hS.F ht⟩) hS.2.2 hdg hlocks
theorem ml_vret (hexec : p.tables.exec = Jvm.exec) (hb : c.code = cc) (hr : meth.sig.returnType = none) (hlocks : meth.locks = false) (hP : va_P D cl (ml N a f) H) (hK : va_K D cl tys s) (hD : va_D A (ml N a f)) (hS : va_S A s.heap H locs) (hdg : decode cc pc = .ok (.return_, 1)) :
    W p l e R s m args below meth c H locs cells slots (MQ below (va_Qv (fun (_ : Unit) => True) (fun _ t => ml_E D cl tys N a f A t) A) args s cells slots A) (F0 m pc ls []) :=
  W.vret hexec hb hr (fun t ht hW => ⟨⟨(), rfl, trivial, by rw [ht]; exact hP, va_K.moved hW.alike hK, hD⟩, hS.F ht⟩) hS.2.2 hdg hlocks
theorem ml_aretS {x : Nat} {rt : String} (hexec : p.tables.exec = Jvm.exec) (hb : c.code = cc) (hr : meth.sig.returnType = some (.object rt)) (hlocks : meth.locks = false) (hP : va_P D cl (ml N a f) H) (hK : va_K D cl tys s) (hD : va_D A (ml N a f)) (hS : va_S A s.heap H locs) (hdg : decode cc pc = .ok (.areturn, 1)) :
    W p l e R s m args below meth c H locs cells slots (MQ below (va_Qq (fun r (_ : Unit) => r = some x) (fun _ t => ml_E D cl tys N a f A t) A) args s cells slots A) (F0 m pc ls [.ref x]) :=
  W.aret hexec hb hr (Or.inl ⟨_, rfl⟩) (Or.inr ⟨x, rfl⟩) (fun t ht hW => ⟨⟨some x, (), rfl, rfl, by rw [ht]; exact hP, va_K.moved hW.alike hK, hD⟩, hS.F ht⟩) hS.2.2 hdg hlocks
theorem ml_aretN {rt : String} (hexec : p.tables.exec = Jvm.exec) (hb : c.code = cc) (hr : meth.sig.returnType = some (.object rt)) (hlocks : meth.locks = false) (hP : va_P D cl (ml N a f) H) (hK : va_K D cl tys s) (hD : va_D A (ml N a f)) (hS : va_S A s.heap H locs) (hdg : decode cc pc = .ok (.areturn, 1)) :
    W p l e R s m args below meth c H locs cells slots (MQ below (va_Qq (fun r (_ : Unit) => r = none) (fun _ t => ml_E D cl tys N a f A t) A) args s cells slots A) (F0 m pc ls [.null]) :=
  W.aret hexec hb hr (Or.inl ⟨_, rfl⟩) (Or.inl rfl) (fun t ht hW => ⟨⟨none, (), rfl, rfl, by rw [ht]; exact hP, va_K.moved hW.alike hK, hD⟩, hS.F ht⟩) hS.2.2 hdg hlocks
variable {st0 : List Value} {ar : Array Value} {mc ms : Nat}
theorem ml_calli {v : Int32} (hr : va_Run p l e R s m args below meth c H locs cells slots mc ms (F0 m pc ls st0) rest (va_Qi (fun r (_ : Unit) => r = v) (fun _ t => ml_E D cl tys N a f' (va_A (ml N a f) H.size) t) (va_A (ml N a f) H.size) ar) (va_A (ml N a f) H.size)) (hD : va_D A (ml N a f)) (hS : va_S A H0 H locs) (hA : ∀ q, H0.size ≤ q → A q)
    (kk : ∀ (H1 : Heap) (locs1 : List Loc), va_P D cl (ml N a f') H1 → va_D A (ml N a f') → va_S A H0 H1 locs1 → W p l e R s m args below meth c H1 locs1 (cells + mc) (slots + ms) Q (F0 m (pc + 3) ls (.int v :: rest))) : W p l e R s m args below meth c H locs cells slots Q (F0 m pc ls st0) := by
  have hF := ml_free hD hS hA
  refine va_calli hr hS (fun q _ h => hF q h) hF (fun r u t H1 locs1 ht hvm hw hB hz hk hS1 => ?_)
  obtain ⟨hP1, hK1, hD1⟩ := hB
  rw [ht] at hP1
  rw [hw]
  exact kk H1 locs1 hP1 (hD1.weaken (fun k q _ h => hF q.1 h)) hS1
theorem ml_callv (hr : va_Run p l e R s m args below meth c H locs cells slots mc ms (F0 m pc ls st0) rest (va_Qv (fun (_ : Unit) => True) (fun _ t => ml_E D cl tys N a f' (va_A (ml N a f) H.size) t) (va_A (ml N a f) H.size) ar) (va_A (ml N a f) H.size)) (hD : va_D A (ml N a f)) (hS : va_S A H0 H locs) (hA : ∀ q, H0.size ≤ q → A q)
    (kk : ∀ (H1 : Heap) (locs1 : List Loc), va_P D cl (ml N a f') H1 → va_D A (ml N a f') → va_S A H0 H1 locs1 → W p l e R s m args below meth c H1 locs1 (cells + mc) (slots + ms) Q (F0 m (pc + 3) ls rest)) : W p l e R s m args below meth c H locs cells slots Q (F0 m pc ls st0) := by
  have hF := ml_free hD hS hA
  refine va_callv hr hS (fun q _ h => hF q h) hF (fun u t H1 locs1 ht hvm hw hB hz hk hS1 => ?_)
  obtain ⟨hP1, hK1, hD1⟩ := hB
  rw [ht] at hP1
  exact kk H1 locs1 hP1 (hD1.weaken (fun k q _ h => hF q.1 h)) hS1
theorem ml_callq {o : Option Nat} (hr : va_Run p l e R s m args below meth c H locs cells slots mc ms (F0 m pc ls st0) rest (va_Qq (fun r (_ : Unit) => r = o) (fun _ t => ml_E D cl tys N a f' (va_A (ml N a f) H.size) t) (va_A (ml N a f) H.size) ar) (va_A (ml N a f) H.size)) (hD : va_D A (ml N a f)) (hS : va_S A H0 H locs) (hA : ∀ q, H0.size ≤ q → A q)
    (kk : ∀ (H1 : Heap) (locs1 : List Loc), va_P D cl (ml N a f') H1 → va_D A (ml N a f') → va_S A H0 H1 locs1 → W p l e R s m args below meth c H1 locs1 (cells + mc) (slots + ms) Q (F0 m (pc + 3) ls (va_rf o :: rest))) : W p l e R s m args below meth c H locs cells slots Q (F0 m pc ls st0) := by
  have hF := ml_free hD hS hA
  refine va_callq hr hS (fun q _ h => hF q h) hF (fun r u t H1 locs1 ht hvm hw hB hz hk hS1 => ?_)
  obtain ⟨hP1, hK1, hD1⟩ := hB
  rw [ht] at hP1
  rw [hw]
  exact kk H1 locs1 hP1 (hD1.weaken (fun k q _ h => hF q.1 h)) hS1
/-- a reference that may be null, on the stack: two ways on -/
theorem ml_split {α : Type} {o : Option α} {g : α → Nat} (kn : o = none → W p l e R s m args below meth c H locs cells slots Q (F0 m pc ls (.null :: rest))) (ks : ∀ i : α, o = some i → W p l e R s m args below meth c H locs cells slots Q (F0 m pc ls (.ref (g i) :: rest))) : W p l e R s m args below meth c H locs cells slots Q (F0 m pc ls (va_rf (o.map g) :: rest)) := by
  cases o with
  | none => exact kn rfl
  | some i => exact ks i rfl
end ML
/-- a case on something that may be absent -/
def oc {α β : Type} (o : Option β) (t : α) (f : β → α) : α := match o with
  | none => t
  | some x => f x
theorem oc_n {α β : Type} {t : α} {f : β → α} : oc none t f = t := rfl
theorem oc_s {α β : Type} {t : α} {f : β → α} {x : β} : oc (some x) t f = f x := rfl
