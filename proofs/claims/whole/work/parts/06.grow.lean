/-! Worlds that grow by a cell; two worlds side by side. -/
section GR
variable {p : Program} {l : Launch} {e : Env} {R : Room} {s : State} {m : MethodId} {args : Array Value} {below : List Frame} {meth : Method} {c : Code} {H : Heap} {locs : List Loc} {cells slots : Nat} {Q : State → Prop}
variable {cc : ByteArray} {pc : Nat} {ls : Array Slot} {rest : List Value} {D : va_G} {cl : List vw_C} {A : Nat → Prop} {tys : List (ClassId × FieldType)} {H0 : Heap} {N : Nat} {a : Nat → Nat} {f f' : Nat → va_E}
theorem ml_up {N : Nat} {a : Nat → Nat} {f : Nat → va_E} {q : Nat} {e : va_E} : ml N a f ++ [(q, e)] = ml (N + 1) (va_up a N q) (va_up f N e) :=
  ml_push (fun k hk => va_up_ne a q (by omega)) (fun k hk => va_up_ne f e (by omega)) (va_up_self a N q) (va_up_self f N e)
theorem ml_new (hexec : p.tables.exec = Jvm.exec) (hb : c.code = cc) {own C : String} {T : u_T} {n ci index : Nat} {Ts : List Cond} (hts : ∀ w ∈ Ts, w.before args s = true) (hin : ∀ w ∈ u_ws C T n, w ∈ Ts) (ty : Nat → FieldType) (hty : ∀ k, k < n → parseFieldDescriptor (T k).2.2.1 = some (ty k)) (hown : s.vm.findClass own = some m.cls) (hcl : (Cond.classLink own index C).before args s = true) (hinst : (Cond.instantiable C n).before args s = true) (hini : (Cond.initialized C).before args s = true)
    (hK : va_K D cl tys s) (hP : va_P D cl (ml N a f) H) (hD : va_D A (ml N a f)) (hS : va_S A H0 H locs) (hA : ∀ q, H0.size ≤ q → A q) (hc : cl[ci]? = some (C, T, n)) {fs : List Value} (hfs : ∀ j, j < n → defaultValue (ty j) = vp_V fs j) (hcells : cells + 1 ≤ R.cells) (hslots : slots + n ≤ R.slots) (hdg : decode cc pc = .ok (.new index, 3))
    (kk : ∀ (q : Nat) (H1 : Heap), va_P D cl (ml (N + 1) (va_up a N q) (va_up f N (.inr (ci, fs)))) H1 → va_D A (ml (N + 1) (va_up a N q) (va_up f N (.inr (ci, fs)))) → va_S A H0 H1 locs →
      W p l e R s m args below meth c H1 locs (cells + 1) (slots + n) Q (F0 m (pc + 3) ls (.ref q :: rest))) : W p l e R s m args below meth c H locs cells slots Q (F0 m pc ls rest) :=
  va_new hexec hb hts hin ty hty hown hcl hinst hini hK hP hD hS hA hc hfs hcells hslots hdg (fun q H1 h1 h2 h3 => kk q H1 (by rw [← ml_up]; exact h1) (by rw [← ml_up]; exact h2) h3)
theorem ml_newa (hexec : p.tables.exec = Jvm.exec) (hb : c.code = cc) {atype : ArrayType} (harr : (Cond.arrayClass (newarray.typeOf atype)).before args s = true) {ty : FieldType} (hty : newarray.typeOf atype = ty) (hK : va_K D cl tys s) (hP : va_P D cl (ml N a f) H) (hD : va_D A (ml N a f)) (hS : va_S A H0 H locs) (hA : ∀ q, H0.size ≤ q → A q)
    {n : Int32} {N' : Nat} {a0 : vp_A} (ha : ∀ cA : ClassId, vp_cell cA a0 = arrV cA N' (fun _ => defaultValue ty)) (hn : ¬ n < 0) (hN : n.toNatClampNeg = N') (hbytes : N' * componentBytes ty ≤ 536870912) (hcells : cells + 1 ≤ R.cells) (hslots : slots + N' ≤ R.slots) (hdg : decode cc pc = .ok (.newarray atype, 2))
    (kc : ClassId) (hkc : ∀ cA : ClassId, va_K D cl (tys ++ [(cA, ty)]) s → cA = kc)
    (kk : ∀ (q : Nat) (H1 : Heap), va_P D cl (ml (N + 1) (va_up a N q) (va_up f N (.inl (kc, a0)))) H1 → va_D A (ml (N + 1) (va_up a N q) (va_up f N (.inl (kc, a0)))) → va_S A H0 H1 locs →
      W p l e R s m args below meth c H1 locs (cells + 1) (slots + N') Q (F0 m (pc + 2) ls (.ref q :: rest))) : W p l e R s m args below meth c H locs cells slots Q (F0 m pc ls (.int n :: rest)) :=
  va_newa hexec hb harr hty hK hP hD hS hA ha hn hN hbytes hcells hslots hdg (fun q cA H1 h0 h1 h2 h3 => by
    have e := hkc cA h0
    subst e
    exact kk q H1 (by rw [← ml_up]; exact h1) (by rw [← ml_up]; exact h2) h3)
theorem ml_newq (hexec : p.tables.exec = Jvm.exec) (hb : c.code = cc) {own C : String} {index : Nat} (hown : s.vm.findClass own = some m.cls) (hclink : (Cond.classLink own index C).before args s = true) (hover : va_AO C s) (hK : va_K D cl tys s) (hP : va_P D cl (ml N a f) H) (hD : va_D A (ml N a f)) (hS : va_S A H0 H locs) (hA : ∀ q, H0.size ≤ q → A q)
    {n : Int32} {N' : Nat} (hn : ¬ n < 0) (hN : n.toNatClampNeg = N') (hbytes : N' * 4 ≤ 536870912) (hcells : cells + 1 ≤ R.cells) (hslots : slots + N' ≤ R.slots) (hdg : decode cc pc = .ok (.anewarray index, 3))
    (kc : ClassId) (hkc : ∀ cA : ClassId, va_K D cl (tys ++ [(cA, .object C)]) s → cA = kc)
    (kk : ∀ (q : Nat) (H1 : Heap), va_P D cl (ml (N + 1) (va_up a N q) (va_up f N (.inl (kc, N', .inr (.inr (.inr (.inr (fun _ => none)))))))) H1 → va_D A (ml (N + 1) (va_up a N q) (va_up f N (.inl (kc, N', .inr (.inr (.inr (.inr (fun _ => none)))))))) → va_S A H0 H1 locs →
      W p l e R s m args below meth c H1 locs (cells + 1) (slots + N') Q (F0 m (pc + 3) ls (.ref q :: rest))) : W p l e R s m args below meth c H locs cells slots Q (F0 m pc ls (.int n :: rest)) :=
  va_newq hexec hb hown hclink hover hK hP hD hS hA hn hN hbytes hcells hslots hdg (fun q cA H1 h0 h1 h2 h3 => by
    have e := hkc cA h0
    subst e
    exact kk q H1 (by rw [← ml_up]; exact h1) (by rw [← ml_up]; exact h2) h3)
variable {st0 : List Value} {ar : Array Value} {mc ms : Nat}
/-- a call that makes cells: its world behind it is told by what it hands back -/
theorem ml_callS {S : Type} {N2 : Nat} {a2 : S → Nat → Nat} {f2 : S → Nat → va_E} (hr : va_Run p l e R s m args below meth c H locs cells slots mc ms (F0 m pc ls st0) rest (va_Qv (fun (_ : S) => True) (fun u t => ml_E D cl tys N2 (a2 u) (f2 u) (va_A (ml N a f) H.size) t) (va_A (ml N a f) H.size) ar) (va_A (ml N a f) H.size)) (hD : va_D A (ml N a f)) (hS : va_S A H0 H locs) (hA : ∀ q, H0.size ≤ q → A q)
    (kk : ∀ (u : S) (H1 : Heap) (locs1 : List Loc), va_P D cl (ml N2 (a2 u) (f2 u)) H1 → va_D A (ml N2 (a2 u) (f2 u)) → va_S A H0 H1 locs1 → W p l e R s m args below meth c H1 locs1 (cells + mc) (slots + ms) Q (F0 m (pc + 3) ls rest)) : W p l e R s m args below meth c H locs cells slots Q (F0 m pc ls st0) := by
  have hF := ml_free hD hS hA
  refine va_callv hr hS (fun q _ h => hF q h) hF (fun u t H1 locs1 ht hvm hw hB hz hk hS1 => ?_)
  obtain ⟨hP1, hK1, hD1⟩ := hB
  rw [ht] at hP1
  exact kk u H1 locs1 hP1 (hD1.weaken (fun k q _ h => hF q.1 h)) hS1
theorem ml_vretS {S : Type} {N2 : Nat} {a2 : S → Nat → Nat} {f2 : S → Nat → va_E} (u : S) (hexec : p.tables.exec = Jvm.exec) (hb : c.code = cc) (hr : meth.sig.returnType = none) (hlocks : meth.locks = false) (hP : va_P D cl (ml N2 (a2 u) (f2 u)) H) (hK : va_K D cl tys s) (hD : va_D A (ml N2 (a2 u) (f2 u))) (hS : va_S A s.heap H locs) (hdg : decode cc pc = .ok (.return_, 1)) :
    W p l e R s m args below meth c H locs cells slots (MQ below (va_Qv (fun (_ : S) => True) (fun u t => ml_E D cl tys N2 (a2 u) (f2 u) A t) A) args s cells slots A) (F0 m pc ls []) :=
  W.vret hexec hb hr (fun t ht hW => ⟨⟨u, rfl, trivial, by rw [ht]; exact hP, va_K.moved hW.alike hK, hD⟩, hS.F ht⟩) hS.2.2 hdg hlocks
end GR
section SIDE
variable {D : va_G} {cl : List vw_C} {w1 w2 w3 : va_W} {H H1 : Heap} {A : Nat → Prop}
theorem sd_Pl (h : va_P D cl (w1 ++ w2) H) : va_P D cl w1 H := fun k q hk => h k q (by
  rw [List.getElem?_append_left (List.getElem?_eq_some_iff.mp hk).1]
  exact hk)
theorem sd_Pr (h : va_P D cl (w1 ++ w2) H) : va_P D cl w2 H := fun k q hk => h (w1.length + k) q (by
  rw [List.getElem?_append_right (by omega), Nat.add_sub_cancel_left]
  exact hk)
theorem sd_Dl (h : va_D A (w1 ++ w2)) : va_D A w1 := by
  have at' : ∀ (k : Nat) (q : Nat × va_E), w1[k]? = some q → (w1 ++ w2)[k]? = some q := fun k q hk => by
    rw [List.getElem?_append_left (List.getElem?_eq_some_iff.mp hk).1]
    exact hk
  exact ⟨fun i j x y hi hj hxy => h.1 i j x y (at' i x hi) (at' j y hj) hxy, fun k q hk => h.2 k q (at' k q hk)⟩
theorem sd_Dr (h : va_D A (w1 ++ w2)) : va_D A w2 := by
  have at' : ∀ (k : Nat) (q : Nat × va_E), w2[k]? = some q → (w1 ++ w2)[w1.length + k]? = some q := fun k q hk => by
    rw [List.getElem?_append_right (by omega), Nat.add_sub_cancel_left]
    exact hk
  refine ⟨fun i j x y hi hj hxy => ?_, fun k q hk => h.2 _ q (at' k q hk)⟩
  have := h.1 _ _ x y (at' i x hi) (at' j y hj) hxy
  omega
theorem sd_ne (h : va_D A (w1 ++ w2)) {i j : Nat} {x y : Nat × va_E} (hi : w1[i]? = some x) (hj : w2[j]? = some y) : x.1 ≠ y.1 := by
  intro e
  have hl := (List.getElem?_eq_some_iff.mp hi).1
  have := h.1 i (w1.length + j) x y (by rw [List.getElem?_append_left hl]; exact hi) (by rw [List.getElem?_append_right (by omega), Nat.add_sub_cancel_left]; exact hj) e
  omega
/-- the left one goes on as w3, the right one stays -/
theorem sd_l (hP : va_P D cl (w1 ++ w2) H) (hD : va_D A (w1 ++ w2)) (hk : ∀ q : Nat, q < H.size → ¬ va_A w1 H.size q → H1[q]? = H[q]?) (hF : ∀ q, va_A w1 H.size q → A q) (hP3 : va_P D cl w3 H1) (hD3 : va_D (va_A w1 H.size) w3) : va_P D cl (w3 ++ w2) H1 ∧ va_D A (w3 ++ w2) := by
  have apart : ∀ (k : Nat) (q : Nat × va_E), w2[k]? = some q → q.1 < H.size ∧ ¬ va_A w1 H.size q.1 := by
    intro k q hq
    have hl := (sd_Pr hP k q hq).lt
    refine ⟨hl, fun h => ?_⟩
    rcases h with ⟨k2, e, h⟩ | h
    · exact sd_ne hD h hq rfl
    · omega
  refine ⟨hP3.app (fun k q hq => (sd_Pr hP k q hq).kept (hk q.1 (apart k q hq).1 (apart k q hq).2)), (hD3.weaken (fun k q _ h => hF q.1 h)).app (sd_Dr hD) (fun i j x y hx hy hxy => ?_)⟩
  exact (apart j y hy).2 (by rw [← hxy]; exact hD3.2 i x hx)
/-- the right one goes on as w3, the left one stays -/
theorem sd_r (hP : va_P D cl (w1 ++ w2) H) (hD : va_D A (w1 ++ w2)) (hk : ∀ q : Nat, q < H.size → ¬ va_A w2 H.size q → H1[q]? = H[q]?) (hF : ∀ q, va_A w2 H.size q → A q) (hP3 : va_P D cl w3 H1) (hD3 : va_D (va_A w2 H.size) w3) : va_P D cl (w1 ++ w3) H1 ∧ va_D A (w1 ++ w3) := by
  have apart : ∀ (k : Nat) (q : Nat × va_E), w1[k]? = some q → q.1 < H.size ∧ ¬ va_A w2 H.size q.1 := by
    intro k q hq
    have hl := (sd_Pl hP k q hq).lt
    refine ⟨hl, fun h => ?_⟩
    rcases h with ⟨k2, e, h⟩ | h
    · exact sd_ne hD hq h rfl
    · omega
  refine ⟨va_P.app (fun k q hq => (sd_Pl hP k q hq).kept (hk q.1 (apart k q hq).1 (apart k q hq).2)) hP3, (sd_Dl hD).app (hD3.weaken (fun k q _ h => hF q.1 h)) (fun i j x y hx hy hxy => ?_)⟩
  exact (apart i x hx).2 (by rw [hxy]; exact hD3.2 j y hy)
end SIDE
section SIDE2
variable {p : Program} {l : Launch} {e : Env} {R : Room} {s : State} {m : MethodId} {args : Array Value} {below : List Frame} {meth : Method} {c : Code} {H : Heap} {locs : List Loc} {cells slots : Nat} {Q : State → Prop}
variable {pc : Nat} {ls : Array Slot} {rest : List Value} {D : va_G} {cl : List vw_C} {A : Nat → Prop} {tys : List (ClassId × FieldType)} {H0 : Heap} {N N' : Nat} {a b : Nat → Nat} {f f' g g' : Nat → va_E} {st0 : List Value} {ar : Array Value} {mc ms : Nat}
theorem sd_freel {w1 w2 : va_W} (hD : va_D A (w1 ++ w2)) (hS : va_S A H0 H locs) (hA : ∀ q, H0.size ≤ q → A q) : ∀ q, va_A w1 H.size q → A q := ml_free (sd_Dl hD) hS hA
theorem sd_freer {w1 w2 : va_W} (hD : va_D A (w1 ++ w2)) (hS : va_S A H0 H locs) (hA : ∀ q, H0.size ≤ q → A q) : ∀ q, va_A w2 H.size q → A q := ml_free (sd_Dr hD) hS hA
/-- calls on the left world -/
theorem sd_calli {v : Int32} (hr : va_Run p l e R s m args below meth c H locs cells slots mc ms (F0 m pc ls st0) rest (va_Qi (fun r (_ : Unit) => r = v) (fun _ t => ml_E D cl tys N a f' (va_A (ml N a f) H.size) t) (va_A (ml N a f) H.size) ar) (va_A (ml N a f) H.size)) (hP : va_P D cl (ml N a f ++ ml N' b g) H) (hD : va_D A (ml N a f ++ ml N' b g)) (hS : va_S A H0 H locs) (hA : ∀ q, H0.size ≤ q → A q)
    (kk : ∀ (H1 : Heap) (locs1 : List Loc), va_P D cl (ml N a f' ++ ml N' b g) H1 → va_D A (ml N a f' ++ ml N' b g) → va_S A H0 H1 locs1 → W p l e R s m args below meth c H1 locs1 (cells + mc) (slots + ms) Q (F0 m (pc + 3) ls (.int v :: rest))) : W p l e R s m args below meth c H locs cells slots Q (F0 m pc ls st0) := by
  have hF := sd_freel hD hS hA
  refine va_calli hr hS (fun q _ h => hF q h) hF (fun r u t H1 locs1 ht hvm hw hB hz hk hS1 => ?_)
  obtain ⟨hP1, hK1, hD1⟩ := hB
  rw [ht] at hP1
  rw [hw]
  obtain ⟨h1, h2⟩ := sd_l hP hD hk hF hP1 hD1
  exact kk H1 locs1 h1 h2 hS1
theorem sd_callv (hr : va_Run p l e R s m args below meth c H locs cells slots mc ms (F0 m pc ls st0) rest (va_Qv (fun (_ : Unit) => True) (fun _ t => ml_E D cl tys N a f' (va_A (ml N a f) H.size) t) (va_A (ml N a f) H.size) ar) (va_A (ml N a f) H.size)) (hP : va_P D cl (ml N a f ++ ml N' b g) H) (hD : va_D A (ml N a f ++ ml N' b g)) (hS : va_S A H0 H locs) (hA : ∀ q, H0.size ≤ q → A q)
    (kk : ∀ (H1 : Heap) (locs1 : List Loc), va_P D cl (ml N a f' ++ ml N' b g) H1 → va_D A (ml N a f' ++ ml N' b g) → va_S A H0 H1 locs1 → W p l e R s m args below meth c H1 locs1 (cells + mc) (slots + ms) Q (F0 m (pc + 3) ls rest)) : W p l e R s m args below meth c H locs cells slots Q (F0 m pc ls st0) := by
  have hF := sd_freel hD hS hA
  refine va_callv hr hS (fun q _ h => hF q h) hF (fun u t H1 locs1 ht hvm hw hB hz hk hS1 => ?_)
  obtain ⟨hP1, hK1, hD1⟩ := hB
  rw [ht] at hP1
  obtain ⟨h1, h2⟩ := sd_l hP hD hk hF hP1 hD1
  exact kk H1 locs1 h1 h2 hS1
/-- calls on the right world -/
theorem sr_calli {v : Int32} (hr : va_Run p l e R s m args below meth c H locs cells slots mc ms (F0 m pc ls st0) rest (va_Qi (fun r (_ : Unit) => r = v) (fun _ t => ml_E D cl tys N' b g' (va_A (ml N' b g) H.size) t) (va_A (ml N' b g) H.size) ar) (va_A (ml N' b g) H.size)) (hP : va_P D cl (ml N a f ++ ml N' b g) H) (hD : va_D A (ml N a f ++ ml N' b g)) (hS : va_S A H0 H locs) (hA : ∀ q, H0.size ≤ q → A q)
    (kk : ∀ (H1 : Heap) (locs1 : List Loc), va_P D cl (ml N a f ++ ml N' b g') H1 → va_D A (ml N a f ++ ml N' b g') → va_S A H0 H1 locs1 → W p l e R s m args below meth c H1 locs1 (cells + mc) (slots + ms) Q (F0 m (pc + 3) ls (.int v :: rest))) : W p l e R s m args below meth c H locs cells slots Q (F0 m pc ls st0) := by
  have hF := sd_freer hD hS hA
  refine va_calli hr hS (fun q _ h => hF q h) hF (fun r u t H1 locs1 ht hvm hw hB hz hk hS1 => ?_)
  obtain ⟨hP1, hK1, hD1⟩ := hB
  rw [ht] at hP1
  rw [hw]
  obtain ⟨h1, h2⟩ := sd_r hP hD hk hF hP1 hD1
  exact kk H1 locs1 h1 h2 hS1
theorem sr_callv (hr : va_Run p l e R s m args below meth c H locs cells slots mc ms (F0 m pc ls st0) rest (va_Qv (fun (_ : Unit) => True) (fun _ t => ml_E D cl tys N' b g' (va_A (ml N' b g) H.size) t) (va_A (ml N' b g) H.size) ar) (va_A (ml N' b g) H.size)) (hP : va_P D cl (ml N a f ++ ml N' b g) H) (hD : va_D A (ml N a f ++ ml N' b g)) (hS : va_S A H0 H locs) (hA : ∀ q, H0.size ≤ q → A q)
    (kk : ∀ (H1 : Heap) (locs1 : List Loc), va_P D cl (ml N a f ++ ml N' b g') H1 → va_D A (ml N a f ++ ml N' b g') → va_S A H0 H1 locs1 → W p l e R s m args below meth c H1 locs1 (cells + mc) (slots + ms) Q (F0 m (pc + 3) ls rest)) : W p l e R s m args below meth c H locs cells slots Q (F0 m pc ls st0) := by
  have hF := sd_freer hD hS hA
  refine va_callv hr hS (fun q _ h => hF q h) hF (fun u t H1 locs1 ht hvm hw hB hz hk hS1 => ?_)
  obtain ⟨hP1, hK1, hD1⟩ := hB
  rw [ht] at hP1
  obtain ⟨h1, h2⟩ := sd_r hP hD hk hF hP1 hD1
  exact kk H1 locs1 h1 h2 hS1
end SIDE2
