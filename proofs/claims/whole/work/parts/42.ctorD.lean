/-! The desk's constructor. -/
def d00 : DK := (fun _ _ => 0, fun _ => none, fun _ => none)
def dsD (t : Nat) (a : Nat → Nat) : List Value := [(if 0 < t then .ref (a 1) else .null), (if 1 < t then .ref (a 2) else .null), (if 2 < t then .ref (a 35) else .null), (if 3 < t then .ref (a 52) else .null), .int 0, (if 4 < t then .ref (a 53) else .null), (if 5 < t then .ref (a 55) else .null)]
def gp (kc : Nat → ClassId) (a : Nat → Nat) (ds : List Value) (nf np k : Nat) : va_E :=
  if k = 0 then .inr (0, ds)
  else if k = 2 then .inl (kc 2, 32, .inr (.inr (.inr (.inr (fun j => if j < nf then some (a (j + 3)) else none)))))
  else if k = 35 then .inl (kc 3, 8, .inr (.inr (.inr (.inr (fun j => if j < np then some (a (2 * j + 36)) else none)))))
  else dcell kc a d00 k
theorem gp_0 {kc : Nat → ClassId} {a : Nat → Nat} {ds : List Value} {nf np : Nat} : gp kc a ds nf np 0 = .inr (0, ds) := rfl
theorem gp_2 {kc : Nat → ClassId} {a : Nat → Nat} {ds : List Value} {nf np : Nat} : gp kc a ds nf np 2 = .inl (kc 2, 32, .inr (.inr (.inr (.inr (fun j => if j < nf then some (a (j + 3)) else none))))) := rfl
theorem gp_35 {kc : Nat → ClassId} {a : Nat → Nat} {ds : List Value} {nf np : Nat} : gp kc a ds nf np 35 = .inl (kc 3, 8, .inr (.inr (.inr (.inr (fun j => if j < np then some (a (2 * j + 36)) else none))))) := rfl
theorem gp_e {kc : Nat → ClassId} {a : Nat → Nat} {ds : List Value} {nf np k : Nat} (h0 : k ≠ 0) (h2 : k ≠ 2) (h35 : k ≠ 35) : gp kc a ds nf np k = dcell kc a d00 k := by
  unfold gp
  rw [if_neg h0, if_neg h2, if_neg h35]
theorem dcell_a {kc : Nat → ClassId} {a a' : Nat → Nat} {k : Nat} (h0 : k ≠ 0) (h2 : k ≠ 2) (h35 : k ≠ 35) (hp : 36 ≤ k → k < 52 → k % 2 = 0 → a' (k + 1) = a (k + 1)) (h53 : k = 53 → a' 54 = a 54) (h55 : k = 55 → a' 56 = a 56) : dcell kc a' d00 k = dcell kc a d00 k := by
  unfold dcell
  rw [if_neg h0, if_neg h0]
  by_cases e1 : k = 1
  · rw [if_pos e1, if_pos e1]
    rfl
  rw [if_neg e1, if_neg e1, if_neg h2, if_neg h2]
  by_cases e3 : k < 35
  · rw [if_pos e3, if_pos e3]
    rfl
  rw [if_neg e3, if_neg e3, if_neg h35, if_neg h35]
  by_cases e5 : k < 52
  · rw [if_pos e5, if_pos e5]
    by_cases e6 : k % 2 = 0
    · rw [if_pos e6, if_pos e6]
      have e := hp (by omega) e5 e6
      unfold fsPipe
      rw [show 2 * ((k - 36) / 2) + 37 = k + 1 by omega, e]
    · rw [if_neg e6, if_neg e6]
  rw [if_neg e5, if_neg e5]
  by_cases e7 : k = 52
  · rw [if_pos e7, if_pos e7]
  rw [if_neg e7, if_neg e7]
  by_cases e8 : k = 53
  · rw [if_pos e8, if_pos e8]
    unfold fsCon
    rw [h53 e8]
  rw [if_neg e8, if_neg e8]
  by_cases e9 : k = 54
  · rw [if_pos e9, if_pos e9]
  rw [if_neg e9, if_neg e9]
  by_cases e10 : k = 55
  · rw [if_pos e10, if_pos e10]
    unfold fsScr
    rw [h55 e10]
  rw [if_neg e10, if_neg e10]
/-- the extra words of the tables that the constructor needs -/
def xt (U : State) : Prop := va_AO "HandleDesk$OpenFile" U ∧ va_AO "HandleDesk$Pipe" U ∧ va_Nw (.methodLinkNest "HandleDesk" 38 y_init_C "HandleDesk") U ∧ va_Nw (.methodLinkNest "HandleDesk" 45 y_init_S "HandleDesk") U
theorem xt_warm {s U : State} (hW : s.WarmedH U.vm) (h : xt s) : xt U := ⟨va_AO.moved hW.alike h.1, va_AO.moved hW.alike h.2.1, va_Nw.warmM hW h.2.2.1, va_Nw.warmM hW h.2.2.2⟩
theorem xt_call {U : State} {g : JFrame} {mk : MethodId} {ar : Array Value} (h : xt U) : xt (U.calling g mk ar) := ⟨va_AO.moved (u := U) (U := U.calling g mk ar) (Vm.Alike.refl U.vm) h.1, va_AO.moved (u := U) (U := U.calling g mk ar) (Vm.Alike.refl U.vm) h.2.1, va_Nw.same (u := U) (U := U.calling g mk ar) rfl rfl h.2.2.1, va_Nw.same (u := U) (U := U.calling g mk ar) rfl rfl h.2.2.2⟩
section AX
variable {p : Program} {l : Launch} {e : Env} {R : Room} {s : State} {m : MethodId} {args : Array Value} {below : List Frame} {meth : Method} {c : Code} {H : Heap} {locs : List Loc} {cells slots : Nat} {Q : State → Prop}
variable {cc : ByteArray} {pc : Nat} {ls : Array Slot} {rest : List Value} {D : va_G} {cl : List vw_C} {A : Nat → Prop} {tys : List (ClassId × FieldType)} {H0 : Heap} {N : Nat} {a : Nat → Nat} {f : Nat → va_E}
theorem ml_astqx {xa v : Nat} (hexec : p.tables.exec = Jvm.exec) (hb : c.code = cc) (hK : va_K D cl tys s) (hP : va_P D cl (ml N a f) H) (hD : va_D A (ml N a f)) (hS : va_S A H0 H locs) (q0 t0 qk ci : Nat) {cA : ClassId} {r : vw_C} {n : Nat} {vs : List Value} {g : Nat → Option Nat} (hq : q0 < N) (hxa : a q0 = xa) (he : f q0 = .inl (cA, n, .inr (.inr (.inr (.inr g))))) (ht : tys[t0]? = some (cA, .object r.1)) (hqk : qk < N) (hva : a qk = v) (hev : f qk = .inr (ci, vs)) (hc : cl[ci]? = some r) {i : Int32} (hin : vp_in i n) (hdg : decode cc pc = .ok (.aastore, 1))
    (kk : ∀ (H1 : Heap) (locs1 : List Loc), va_P D cl (ml N a (va_up f q0 (.inl (cA, n, .inr (.inr (.inr (.inr (va_up g i.toNatClampNeg (some v))))))))) H1 → va_D A (ml N a (va_up f q0 (.inl (cA, n, .inr (.inr (.inr (.inr (va_up g i.toNatClampNeg (some v))))))))) → va_S A H0 H1 locs1 → W p l e R s m args below meth c H1 locs1 cells slots Q (F0 m (pc + 1) ls rest)) : W p l e R s m args below meth c H locs cells slots Q (F0 m pc ls (.ref v :: .int i :: .ref xa :: rest)) := by
  subst hxa
  subst hva
  exact va_astq hexec hb hK hP hD hS q0 t0 qk ci (ml_at hq he) ht (ml_at hqk hev) hc hin hdg (fun H1 locs1 h1 h2 h3 => kk H1 locs1 (by rw [← ml_set hq]; exact h1) (by rw [← ml_set hq]; exact h2) h3)
end AX
theorem arr_up {f : Nat → Nat} {a' : Nat → Nat} {i q : Nat} {c : Nat → Nat} (hi : a' (c i) = q) (ho : ∀ j, j < i → a' (c j) = f (c j)) : va_up (fun j => if j < i then some (f (c j)) else none) i (some q) = fun j => if j < i + 1 then some (a' (c j)) else none := by
  funext j
  by_cases e : j = i
  · subst e
    rw [va_up_self, if_pos (by omega), hi]
  · rw [va_up_ne _ _ e]
    by_cases h : j < i
    · rw [if_pos h, if_pos (by omega), ho j h]
    · rw [if_neg h, if_neg (by omega)]
theorem if_c {P : Nat → Prop} [DecidablePred P] {x y : Nat → Nat} (h : ∀ j, P j → x j = y j) : (fun j => if P j then some (x j) else none) = (fun j => if P j then some (y j) else none) := by
  funext j
  by_cases e : P j
  · rw [if_pos e, if_pos e, h j e]
  · rw [if_neg e, if_neg e]
theorem cg_1 {kc : Nat → ClassId} {a a' : Nat → Nat} {i q : Nat} (hi : i < 32) (ha' : a' = va_up a (3 + i) q) : ml (3 + (i + 1)) a' (gp kc a' (dsD 2 a') (i + 1) 0) = ml (3 + i + 1) a' (va_up (va_up (va_up (gp kc a (dsD 2 a) i 0) (3 + i) (.inr (1, [.int 0, .int 0, .int 0, .null, .int 0, .int 0, .int 0, .int 0]))) (3 + i) (.inr (1, ([.int 0, .int 0, .int 0, .null, .int 0, .int 0, .int 0, .int 0] : List Value).set 0 (.int (nI i))))) 2 (.inl (kc 2, 32, .inr (.inr (.inr (.inr (va_up (fun j => if j < i then some (a (j + 3)) else none) i (some q)))))))) := by
  have hn : ∀ k, k ≠ 3 + i → a' k = a k := fun k hk => by rw [ha', va_up_ne _ _ hk]
  have hq : a' (3 + i) = q := by rw [ha', va_up_self]
  show ml (3 + i + 1) a' _ = _
  refine ml_congr (fun _ _ => rfl) (fun k hk => ?_)
  by_cases e2 : k = 2
  · subst e2
    rw [va_up_self, gp_2, arr_up (c := fun j => j + 3) (a' := a') (by rw [← hq]; congr 1; omega) (fun j hj => hn _ (by omega))]
  rw [va_up_ne _ _ e2]
  by_cases e3 : k = 3 + i
  · subst e3
    rw [va_up_self, gp_e (by omega) (by omega) (by omega)]
    have := dc_file kc a' d00 ⟨i, hi⟩
    rw [show (⟨i, hi⟩ : Fin 32).val + 3 = 3 + i from Nat.add_comm i 3] at this
    rw [this]
    rfl
  rw [va_up_ne _ _ e3, va_up_ne _ _ e3]
  by_cases e0 : k = 0
  · subst e0
    rw [gp_0, gp_0]
    unfold dsD
    rw [hn 1 (by omega), hn 2 (by omega)]
    rfl
  rw [gp_e e0 e2 (by omega), gp_e e0 e2 (by omega)]
  exact dcell_a e0 e2 (by omega) (fun _ _ _ => by omega) (fun _ => by omega) (fun _ => by omega)
theorem cg_2 {kc : Nat → ClassId} {a a' : Nat → Nat} {q : Nat} (ha' : a' = va_up a 35 q) : ml 36 a' (gp kc a' (dsD 3 a') 32 0) = ml 36 a' (va_up (va_up (gp kc a (dsD 2 a) 32 0) 35 (.inl (kc 3, 8, .inr (.inr (.inr (.inr (fun _ => none))))))) 0 (.inr (0, (dsD 2 a).set 2 (.ref q)))) := by
  have hn : ∀ k, k ≠ 35 → a' k = a k := fun k hk => by rw [ha', va_up_ne _ _ hk]
  have hq : a' 35 = q := by rw [ha', va_up_self]
  refine ml_congr (fun _ _ => rfl) (fun k hk => ?_)
  by_cases e0 : k = 0
  · subst e0
    rw [va_up_self, gp_0]
    unfold dsD
    rw [hn 1 (by omega), hn 2 (by omega), hq]
    rfl
  rw [va_up_ne _ _ e0]
  by_cases e35 : k = 35
  · subst e35
    rw [va_up_self, gp_35]
    simp
  rw [va_up_ne _ _ e35]
  by_cases e2 : k = 2
  · subst e2
    rw [gp_2, gp_2, if_c (x := fun j => a' (j + 3)) (y := fun j => a (j + 3)) (fun j hj => hn _ (by omega))]
  rw [gp_e e0 e2 e35, gp_e e0 e2 e35]
  exact dcell_a e0 e2 e35 (fun _ _ _ => by omega) (fun _ => by omega) (fun _ => by omega)
theorem cg_3 {kc : Nat → ClassId} {a a1 a' : Nat → Nat} {i q q2 : Nat} (hi : i < 8) (ha1 : a1 = va_up a (36 + 2 * i) q) (ha' : a' = va_up a1 (36 + 2 * i + 1) q2) : ml (36 + 2 * (i + 1)) a' (gp kc a' (dsD 3 a') 32 (i + 1)) = ml (36 + 2 * i + 1 + 1) a' (va_up (va_up (va_up (va_up (gp kc a (dsD 3 a) 32 i) (36 + 2 * i) (.inr (2, [.int 0, .null, .int 0, .int 0, .int 0, .int 0]))) (36 + 2 * i + 1) (.inl (kc 1, 512, .inl (fun _ => 0)))) (36 + 2 * i) (.inr (2, (([.int 0, .null, .int 0, .int 0, .int 0, .int 0] : List Value).set 1 (.ref q2)).set 0 (.int (nI i))))) 35 (.inl (kc 3, 8, .inr (.inr (.inr (.inr (va_up (fun j => if j < i then some (a (2 * j + 36)) else none) i (some q)))))))) := by
  have hn : ∀ k, k ≠ 36 + 2 * i → k ≠ 36 + 2 * i + 1 → a' k = a k := fun k h1 h2 => by rw [ha', va_up_ne _ _ h2, ha1, va_up_ne _ _ h1]
  have hq : a' (36 + 2 * i) = q := by rw [ha', va_up_ne _ _ (by omega), ha1, va_up_self]
  have hq2 : a' (36 + 2 * i + 1) = q2 := by rw [ha', va_up_self]
  rw [show 36 + 2 * (i + 1) = 36 + 2 * i + 1 + 1 by omega]
  refine ml_congr (fun _ _ => rfl) (fun k hk => ?_)
  by_cases e35 : k = 35
  · subst e35
    rw [va_up_self, gp_35, arr_up (c := fun j => 2 * j + 36) (a' := a') (by rw [← hq]; congr 1; omega) (fun j hj => hn _ (by omega) (by omega))]
  rw [va_up_ne _ _ e35]
  by_cases eP : k = 36 + 2 * i
  · subst eP
    rw [va_up_self, gp_e (by omega) (by omega) (by omega)]
    have := dc_pipe kc a' d00 ⟨i, hi⟩
    rw [show 2 * (⟨i, hi⟩ : Fin 8).val + 36 = 36 + 2 * i from Nat.add_comm _ _] at this
    rw [this]
    unfold fsPipe
    rw [show 2 * (⟨i, hi⟩ : Fin 8).val + 37 = 36 + 2 * i + 1 from by show 2 * i + 37 = _; omega, hq2]
    rfl
  rw [va_up_ne _ _ eP]
  by_cases eR : k = 36 + 2 * i + 1
  · subst eR
    rw [va_up_self, gp_e (by omega) (by omega) (by omega)]
    have := dc_ring kc a' d00 ⟨i, hi⟩
    rw [show 2 * (⟨i, hi⟩ : Fin 8).val + 37 = 36 + 2 * i + 1 from by show 2 * i + 37 = _; omega] at this
    rw [this]
    rfl
  rw [va_up_ne _ _ eR, va_up_ne _ _ eP]
  by_cases e0 : k = 0
  · subst e0
    rw [gp_0, gp_0]
    unfold dsD
    rw [hn 1 (by omega) (by omega), hn 2 (by omega) (by omega), hn 35 (by omega) (by omega)]
    rfl
  by_cases e2 : k = 2
  · subst e2
    rw [gp_2, gp_2, if_c (x := fun j => a' (j + 3)) (y := fun j => a (j + 3)) (fun j hj => hn _ (by omega) (by omega))]
  rw [gp_e e0 e2 e35, gp_e e0 e2 e35]
  exact dcell_a e0 e2 e35 (fun _ _ _ => hn _ (by omega) (by omega)) (fun _ => by omega) (fun _ => by omega)
theorem cg_4 {kc : Nat → ClassId} {a a1 a2 a3 a4 a' : Nat → Nat} {q1 q2 q3 q4 q5 : Nat} (h1 : a1 = va_up a 52 q1) (h2 : a2 = va_up a1 53 q2) (h3 : a3 = va_up a2 54 q3) (h4 : a4 = va_up a3 55 q4) (h5 : a' = va_up a4 56 q5) :
    ml 57 a' (dcell kc a' d00) = ml 57 a' (va_up (va_up (va_up (va_up (va_up (va_up (va_up (va_up (va_up (va_up (va_up (gp kc a (dsD 3 a) 32 8) 52 (.inl (kc 0, 16, .inl (fun _ => 0)))) 0 (.inr (0, (dsD 3 a).set 3 (.ref q1)))) 0 (.inr (0, ((dsD 3 a).set 3 (.ref q1)).set 4 (.int 0)))) 53 (.inr (3, [.null, .int 0, .int 0, .int 0]))) 54 (.inl (kc 1, 128, .inl (fun _ => 0)))) 53 (.inr (3, ([.null, .int 0, .int 0, .int 0] : List Value).set 0 (.ref q3)))) 0 (.inr (0, (((dsD 3 a).set 3 (.ref q1)).set 4 (.int 0)).set 5 (.ref q2)))) 55 (.inr (4, [.null, .int 0]))) 56 (.inl (kc 1, 4096, .inl (fun _ => 0)))) 55 (.inr (4, ([.null, .int 0] : List Value).set 0 (.ref q5)))) 0 (.inr (0, ((((dsD 3 a).set 3 (.ref q1)).set 4 (.int 0)).set 5 (.ref q2)).set 6 (.ref q4)))) := by
  subst h1
  subst h2
  subst h3
  subst h4
  subst h5
  refine ml_congr (fun _ _ => rfl) (fun k hk => ?_)
  by_cases e0 : k = 0
  · subst e0; rfl
  by_cases e52 : k = 52
  · subst e52; rfl
  by_cases e53 : k = 53
  · subst e53; rfl
  by_cases e54 : k = 54
  · subst e54; rfl
  by_cases e55 : k = 55
  · subst e55; rfl
  by_cases e56 : k = 56
  · subst e56; rfl
  rw [va_up_ne _ _ e0, va_up_ne _ _ e55, va_up_ne _ _ e56, va_up_ne _ _ e55, va_up_ne _ _ e0, va_up_ne _ _ e53, va_up_ne _ _ e54, va_up_ne _ _ e53, va_up_ne _ _ e0, va_up_ne _ _ e0, va_up_ne _ _ e52]
  have hn : ∀ j, j < 52 → va_up (va_up (va_up (va_up (va_up a 52 q1) 53 q2) 54 q3) 55 q4) 56 q5 j = a j := fun j hj => by rw [va_up_ne _ _ (by omega), va_up_ne _ _ (by omega), va_up_ne _ _ (by omega), va_up_ne _ _ (by omega), va_up_ne _ _ (by omega)]
  by_cases e2 : k = 2
  · subst e2
    rw [gp_2, dc_files, if_c (x := fun j => va_up (va_up (va_up (va_up (va_up a 52 q1) 53 q2) 54 q3) 55 q4) 56 q5 (j + 3)) (y := fun j => a (j + 3)) (fun j hj => hn _ (by omega))]
  by_cases e35 : k = 35
  · subst e35
    rw [gp_35, dc_pipes, if_c (x := fun j => va_up (va_up (va_up (va_up (va_up a 52 q1) 53 q2) 54 q3) 55 q4) 56 q5 (2 * j + 36)) (y := fun j => a (2 * j + 36)) (fun j hj => hn _ (by omega))]
  rw [gp_e e0 e2 e35]
  exact dcell_a e0 e2 e35 (fun _ _ _ => hn _ (by omega)) (fun e => absurd e e53) (fun e => absurd e e55)
