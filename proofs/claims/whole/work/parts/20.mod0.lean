def sp_M_isPlace (pr : Int32) : Int32 :=
  (if pr < (0 : Int32) then (0 : Int32) else (if (15 : Int32) ≤ pr then (0 : Int32) else (1 : Int32)))
abbrev rm_M_isPlace : Room := { frames := 0, cells := 0, slots := 0, locals := 0 }
set_option maxHeartbeats 4000000 in
set_option maxRecDepth 100000 in
theorem c_M_isPlace (l : Launch) (dC : Nat → ClassId) (dI : Nat → Nat → Nat) (kc : Nat → ClassId) (a : Nat → Nat) (sz : Nat) (mo : MK) (pr : Int32) (R' : Int32) (hres : sp_M_isPlace pr = R') : Met l y_M_isPlace ws_M_isPlace rm_M_isPlace (va_Pc [.int pr] (ml_B (dC, dI) vwCl (tysD kc) 11 a (mcell kc a mo) sz)) (va_Qi (fun r (_ : Unit) => r = R') (fun _ t => ml_E (dC, dI) vwCl (tysD kc) 11 a (mcell kc a mo) (va_A (ml 11 a (mcell kc a mo)) sz) t) (va_A (ml 11 a (mcell kc a mo)) sz)) 0 0 (va_A (ml 11 a (mcell kc a mo)) sz) := by
  refine Met.ofW (cc := prog_7_method_3_code) (maxL := 1) (ret := (some .boolean)) (by decide) rfl ?_
  intro p e s m args below meth c s₁ B hml hv
  obtain ⟨rfl, hsz, hP, hK, hD0⟩ := hv
  have hx := B.exec
  have hb := B.bytes
  have hr := B.returns
  have hts := atoms_spec (ws := ws_M_isPlace) B.pre
  have hown : s.vm.findClass "HandleDeskModel" = some m.cls := findClass_of_methodNamed B.named
  have hlocks := B.notSynchronized
  subst hsz
  have hD := hD0.self (sz := s.heap.size)
  generalize hAe : va_A (ml 11 a (mcell kc a mo)) s.heap.size = A at hD ⊢
  have hA : ∀ q : Nat, s.heap.size ≤ q → A q := fun q h => by rw [← hAe]; exact Or.inr h
  have hS : va_S A s.heap s.heap [] := va_S.rf
  have hl := lv_entry ([.int pr]) (n := 1) (Nat.le_of_ble_eq_true rfl)
  rw [lg_entry_eq]
  generalize (lg_sl ([.int pr]) ++ List.replicate (1 - (lg_sl ([.int pr])).length) Slot.unset).toArray = ls at hl ⊢
  have hl : lv_has ls 1 [(0, .int pr)] := hl
  rw [sp_M_isPlace] at hres
  refine lv_iload_n hx hb d_M_isPlace_0 rfl (lv_at hl 0 rfl) ?_
  refine lv_if_lt (tgt := 14) hx hb d_M_isPlace_1 (by decide) (fun h_1 => ?_) (fun h_1 => ?_)
  · rw [if_pos h_1] at hres
    refine lv_iconst (v := 0) hx hb d_M_isPlace_14 (by decide) ?_
    subst hres
    exact ml_zret hx hb hr (by decide) hlocks hP hK hD hS d_M_isPlace_15
  · rw [if_neg h_1] at hres
    refine lv_iload_n hx hb d_M_isPlace_4 rfl (lv_at hl 0 rfl) ?_
    refine lv_bipush (v := 15) hx hb d_M_isPlace_5 (by decide) ?_
    refine lv_icmp_ge (tgt := 14) hx hb d_M_isPlace_7 (by decide) (fun h_2 => ?_) (fun h_2 => ?_)
    · rw [if_pos h_2] at hres
      refine lv_iconst (v := 0) hx hb d_M_isPlace_14 (by decide) ?_
      subst hres
      exact ml_zret hx hb hr (by decide) hlocks hP hK hD hS d_M_isPlace_15
    · rw [if_neg h_2] at hres
      refine lv_iconst (v := 1) hx hb d_M_isPlace_10 (by decide) ?_
      refine lv_goto (tgt := 15) hx hb d_M_isPlace_11 (by decide) ?_
      subst hres
      exact ml_zret hx hb hr (by decide) hlocks hP hK hD hS d_M_isPlace_15
