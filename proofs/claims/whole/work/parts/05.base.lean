/-! Numbers: places below a bound, a loop's next step; a number on the stack by another word. -/
theorem in_cmp {x b : Int32} {n : Nat} (hb : b = nI n) (hn : n < 2 ^ 31) (h0 : ¬ x < 0) (h1 : ¬ b ≤ x) : vp_in x n := by
  rcases pk_ix x hn with h | h | ⟨j, hj, rfl⟩
  · exact absurd h h0
  · exact absurd (by rw [hb]; exact h) h1
  · exact vp_in_nI hj hn
theorem in_cmpL {x b : Int32} {n : Nat} (hb : b = nI n) (hn : n < 2 ^ 31) (h0 : ¬ x < 0) (h1 : x < b) : vp_in x n := in_cmp hb hn h0 (Int32.not_le.mpr h1)
theorem lp_adv {b : Int32} {j B : Nat} (hb : b = nI B) (hB : B < 2 ^ 31) (hj : j ≤ B) (h : ¬ b ≤ nI j) : j + 1 ≤ B := by
  apply Nat.lt_of_not_le
  intro hle
  apply h
  rw [hb]
  exact nI_le hle (by omega)
theorem lp_in {b : Int32} {j B : Nat} (hb : b = nI B) (hB : B < 2 ^ 31) (hj : j ≤ B) (h : ¬ b ≤ nI j) : vp_in (nI j) B := vp_in_nI (lp_adv hb hB hj h) hB
theorem cl_lt (b : Int32) : b.toNatClampNeg < 2 ^ 31 := by
  by_cases h : b < 0
  · have h1 : b.toInt < 0 := by simpa using Int32.lt_iff_toInt_lt.mp h
    have h2 : b.toNatClampNeg = b.toInt.toNat := rfl
    rw [h2]
    omega
  · obtain ⟨t, ht, rfl⟩ := nI_of h
    rw [nI_clamp ht]
    exact ht
theorem lp_advB {b : Int32} {j : Nat} (hj : j ≤ b.toNatClampNeg) (h : ¬ b ≤ nI j) : j + 1 ≤ b.toNatClampNeg := by
  have hlt := cl_lt b
  by_cases hb : b < 0
  · exfalso
    apply h
    rw [Int32.le_iff_toInt_le, nI_toInt (by omega)]
    have h1 : b.toInt < 0 := by simpa using Int32.lt_iff_toInt_lt.mp hb
    omega
  · obtain ⟨t, ht, rfl⟩ := nI_of hb
    rw [nI_clamp ht] at hj ⊢
    apply Nat.lt_of_not_le
    intro hle
    exact h (nI_le hle (by omega))
section EQI
variable {p : Program} {l : Launch} {e : Env} {R : Room} {s : State} {m : MethodId} {args : Array Value} {below : List Frame} {meth : Method} {c : Code} {H : Heap} {locs : List Loc} {cells slots : Nat} {Q : State → Prop} {pc : Nat} {ls : Array Slot} {rest : List Value}
theorem lv_eqi {x y : Int32} (h : x = y) (k : W p l e R s m args below meth c H locs cells slots Q (F0 m pc ls (.int y :: rest))) : W p l e R s m args below meth c H locs cells slots Q (F0 m pc ls (.int x :: rest)) := by
  rw [h]
  exact k
theorem ml_isS {α : Type} {o : Option α} {g : α → Nat} {i : α} (h : o = some i) (k : W p l e R s m args below meth c H locs cells slots Q (F0 m pc ls (.ref (g i) :: rest))) : W p l e R s m args below meth c H locs cells slots Q (F0 m pc ls (va_rf (o.map g) :: rest)) := by
  rw [h]
  exact k
theorem ml_isN {α : Type} {o : Option α} {g : α → Nat} (h : o = none) (k : W p l e R s m args below meth c H locs cells slots Q (F0 m pc ls (.null :: rest))) : W p l e R s m args below meth c H locs cells slots Q (F0 m pc ls (va_rf (o.map g) :: rest)) := by
  rw [h]
  exact k
end EQI
theorem pe {α β : Type} (x : α × β) : x = (x.1, x.2) := rfl
