/-! Pure: what the two states have to do with each other. -/
def hv (nm : Nat → Option (Fin 32)) (i k : Nat) : Bool := decide ((nm k).map Fin.val = some i)
/-- how many descriptors name file i -/
def cn (nm : Nat → Option (Fin 32)) (i : Nat) : Nat := ct (hv nm i) 240
def nv (o : Option (Fin 32)) : Nat := match o with
  | none => 0
  | some i => i.val + 1
theorem nv_le (o : Option (Fin 32)) : nv o ≤ 32 := by
  cases o with
  | none => exact Nat.zero_le _
  | some i =>
    have := i.isLt
    show i.val + 1 ≤ 32
    omega
theorem hv_some {nm : Nat → Option (Fin 32)} {i k : Nat} {q : Fin 32} (h : nm k = some q) : hv nm i k = decide (q.val = i) := by
  simp [hv, h]
theorem hv_none {nm : Nat → Option (Fin 32)} {i k : Nat} (h : nm k = none) : hv nm i k = false := by
  simp [hv, h]
theorem hv_nv {nm : Nat → Option (Fin 32)} {i k : Nat} : hv nm i k = decide (nv (nm k) = i + 1) := by
  cases h : nm k with
  | none => simp [hv, h, nv]
  | some q => simp [hv, h, nv]
theorem cn_le (nm : Nat → Option (Fin 32)) (i : Nat) : cn nm i ≤ 240 := ct_le _ _
theorem cn_add {nm : Nat → Option (Fin 32)} {k : Nat} {q : Fin 32} (hk : k < 240) (h : nm k = none) (i : Nat) : cn (va_up nm k (some q)) i = cn nm i + (if q.val = i then 1 else 0) := by
  have h1 := ct_upd (P := hv nm i) (Q := hv (va_up nm k (some q)) i) 240 hk (fun j _ hj => by simp [hv, va_up_ne nm (some q) hj])
  rw [hv_none h, hv_some (va_up_self nm k (some q))] at h1
  simp at h1
  exact h1
theorem cn_del {nm : Nat → Option (Fin 32)} {k : Nat} {q : Fin 32} (hk : k < 240) (h : nm k = some q) (i : Nat) : cn (va_up nm k none) i + (if q.val = i then 1 else 0) = cn nm i := by
  have h1 := ct_upd (P := hv nm i) (Q := hv (va_up nm k none) i) 240 hk (fun j _ hj => by simp [hv, va_up_ne nm none hj])
  rw [hv_none (va_up_self nm k none), hv_some h] at h1
  simp at h1
  exact h1
theorem cn_pos {nm : Nat → Option (Fin 32)} {k : Nat} {q : Fin 32} (hk : k < 240) (h : nm k = some q) : 0 < cn nm q.val := ct_pos 240 hk (by simp [hv, h])
/-- how file i can be used, in the model's word and in the desk's two -/
def HW (hw r w : Int32) : Prop := (hw = 1 ∧ r = 1 ∧ w = 0) ∨ (hw = 2 ∧ r = 0 ∧ w = 1) ∨ (hw = 3 ∧ r = 1 ∧ w = 1)
def FI (d : DK) (mo : MK) (i : Nat) : Prop := d.1 2 i = mo 6 i ∧ d.1 6 i = mo 9 i ∧ HW (mo 8 i) (d.1 4 i) (d.1 5 i) ∧
  ((mo 6 i = 1 ∧ mo 8 i ≠ 3 ∧ ∃ k : Fin 8, d.2.2 i = some k ∧ mo 7 i = nI k.val) ∨ ((mo 6 i = 2 ∨ mo 6 i = 3) ∧ d.2.2 i = none ∧ d.1 3 i = mo 7 i))
/-- file i is the end of pipe k at side sd -/
def isE (nm : Nat → Option (Fin 32)) (mo : MK) (k : Nat) (sd : Int32) (i : Nat) : Prop := i < 32 ∧ 0 < cn nm i ∧ mo 6 i = 1 ∧ mo 7 i = nI k ∧ mo 8 i = sd
def ES (d : DK) (mo : MK) (k c : Nat) (sd : Int32) : Prop := (d.1 c k = 1 ∧ ∃ i, isE d.2.1 mo k sd i ∧ ∀ i', isE d.2.1 mo k sd i' → i' = i) ∨ (d.1 c k = 0 ∧ ∀ i, ¬ isE d.2.1 mo k sd i)
def PC (d : DK) (mo : MK) (k : Nat) : Prop := ∃ n st, n ≤ 512 ∧ st < 512 ∧ d.1 9 k = nI n ∧ mo 10 k = nI n ∧ d.1 8 k = nI st ∧ ∀ j, j < n → d.1 (18 + k) ((st + j) % 512) = mo 11 (512 * k + j) ∧ vp_nar .byte (mo 11 (512 * k + j)) = mo 11 (512 * k + j)
def RF (d : DK) (mo : MK) : Prop := (∀ k, k < 240 → mo 5 k = nI (nv (d.2.1 k))) ∧ (∀ i, i < 32 → d.1 7 i = nI (cn d.2.1 i)) ∧ (∀ i, i < 32 → 0 < cn d.2.1 i → FI d mo i) ∧
  (∀ k, k < 8 → ES d mo k 10 1) ∧ (∀ k, k < 8 → ES d mo k 11 2) ∧ (∀ k, k < 8 → (d.1 10 k = 1 ∨ d.1 11 k = 1) → PC d mo k)
def RL (d : DK) (mo : MK) : Prop := ∃ n, n ≤ 16 ∧ d.1 0 0 = nI n ∧ mo 1 0 = nI n ∧ ∀ j, j < n → d.1 1 j = mo 12 j
def RC (d : DK) (mo : MK) : Prop := ∃ dn n st, dn ≤ n ∧ n ≤ 128 ∧ st < 128 ∧ d.1 13 0 = nI dn ∧ mo 3 0 = nI dn ∧ d.1 14 0 = nI n ∧ mo 2 0 = nI n ∧ d.1 12 0 = nI st ∧ ∀ j, j < n → ∃ b, b < 256 ∧ mo 13 j = nI b ∧ d.1 15 ((st + j) % 128) = sb_b b
def RS (d : DK) (mo : MK) (T : Nat) : Prop := ∃ n, n ≤ T ∧ d.1 16 0 = nI n ∧ mo 4 0 = nI n ∧ ∀ j, j < 4096 → d.1 17 j = mo 14 j
def RR (d : DK) (mo : MK) (T : Nat) : Prop := RF d mo ∧ RL d mo ∧ RC d mo ∧ RS d mo T
theorem isE_c {nm : Nat → Option (Fin 32)} {mo mo' : MK} {k i : Nat} {sd : Int32} (h : ∀ c, 5 ≤ c → c ≤ 11 → mo' c = mo c) : isE nm mo' k sd i ↔ isE nm mo k sd i := by
  unfold isE
  rw [h 6 (by omega) (by omega), h 7 (by omega) (by omega), h 8 (by omega) (by omega)]
theorem RF_c {d d' : DK} {mo mo' : MK} (h2 : d'.2 = d.2) (h1 : ∀ c, 2 ≤ c → c ≤ 11 → d'.1 c = d.1 c) (h3 : ∀ c, 18 ≤ c → d'.1 c = d.1 c) (hm : ∀ c, 5 ≤ c → c ≤ 11 → mo' c = mo c) (h : RF d mo) : RF d' mo' := by
  have es : ∀ k c sd, (c = 10 ∨ c = 11) → ES d mo k c sd → ES d' mo' k c sd := by
    intro k c sd hc hh
    have e1 : d'.1 c = d.1 c := h1 c (by omega) (by omega)
    unfold ES at hh ⊢
    rw [e1, h2]
    rcases hh with ⟨q1, i, q2, q3⟩ | ⟨q1, q2⟩
    · exact Or.inl ⟨q1, i, (isE_c hm).mpr q2, fun i' q => q3 i' ((isE_c hm).mp q)⟩
    · exact Or.inr ⟨q1, fun i q => q2 i ((isE_c hm).mp q)⟩
  obtain ⟨a1, a2, a3, a4, a5, a6⟩ := h
  refine ⟨fun k hk => ?_, fun i hi => ?_, fun i hi ho => ?_, fun k hk => es k 10 1 (Or.inl rfl) (a4 k hk), fun k hk => es k 11 2 (Or.inr rfl) (a5 k hk), fun k hk ho => ?_⟩
  · rw [hm 5 (by omega) (by omega), h2]; exact a1 k hk
  · rw [h1 7 (by omega) (by omega), h2]; exact a2 i hi
  · rw [h2] at ho
    have := a3 i hi ho
    unfold FI at this ⊢
    rw [h1 2 (by omega) (by omega), h1 3 (by omega) (by omega), h1 4 (by omega) (by omega), h1 5 (by omega) (by omega), h1 6 (by omega) (by omega), h2, hm 6 (by omega) (by omega), hm 7 (by omega) (by omega), hm 8 (by omega) (by omega), hm 9 (by omega) (by omega)]
    exact this
  · rw [h1 10 (by omega) (by omega), h1 11 (by omega) (by omega)] at ho
    have := a6 k hk ho
    unfold PC at this ⊢
    rw [h1 8 (by omega) (by omega), h1 9 (by omega) (by omega), h3 (18 + k) (by omega), hm 10 (by omega) (by omega), hm 11 (by omega) (by omega)]
    exact this
theorem RL_c {d d' : DK} {mo mo' : MK} (h0 : d'.1 0 = d.1 0) (h1 : d'.1 1 = d.1 1) (h2 : mo' 1 = mo 1) (h3 : mo' 12 = mo 12) (h : RL d mo) : RL d' mo' := by
  unfold RL at h ⊢
  rw [h0, h1, h2, h3]
  exact h
theorem RC_c {d d' : DK} {mo mo' : MK} (h1 : ∀ c, 12 ≤ c → c ≤ 15 → d'.1 c = d.1 c) (h2 : mo' 2 = mo 2) (h3 : mo' 3 = mo 3) (h4 : mo' 13 = mo 13) (h : RC d mo) : RC d' mo' := by
  unfold RC at h ⊢
  rw [h1 12 (by omega) (by omega), h1 13 (by omega) (by omega), h1 14 (by omega) (by omega), h1 15 (by omega) (by omega), h2, h3, h4]
  exact h
theorem RS_c {d d' : DK} {mo mo' : MK} {T T' : Nat} (hT : T ≤ T') (h1 : d'.1 16 = d.1 16) (h2 : d'.1 17 = d.1 17) (h3 : mo' 4 = mo 4) (h4 : mo' 14 = mo 14) (h : RS d mo T) : RS d' mo' T' := by
  unfold RS at h ⊢
  rw [h1, h2, h3, h4]
  obtain ⟨n, a1, a2⟩ := h
  exact ⟨n, by omega, a2⟩
