/-! Pure: how many of the first n have P; the least from k on that has it not. -/
def ct (P : Nat → Bool) : Nat → Nat
  | 0 => 0
  | n + 1 => ct P n + (if P n then 1 else 0)
theorem ct_le (P : Nat → Bool) : ∀ n, ct P n ≤ n
  | 0 => Nat.le_refl 0
  | n + 1 => by
    have h := ct_le P n
    show ct P n + (if P n then 1 else 0) ≤ n + 1
    split <;> omega
theorem ct_congr {P Q : Nat → Bool} : ∀ n, (∀ j, j < n → P j = Q j) → ct P n = ct Q n
  | 0, _ => rfl
  | n + 1, h => by
    show ct P n + (if P n then 1 else 0) = ct Q n + (if Q n then 1 else 0)
    rw [ct_congr n (fun j hj => h j (by omega)), h n (by omega)]
theorem ct_mono {P : Nat → Bool} {k : Nat} : ∀ n, k ≤ n → ct P k ≤ ct P n
  | 0, h => by
    have : k = 0 := by omega
    subst this
    exact Nat.le_refl _
  | n + 1, h => by
    by_cases hk : k = n + 1
    · subst hk
      exact Nat.le_refl _
    · have := ct_mono (P := P) (k := k) n (by omega)
      show ct P k ≤ ct P n + (if P n then 1 else 0)
      omega
theorem ct_upd {P Q : Nat → Bool} {k : Nat} : ∀ n, k < n → (∀ j, j < n → j ≠ k → Q j = P j) → ct Q n + (if P k then 1 else 0) = ct P n + (if Q k then 1 else 0)
  | 0, h, _ => absurd h (Nat.not_lt_zero k)
  | n + 1, h, hj => by
    show ct Q n + (if Q n then 1 else 0) + (if P k then 1 else 0) = ct P n + (if P n then 1 else 0) + (if Q k then 1 else 0)
    by_cases hk : k = n
    · subst hk
      rw [ct_congr (P := Q) (Q := P) k (fun j h2 => hj j (by omega) (by omega))]
      omega
    · have := ct_upd (P := P) (Q := Q) n (by omega) (fun j h2 h3 => hj j (by omega) h3)
      rw [hj n (by omega) (fun z => hk z.symm)]
      omega
theorem ct_all {P : Nat → Bool} : ∀ n, (∀ j, j < n → P j = true) → ct P n = n
  | 0, _ => rfl
  | n + 1, h => by
    show ct P n + (if P n then 1 else 0) = n + 1
    rw [ct_all n (fun j hj => h j (by omega)), h n (by omega)]
    rfl
theorem ct_none {P : Nat → Bool} : ∀ n, (∀ j, j < n → P j = false) → ct P n = 0
  | 0, _ => rfl
  | n + 1, h => by
    show ct P n + (if P n then 1 else 0) = 0
    rw [ct_none n (fun j hj => h j (by omega)), h n (by omega)]
    rfl
theorem ct_pos {P : Nat → Bool} {k : Nat} : ∀ n, k < n → P k = true → 0 < ct P n
  | 0, h, _ => absurd h (Nat.not_lt_zero k)
  | n + 1, h, hp => by
    show 0 < ct P n + (if P n then 1 else 0)
    by_cases hk : k = n
    · subst hk
      rw [hp]
      simp
    · have := ct_pos (P := P) n (by omega) hp
      omega
theorem ct_ex {P : Nat → Bool} : ∀ n, 0 < ct P n → ∃ k, k < n ∧ P k = true
  | 0, h => absurd h (Nat.not_lt_zero _)
  | n + 1, h => by
    by_cases hp : P n = true
    · exact ⟨n, by omega, hp⟩
    · have h2 : ct P (n + 1) = ct P n := by
        show ct P n + (if P n then 1 else 0) = ct P n
        rw [if_neg hp]
        rfl
      rw [h2] at h
      obtain ⟨k, hk, hq⟩ := ct_ex n h
      exact ⟨k, by omega, hq⟩
theorem ct_lt {P : Nat → Bool} {n k : Nat} (hk : k < n) (hp : P k = false) : ct P n < n := by
  obtain ⟨Q, hQ⟩ : ∃ Q : Nat → Bool, Q = fun j => if j = k then true else P j := ⟨_, rfl⟩
  have hQk : Q k = true := by rw [hQ]; simp
  have h := ct_upd (P := P) (Q := Q) n hk (fun j _ h => by rw [hQ]; simp [h])
  have h2 := ct_le Q n
  rw [hp, hQk] at h
  simp at h
  omega
theorem ct_two {P : Nat → Bool} {n i j : Nat} (hi : i < n) (hj : j < n) (hne : i ≠ j) (h1 : P i = false) (h2 : P j = false) : ct P n + 2 ≤ n := by
  obtain ⟨Q, hQ⟩ : ∃ Q : Nat → Bool, Q = fun q => if q = i then true else P q := ⟨_, rfl⟩
  have hQi : Q i = true := by rw [hQ]; simp
  have hQj : Q j = false := by rw [hQ]; simp [Ne.symm hne, h2]
  have h := ct_upd (P := P) (Q := Q) n hi (fun q _ h => by rw [hQ]; simp [h])
  have h3 := ct_lt (P := Q) (n := n) (k := j) hj hQj
  rw [h1, hQi] at h
  simp at h
  omega
theorem ct_one {P : Nat → Bool} {n i : Nat} (h1 : ∀ j, j < n → j ≠ i → P j = true) : n ≤ ct P n + 1 := by
  by_cases hi : i < n
  · obtain ⟨Q, hQ⟩ : ∃ Q : Nat → Bool, Q = fun q => if q = i then true else P q := ⟨_, rfl⟩
    have hQi : Q i = true := by rw [hQ]; simp
    have h := ct_upd (P := P) (Q := Q) n hi (fun q _ h => by rw [hQ]; simp [h])
    have h3 := ct_all (P := Q) n (fun j hj => by
      rw [hQ]
      by_cases hji : j = i
      · simp [hji]
      · simp [hji, h1 j hj hji])
    rw [h3, hQi] at h
    simp at h
    split at h <;> omega
  · have := ct_all (P := P) n (fun j hj => h1 j hj (by omega))
    omega
/-- the least from k on that has P not; k + n if there is none below -/
def sr (P : Nat → Bool) : Nat → Nat → Nat
  | 0, k => k
  | n + 1, k => if P k then sr P n (k + 1) else k
theorem sr_le (P : Nat → Bool) : ∀ n k, k ≤ sr P n k ∧ sr P n k ≤ k + n
  | 0, k => ⟨Nat.le_refl _, Nat.le_refl _⟩
  | n + 1, k => by
    have h := sr_le P n (k + 1)
    show k ≤ (if P k then sr P n (k + 1) else k) ∧ (if P k then sr P n (k + 1) else k) ≤ k + (n + 1)
    split <;> omega
theorem sr_bef (P : Nat → Bool) : ∀ n k j, k ≤ j → j < sr P n k → P j = true
  | 0, k, j, h1, h2 => by
    have h2 : j < k := h2
    omega
  | n + 1, k, j, h1, h2 => by
    have h2 : j < (if P k then sr P n (k + 1) else k) := h2
    by_cases hp : P k = true
    · rw [if_pos hp] at h2
      by_cases hj : j = k
      · rw [hj]
        exact hp
      · exact sr_bef P n (k + 1) j (by omega) h2
    · rw [if_neg hp] at h2
      omega
theorem sr_at (P : Nat → Bool) : ∀ n k, sr P n k < k + n → P (sr P n k) = false
  | 0, k, h => by
    have h : k < k + 0 := h
    omega
  | n + 1, k, h => by
    have h : (if P k then sr P n (k + 1) else k) < k + (n + 1) := h
    show P (if P k then sr P n (k + 1) else k) = false
    by_cases hp : P k = true
    · rw [if_pos hp] at h ⊢
      exact sr_at P n (k + 1) (by omega)
    · rw [if_neg hp]
      simpa using hp
theorem sr_eq {P : Nat → Bool} {n k r : Nat} (h1 : k ≤ r) (h2 : r ≤ k + n) (h3 : ∀ j, k ≤ j → j < r → P j = true) (h4 : r < k + n → P r = false) : sr P n k = r := by
  have a := sr_le P n k
  have b := sr_bef P n k
  have c := sr_at P n k
  rcases Nat.lt_trichotomy (sr P n k) r with h | h | h
  · have h5 := h3 _ a.1 h
    rw [c (by omega)] at h5
    cases h5
  · exact h
  · have h5 := b r h1 h
    rw [h4 (by omega)] at h5
    cases h5
theorem sr_congr {P Q : Nat → Bool} : ∀ n k, (∀ j, k ≤ j → j < k + n → P j = Q j) → sr P n k = sr Q n k
  | 0, _, _ => rfl
  | n + 1, k, h => by
    show (if P k then sr P n (k + 1) else k) = (if Q k then sr Q n (k + 1) else k)
    rw [h k (Nat.le_refl _) (by omega), sr_congr n (k + 1) (fun j h1 h2 => h j (by omega) (by omega))]
/-- not two have it not, or at least two -/
theorem sr_two {P : Nat → Bool} {n : Nat} (h0 : sr P n 0 < n) : sr P (n - (sr P n 0 + 1)) (sr P n 0 + 1) < n ↔ ct P n + 2 ≤ n := by
  have a := sr_le P (n - (sr P n 0 + 1)) (sr P n 0 + 1)
  have b := sr_bef P (n - (sr P n 0 + 1)) (sr P n 0 + 1)
  have c := sr_at P (n - (sr P n 0 + 1)) (sr P n 0 + 1)
  constructor
  · intro h
    exact ct_two h0 h (by omega) (sr_at P n 0 (by omega)) (c (by omega))
  · intro h
    apply Nat.lt_of_not_le
    intro hn
    have := ct_one (P := P) (n := n) (i := sr P n 0) (fun j hj hne => by
      by_cases hl : j < sr P n 0
      · exact sr_bef P n 0 j (Nat.zero_le _) hl
      · exact b j (by omega) (by omega))
    omega
theorem sr_full {P : Nat → Bool} {n : Nat} : sr P n 0 = n ↔ ct P n = n := by
  constructor
  · intro h
    exact ct_all n (fun j hj => sr_bef P n 0 j (Nat.zero_le _) (by omega))
  · intro h
    have a := sr_le P n 0
    apply Nat.le_antisymm
    · omega
    · apply Nat.le_of_not_lt
      intro hl
      have := ct_lt hl (sr_at P n 0 (by omega))
      omega
/-- a loop that counts -/
theorem lc_eq {L : Nat → Nat → Int32 → Int32} {B : Nat} {P : Nat → Bool} (hL : ∀ n k acc, k ≤ B → L (n + 1) k acc = if k < B then L n (k + 1) (acc + (if P k then 1 else 0)) else acc) : ∀ n k c, k + n = B + 1 → k ≤ B → L n k (nI c) = nI (c + (ct P B - ct P k))
  | 0, k, c, h, hk => by omega
  | n + 1, k, c, h, hk => by
    rw [hL n k _ hk]
    by_cases hB : k < B
    · rw [if_pos hB]
      have e : nI c + (if P k then 1 else 0) = nI (c + (if P k then 1 else 0)) := by
        split
        · exact nI_1 c
        · show nI c + nI 0 = nI (c + 0)
          exact nI_add c 0
      rw [e, lc_eq hL n (k + 1) _ (by omega) (by omega)]
      have h1 := ct_mono (P := P) B (show k + 1 ≤ B by omega)
      have h2 : ct P (k + 1) = ct P k + (if P k then 1 else 0) := rfl
      congr 1
      omega
    · rw [if_neg hB]
      have : k = B := by omega
      subst this
      simp
/-- a loop that seeks -/
theorem ls_eq {α : Type} {L : Nat → Nat → α} {B : Nat} {P : Nat → Bool} {X : Nat → α} {Y : α} (hL : ∀ n k, k ≤ B → L (n + 1) k = if k < B then (if P k then L n (k + 1) else X k) else Y) : ∀ n k, k + n = B + 1 → k ≤ B → L n k = if sr P (B - k) k < B then X (sr P (B - k) k) else Y
  | 0, k, h, hk => by omega
  | n + 1, k, h, hk => by
    rw [hL n k hk]
    by_cases hB : k < B
    · rw [if_pos hB]
      have e : B - k = (B - (k + 1)) + 1 := by omega
      rw [e]
      show _ = if (if P k then sr P (B - (k + 1)) (k + 1) else k) < B then X (if P k then sr P (B - (k + 1)) (k + 1) else k) else Y
      by_cases hp : P k = true
      · rw [if_pos hp, if_pos hp]
        exact ls_eq hL n (k + 1) (by omega) (by omega)
      · rw [if_neg hp, if_neg hp, if_pos hB]
    · rw [if_neg hB]
      have : k = B := by omega
      subst this
      rw [Nat.sub_self]
      show Y = if k < k then X k else Y
      rw [if_neg (Nat.lt_irrefl k)]
