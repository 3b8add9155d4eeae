/-! The desk's state, the model's state, and the cells that hold them. -/
/-- numbers: component, place. 0 leftCount; 1 leftInodes; of file i: 2 kind, 3 inode, 4 canRead, 5 canWrite, 6 place, 7 names; of pipe k: 8 start, 9 size, 10 readerOpen, 11 writerOpen; 12 console start, 13 done, 14 size, 15 ring; 16 screen total, 17 ring; 18 + k: pipe k's ring -/
abbrev DK : Type := (Nat → Nat → Int32) × (Nat → Option (Fin 32)) × (Nat → Option (Fin 8))
abbrev MK : Type := Nat → Nat → Int32
def u2 (f : Nat → Nat → Int32) (c i : Nat) (v : Int32) : Nat → Nat → Int32 := fun c' i' => if c' = c ∧ i' = i then v else f c' i'
def sI (d : DK) (c i : Nat) (v : Int32) : DK := (u2 d.1 c i v, d.2.1, d.2.2)
def sN (d : DK) (j : Nat) (o : Option (Fin 32)) : DK := (d.1, va_up d.2.1 j o, d.2.2)
def sR (d : DK) (i : Nat) (o : Option (Fin 8)) : DK := (d.1, d.2.1, va_up d.2.2 i o)
theorem u2_s {f : Nat → Nat → Int32} {c i : Nat} {v : Int32} : u2 f c i v c i = v := by simp [u2]
theorem u2_n {f : Nat → Nat → Int32} {c i c' i' : Nat} {v : Int32} (h : ¬ (c' = c ∧ i' = i)) : u2 f c i v c' i' = f c' i' := by simp [u2, h]
theorem u2_row {f : Nat → Nat → Int32} {c i : Nat} {v : Int32} : u2 f c i v c = upd (f c) i v := by
  funext j
  simp [u2, upd]
theorem u2_off {f : Nat → Nat → Int32} {c i c' : Nat} {v : Int32} (h : c' ≠ c) : u2 f c i v c' = f c' := by
  funext j
  simp [u2, h]
theorem sI_n {d : DK} {c i c' i' : Nat} {v : Int32} (h : ¬ (c' = c ∧ i' = i)) : (sI d c i v).1 c' i' = d.1 c' i' := u2_n h
theorem sI_s {d : DK} {c i : Nat} {v : Int32} : (sI d c i v).1 c i = v := u2_s
theorem sI_off {d : DK} {c i c' : Nat} {v : Int32} (h : c' ≠ c) : (sI d c i v).1 c' = d.1 c' := u2_off h
theorem sI_row {d : DK} {c i : Nat} {v : Int32} : (sI d c i v).1 c = upd (d.1 c) i v := u2_row
def fsDesk (a : Nat → Nat) (d : DK) : List Value := [.ref (a (1)), .ref (a (2)), .ref (a (35)), .ref (a (52)), .int (d.1 0 0), .ref (a (53)), .ref (a (55))]
def fsFile (a : Nat → Nat) (d : DK) (i : Nat) : List Value := [.int (nI i), .int (d.1 2 i), .int (d.1 3 i), va_rf ((d.2.2 i).map (fun k => a (2 * k.val + 36))), .int (d.1 4 i), .int (d.1 5 i), .int (d.1 6 i), .int (d.1 7 i)]
def fsPipe (a : Nat → Nat) (d : DK) (k : Nat) : List Value := [.int (nI k), .ref (a (2 * k + 37)), .int (d.1 8 k), .int (d.1 9 k), .int (d.1 10 k), .int (d.1 11 k)]
def fsCon (a : Nat → Nat) (d : DK) : List Value := [.ref (a (54)), .int (d.1 12 0), .int (d.1 13 0), .int (d.1 14 0)]
def fsScr (a : Nat → Nat) (d : DK) : List Value := [.ref (a (56)), .int (d.1 16 0)]
def dcell (kc : Nat → ClassId) (a : Nat → Nat) (d : DK) (k : Nat) : va_E :=
  if k = 0 then .inr (0, fsDesk a d)
  else if k = 1 then .inl (kc 2, 240, .inr (.inr (.inr (.inr (fun j => (d.2.1 j).map (fun i => a (i.val + 3)))))))
  else if k = 2 then .inl (kc 2, 32, .inr (.inr (.inr (.inr (fun j => if j < 32 then some (a (j + 3)) else none)))))
  else if k < 35 then .inr (1, fsFile a d (k - 3))
  else if k = 35 then .inl (kc 3, 8, .inr (.inr (.inr (.inr (fun j => if j < 8 then some (a (2 * j + 36)) else none)))))
  else if k < 52 then (if k % 2 = 0 then .inr (2, fsPipe a d ((k - 36) / 2)) else .inl (kc 1, 512, .inl (d.1 (18 + (k - 36) / 2))))
  else if k = 52 then .inl (kc 0, 16, .inl (d.1 1))
  else if k = 53 then .inr (3, fsCon a d)
  else if k = 54 then .inl (kc 1, 128, .inl (d.1 15))
  else if k = 55 then .inr (4, fsScr a d)
  else if k = 56 then .inl (kc 1, 4096, .inl (d.1 17))
  else .inr (0, [])
abbrev tysD (kc : Nat → ClassId) : List (ClassId × FieldType) := [(kc 0, .int), (kc 1, .byte), (kc 2, .object "HandleDesk$OpenFile"), (kc 3, .object "HandleDesk$Pipe")]
section DC
variable (kc : Nat → ClassId) (a : Nat → Nat) (d : DK)
theorem dc_desk : dcell kc a d 0 = .inr (0, fsDesk a d) := rfl
theorem dc_named : dcell kc a d 1 = .inl (kc 2, 240, .inr (.inr (.inr (.inr (fun j => (d.2.1 j).map (fun i => a (i.val + 3))))))) := rfl
theorem dc_files : dcell kc a d 2 = .inl (kc 2, 32, .inr (.inr (.inr (.inr (fun j => if j < 32 then some (a (j + 3)) else none))))) := rfl
theorem dc_pipes : dcell kc a d 35 = .inl (kc 3, 8, .inr (.inr (.inr (.inr (fun j => if j < 8 then some (a (2 * j + 36)) else none))))) := rfl
theorem dc_left : dcell kc a d 52 = .inl (kc 0, 16, .inl (d.1 1)) := rfl
theorem dc_con : dcell kc a d 53 = .inr (3, fsCon a d) := rfl
theorem dc_cring : dcell kc a d 54 = .inl (kc 1, 128, .inl (d.1 15)) := rfl
theorem dc_scr : dcell kc a d 55 = .inr (4, fsScr a d) := rfl
theorem dc_sring : dcell kc a d 56 = .inl (kc 1, 4096, .inl (d.1 17)) := rfl
theorem dc_file (i : Fin 32) : dcell kc a d (i.val + 3) = .inr (1, fsFile a d i.val) := by
  have h := i.isLt
  unfold dcell
  rw [if_neg (by omega), if_neg (by omega), if_neg (by omega), if_pos (by omega), Nat.add_sub_cancel]
theorem dc_pipe (k : Fin 8) : dcell kc a d (2 * k.val + 36) = .inr (2, fsPipe a d k.val) := by
  have h := k.isLt
  unfold dcell
  rw [if_neg (by omega), if_neg (by omega), if_neg (by omega), if_neg (by omega), if_neg (by omega), if_pos (by omega), if_pos (by omega), show (2 * k.val + 36 - 36) / 2 = k.val by omega]
theorem dc_ring (k : Fin 8) : dcell kc a d (2 * k.val + 37) = .inl (kc 1, 512, .inl (d.1 (18 + k.val))) := by
  have h := k.isLt
  unfold dcell
  rw [if_neg (by omega), if_neg (by omega), if_neg (by omega), if_neg (by omega), if_neg (by omega), if_pos (by omega), if_neg (by omega), show (2 * k.val + 37 - 36) / 2 = k.val by omega]
end DC
theorem lt_file (i : Fin 32) : i.val + 3 < 57 := by have := i.isLt; omega
theorem lt_pipe (k : Fin 8) : 2 * k.val + 36 < 57 := by have := k.isLt; omega
theorem lt_ring (k : Fin 8) : 2 * k.val + 37 < 57 := by have := k.isLt; omega
/-- all cells but those that a change names are the same -/
theorem dcell_same {kc : Nat → ClassId} {a : Nat → Nat} {d d' : DK} {k : Nat} (h0 : k = 0 → d'.1 0 0 = d.1 0 0) (h1 : k = 1 → d'.2.1 = d.2.1)
    (hf : ∀ i, i < 32 → k = i + 3 → d'.1 2 i = d.1 2 i ∧ d'.1 3 i = d.1 3 i ∧ d'.1 4 i = d.1 4 i ∧ d'.1 5 i = d.1 5 i ∧ d'.1 6 i = d.1 6 i ∧ d'.1 7 i = d.1 7 i ∧ d'.2.2 i = d.2.2 i)
    (hp : ∀ i, i < 8 → k = 2 * i + 36 → d'.1 8 i = d.1 8 i ∧ d'.1 9 i = d.1 9 i ∧ d'.1 10 i = d.1 10 i ∧ d'.1 11 i = d.1 11 i)
    (hr : ∀ i, i < 8 → k = 2 * i + 37 → d'.1 (18 + i) = d.1 (18 + i)) (h52 : k = 52 → d'.1 1 = d.1 1) (h53 : k = 53 → d'.1 12 0 = d.1 12 0 ∧ d'.1 13 0 = d.1 13 0 ∧ d'.1 14 0 = d.1 14 0)
    (h54 : k = 54 → d'.1 15 = d.1 15) (h55 : k = 55 → d'.1 16 0 = d.1 16 0) (h56 : k = 56 → d'.1 17 = d.1 17) : dcell kc a d' k = dcell kc a d k := by
  unfold dcell
  by_cases e0 : k = 0
  · rw [if_pos e0, if_pos e0]; simp only [fsDesk, h0 e0]
  rw [if_neg e0, if_neg e0]
  by_cases e1 : k = 1
  · rw [if_pos e1, if_pos e1]; simp only [h1 e1]
  rw [if_neg e1, if_neg e1]
  by_cases e2 : k = 2
  · rw [if_pos e2, if_pos e2]
  rw [if_neg e2, if_neg e2]
  by_cases e3 : k < 35
  · rw [if_pos e3, if_pos e3]
    obtain ⟨q1, q2, q3, q4, q5, q6, q7⟩ := hf (k - 3) (by omega) (by omega)
    simp only [fsFile, q1, q2, q3, q4, q5, q6, q7]
  rw [if_neg e3, if_neg e3]
  by_cases e4 : k = 35
  · rw [if_pos e4, if_pos e4]
  rw [if_neg e4, if_neg e4]
  by_cases e5 : k < 52
  · rw [if_pos e5, if_pos e5]
    by_cases e6 : k % 2 = 0
    · rw [if_pos e6, if_pos e6]
      obtain ⟨q1, q2, q3, q4⟩ := hp ((k - 36) / 2) (by omega) (by omega)
      simp only [fsPipe, q1, q2, q3, q4]
    · rw [if_neg e6, if_neg e6, hr ((k - 36) / 2) (by omega) (by omega)]
  rw [if_neg e5, if_neg e5]
  by_cases e7 : k = 52
  · rw [if_pos e7, if_pos e7, h52 e7]
  rw [if_neg e7, if_neg e7]
  by_cases e8 : k = 53
  · rw [if_pos e8, if_pos e8]
    obtain ⟨q1, q2, q3⟩ := h53 e8
    simp only [fsCon, q1, q2, q3]
  rw [if_neg e8, if_neg e8]
  by_cases e9 : k = 54
  · rw [if_pos e9, if_pos e9, h54 e9]
  rw [if_neg e9, if_neg e9]
  by_cases e10 : k = 55
  · rw [if_pos e10, if_pos e10]
    simp only [fsScr, h55 e10]
  rw [if_neg e10, if_neg e10]
  by_cases e11 : k = 56
  · rw [if_pos e11, if_pos e11, h56 e11]
  rw [if_neg e11, if_neg e11]
section DW
variable {kc : Nat → ClassId} {a : Nat → Nat} {d : DK}
theorem dw_x {d' : DK} {q : Nat} {e : va_E} (h1 : dcell kc a d' q = e) (h2 : ∀ k, k ≠ q → dcell kc a d' k = dcell kc a d k) : dcell kc a d' = va_up (dcell kc a d) q e := by
  funext k
  by_cases hk : k = q
  · subst hk
    rw [va_up_self, h1]
  · rw [va_up_ne _ _ hk, h2 k hk]
theorem dw_0 (v : Int32) : dcell kc a (sI d 0 0 v) = va_up (dcell kc a d) 0 (.inr (0, (fsDesk a d).set 4 (.int v))) :=
  dw_x (by rw [dc_desk]; simp [fsDesk, sI, u2]) (fun k hk => dcell_same (fun e => absurd e hk) (fun _ => rfl) (fun j _ _ => ⟨sI_n (by omega), sI_n (by omega), sI_n (by omega), sI_n (by omega), sI_n (by omega), sI_n (by omega), rfl⟩) (fun j _ _ => ⟨sI_n (by omega), sI_n (by omega), sI_n (by omega), sI_n (by omega)⟩) (fun j _ _ => sI_off (by omega)) (fun _ => sI_off (by omega)) (fun _ => ⟨sI_n (by omega), sI_n (by omega), sI_n (by omega)⟩) (fun _ => sI_off (by omega)) (fun _ => sI_n (by omega)) (fun _ => sI_off (by omega)))
theorem dw_2 (i : Fin 32) (v : Int32) : dcell kc a (sI d 2 i.val v) = va_up (dcell kc a d) (i.val + 3) (.inr (1, (fsFile a d i.val).set 1 (.int v))) :=
  dw_x (by rw [dc_file]; simp [fsFile, sI, u2]) (fun k hk => dcell_same (fun _ => sI_n (by omega)) (fun _ => rfl) (fun j _ _ => ⟨sI_n (by omega), sI_n (by omega), sI_n (by omega), sI_n (by omega), sI_n (by omega), sI_n (by omega), rfl⟩) (fun j _ _ => ⟨sI_n (by omega), sI_n (by omega), sI_n (by omega), sI_n (by omega)⟩) (fun j _ _ => sI_off (by omega)) (fun _ => sI_off (by omega)) (fun _ => ⟨sI_n (by omega), sI_n (by omega), sI_n (by omega)⟩) (fun _ => sI_off (by omega)) (fun _ => sI_n (by omega)) (fun _ => sI_off (by omega)))
theorem dw_3 (i : Fin 32) (v : Int32) : dcell kc a (sI d 3 i.val v) = va_up (dcell kc a d) (i.val + 3) (.inr (1, (fsFile a d i.val).set 2 (.int v))) :=
  dw_x (by rw [dc_file]; simp [fsFile, sI, u2]) (fun k hk => dcell_same (fun _ => sI_n (by omega)) (fun _ => rfl) (fun j _ _ => ⟨sI_n (by omega), sI_n (by omega), sI_n (by omega), sI_n (by omega), sI_n (by omega), sI_n (by omega), rfl⟩) (fun j _ _ => ⟨sI_n (by omega), sI_n (by omega), sI_n (by omega), sI_n (by omega)⟩) (fun j _ _ => sI_off (by omega)) (fun _ => sI_off (by omega)) (fun _ => ⟨sI_n (by omega), sI_n (by omega), sI_n (by omega)⟩) (fun _ => sI_off (by omega)) (fun _ => sI_n (by omega)) (fun _ => sI_off (by omega)))
theorem dw_4 (i : Fin 32) (v : Int32) : dcell kc a (sI d 4 i.val v) = va_up (dcell kc a d) (i.val + 3) (.inr (1, (fsFile a d i.val).set 4 (.int v))) :=
  dw_x (by rw [dc_file]; simp [fsFile, sI, u2]) (fun k hk => dcell_same (fun _ => sI_n (by omega)) (fun _ => rfl) (fun j _ _ => ⟨sI_n (by omega), sI_n (by omega), sI_n (by omega), sI_n (by omega), sI_n (by omega), sI_n (by omega), rfl⟩) (fun j _ _ => ⟨sI_n (by omega), sI_n (by omega), sI_n (by omega), sI_n (by omega)⟩) (fun j _ _ => sI_off (by omega)) (fun _ => sI_off (by omega)) (fun _ => ⟨sI_n (by omega), sI_n (by omega), sI_n (by omega)⟩) (fun _ => sI_off (by omega)) (fun _ => sI_n (by omega)) (fun _ => sI_off (by omega)))
theorem dw_5 (i : Fin 32) (v : Int32) : dcell kc a (sI d 5 i.val v) = va_up (dcell kc a d) (i.val + 3) (.inr (1, (fsFile a d i.val).set 5 (.int v))) :=
  dw_x (by rw [dc_file]; simp [fsFile, sI, u2]) (fun k hk => dcell_same (fun _ => sI_n (by omega)) (fun _ => rfl) (fun j _ _ => ⟨sI_n (by omega), sI_n (by omega), sI_n (by omega), sI_n (by omega), sI_n (by omega), sI_n (by omega), rfl⟩) (fun j _ _ => ⟨sI_n (by omega), sI_n (by omega), sI_n (by omega), sI_n (by omega)⟩) (fun j _ _ => sI_off (by omega)) (fun _ => sI_off (by omega)) (fun _ => ⟨sI_n (by omega), sI_n (by omega), sI_n (by omega)⟩) (fun _ => sI_off (by omega)) (fun _ => sI_n (by omega)) (fun _ => sI_off (by omega)))
theorem dw_6 (i : Fin 32) (v : Int32) : dcell kc a (sI d 6 i.val v) = va_up (dcell kc a d) (i.val + 3) (.inr (1, (fsFile a d i.val).set 6 (.int v))) :=
  dw_x (by rw [dc_file]; simp [fsFile, sI, u2]) (fun k hk => dcell_same (fun _ => sI_n (by omega)) (fun _ => rfl) (fun j _ _ => ⟨sI_n (by omega), sI_n (by omega), sI_n (by omega), sI_n (by omega), sI_n (by omega), sI_n (by omega), rfl⟩) (fun j _ _ => ⟨sI_n (by omega), sI_n (by omega), sI_n (by omega), sI_n (by omega)⟩) (fun j _ _ => sI_off (by omega)) (fun _ => sI_off (by omega)) (fun _ => ⟨sI_n (by omega), sI_n (by omega), sI_n (by omega)⟩) (fun _ => sI_off (by omega)) (fun _ => sI_n (by omega)) (fun _ => sI_off (by omega)))
theorem dw_7 (i : Fin 32) (v : Int32) : dcell kc a (sI d 7 i.val v) = va_up (dcell kc a d) (i.val + 3) (.inr (1, (fsFile a d i.val).set 7 (.int v))) :=
  dw_x (by rw [dc_file]; simp [fsFile, sI, u2]) (fun k hk => dcell_same (fun _ => sI_n (by omega)) (fun _ => rfl) (fun j _ _ => ⟨sI_n (by omega), sI_n (by omega), sI_n (by omega), sI_n (by omega), sI_n (by omega), sI_n (by omega), rfl⟩) (fun j _ _ => ⟨sI_n (by omega), sI_n (by omega), sI_n (by omega), sI_n (by omega)⟩) (fun j _ _ => sI_off (by omega)) (fun _ => sI_off (by omega)) (fun _ => ⟨sI_n (by omega), sI_n (by omega), sI_n (by omega)⟩) (fun _ => sI_off (by omega)) (fun _ => sI_n (by omega)) (fun _ => sI_off (by omega)))
theorem dw_8 (i : Fin 8) (v : Int32) : dcell kc a (sI d 8 i.val v) = va_up (dcell kc a d) (2 * i.val + 36) (.inr (2, (fsPipe a d i.val).set 2 (.int v))) :=
  dw_x (by rw [dc_pipe]; simp [fsPipe, sI, u2]) (fun k hk => dcell_same (fun _ => sI_n (by omega)) (fun _ => rfl) (fun j _ _ => ⟨sI_n (by omega), sI_n (by omega), sI_n (by omega), sI_n (by omega), sI_n (by omega), sI_n (by omega), rfl⟩) (fun j _ _ => ⟨sI_n (by omega), sI_n (by omega), sI_n (by omega), sI_n (by omega)⟩) (fun j _ _ => sI_off (by omega)) (fun _ => sI_off (by omega)) (fun _ => ⟨sI_n (by omega), sI_n (by omega), sI_n (by omega)⟩) (fun _ => sI_off (by omega)) (fun _ => sI_n (by omega)) (fun _ => sI_off (by omega)))
theorem dw_9 (i : Fin 8) (v : Int32) : dcell kc a (sI d 9 i.val v) = va_up (dcell kc a d) (2 * i.val + 36) (.inr (2, (fsPipe a d i.val).set 3 (.int v))) :=
  dw_x (by rw [dc_pipe]; simp [fsPipe, sI, u2]) (fun k hk => dcell_same (fun _ => sI_n (by omega)) (fun _ => rfl) (fun j _ _ => ⟨sI_n (by omega), sI_n (by omega), sI_n (by omega), sI_n (by omega), sI_n (by omega), sI_n (by omega), rfl⟩) (fun j _ _ => ⟨sI_n (by omega), sI_n (by omega), sI_n (by omega), sI_n (by omega)⟩) (fun j _ _ => sI_off (by omega)) (fun _ => sI_off (by omega)) (fun _ => ⟨sI_n (by omega), sI_n (by omega), sI_n (by omega)⟩) (fun _ => sI_off (by omega)) (fun _ => sI_n (by omega)) (fun _ => sI_off (by omega)))
theorem dw_10 (i : Fin 8) (v : Int32) : dcell kc a (sI d 10 i.val v) = va_up (dcell kc a d) (2 * i.val + 36) (.inr (2, (fsPipe a d i.val).set 4 (.int v))) :=
  dw_x (by rw [dc_pipe]; simp [fsPipe, sI, u2]) (fun k hk => dcell_same (fun _ => sI_n (by omega)) (fun _ => rfl) (fun j _ _ => ⟨sI_n (by omega), sI_n (by omega), sI_n (by omega), sI_n (by omega), sI_n (by omega), sI_n (by omega), rfl⟩) (fun j _ _ => ⟨sI_n (by omega), sI_n (by omega), sI_n (by omega), sI_n (by omega)⟩) (fun j _ _ => sI_off (by omega)) (fun _ => sI_off (by omega)) (fun _ => ⟨sI_n (by omega), sI_n (by omega), sI_n (by omega)⟩) (fun _ => sI_off (by omega)) (fun _ => sI_n (by omega)) (fun _ => sI_off (by omega)))
theorem dw_11 (i : Fin 8) (v : Int32) : dcell kc a (sI d 11 i.val v) = va_up (dcell kc a d) (2 * i.val + 36) (.inr (2, (fsPipe a d i.val).set 5 (.int v))) :=
  dw_x (by rw [dc_pipe]; simp [fsPipe, sI, u2]) (fun k hk => dcell_same (fun _ => sI_n (by omega)) (fun _ => rfl) (fun j _ _ => ⟨sI_n (by omega), sI_n (by omega), sI_n (by omega), sI_n (by omega), sI_n (by omega), sI_n (by omega), rfl⟩) (fun j _ _ => ⟨sI_n (by omega), sI_n (by omega), sI_n (by omega), sI_n (by omega)⟩) (fun j _ _ => sI_off (by omega)) (fun _ => sI_off (by omega)) (fun _ => ⟨sI_n (by omega), sI_n (by omega), sI_n (by omega)⟩) (fun _ => sI_off (by omega)) (fun _ => sI_n (by omega)) (fun _ => sI_off (by omega)))
theorem dw_12 (v : Int32) : dcell kc a (sI d 12 0 v) = va_up (dcell kc a d) 53 (.inr (3, (fsCon a d).set 1 (.int v))) :=
  dw_x (by rw [dc_con]; simp [fsCon, sI, u2]) (fun k hk => dcell_same (fun _ => sI_n (by omega)) (fun _ => rfl) (fun j _ _ => ⟨sI_n (by omega), sI_n (by omega), sI_n (by omega), sI_n (by omega), sI_n (by omega), sI_n (by omega), rfl⟩) (fun j _ _ => ⟨sI_n (by omega), sI_n (by omega), sI_n (by omega), sI_n (by omega)⟩) (fun j _ _ => sI_off (by omega)) (fun _ => sI_off (by omega)) (fun e => absurd e hk) (fun _ => sI_off (by omega)) (fun _ => sI_n (by omega)) (fun _ => sI_off (by omega)))
theorem dw_13 (v : Int32) : dcell kc a (sI d 13 0 v) = va_up (dcell kc a d) 53 (.inr (3, (fsCon a d).set 2 (.int v))) :=
  dw_x (by rw [dc_con]; simp [fsCon, sI, u2]) (fun k hk => dcell_same (fun _ => sI_n (by omega)) (fun _ => rfl) (fun j _ _ => ⟨sI_n (by omega), sI_n (by omega), sI_n (by omega), sI_n (by omega), sI_n (by omega), sI_n (by omega), rfl⟩) (fun j _ _ => ⟨sI_n (by omega), sI_n (by omega), sI_n (by omega), sI_n (by omega)⟩) (fun j _ _ => sI_off (by omega)) (fun _ => sI_off (by omega)) (fun e => absurd e hk) (fun _ => sI_off (by omega)) (fun _ => sI_n (by omega)) (fun _ => sI_off (by omega)))
theorem dw_14 (v : Int32) : dcell kc a (sI d 14 0 v) = va_up (dcell kc a d) 53 (.inr (3, (fsCon a d).set 3 (.int v))) :=
  dw_x (by rw [dc_con]; simp [fsCon, sI, u2]) (fun k hk => dcell_same (fun _ => sI_n (by omega)) (fun _ => rfl) (fun j _ _ => ⟨sI_n (by omega), sI_n (by omega), sI_n (by omega), sI_n (by omega), sI_n (by omega), sI_n (by omega), rfl⟩) (fun j _ _ => ⟨sI_n (by omega), sI_n (by omega), sI_n (by omega), sI_n (by omega)⟩) (fun j _ _ => sI_off (by omega)) (fun _ => sI_off (by omega)) (fun e => absurd e hk) (fun _ => sI_off (by omega)) (fun _ => sI_n (by omega)) (fun _ => sI_off (by omega)))
theorem dw_16 (v : Int32) : dcell kc a (sI d 16 0 v) = va_up (dcell kc a d) 55 (.inr (4, (fsScr a d).set 1 (.int v))) :=
  dw_x (by rw [dc_scr]; simp [fsScr, sI, u2]) (fun k hk => dcell_same (fun _ => sI_n (by omega)) (fun _ => rfl) (fun j _ _ => ⟨sI_n (by omega), sI_n (by omega), sI_n (by omega), sI_n (by omega), sI_n (by omega), sI_n (by omega), rfl⟩) (fun j _ _ => ⟨sI_n (by omega), sI_n (by omega), sI_n (by omega), sI_n (by omega)⟩) (fun j _ _ => sI_off (by omega)) (fun _ => sI_off (by omega)) (fun _ => ⟨sI_n (by omega), sI_n (by omega), sI_n (by omega)⟩) (fun _ => sI_off (by omega)) (fun e => absurd e hk) (fun _ => sI_off (by omega)))
theorem dw_row (i : Fin 32) (o : Option (Fin 8)) : dcell kc a (sR d i.val o) = va_up (dcell kc a d) (i.val + 3) (.inr (1, (fsFile a d i.val).set 3 (va_rf (o.map (fun k => a (2 * k.val + 36)))))) :=
  dw_x (by rw [dc_file]; simp [fsFile, sR, va_up]) (fun k hk => dcell_same (fun _ => rfl) (fun _ => rfl) (fun j _ e => ⟨rfl, rfl, rfl, rfl, rfl, rfl, va_up_ne _ _ (by omega)⟩) (fun _ _ _ => ⟨rfl, rfl, rfl, rfl⟩) (fun _ _ _ => rfl) (fun _ => rfl) (fun _ => ⟨rfl, rfl, rfl⟩) (fun _ => rfl) (fun _ => rfl) (fun _ => rfl))
theorem dw_named {j : Nat} {o : Option (Fin 32)} : dcell kc a (sN d j o) = va_up (dcell kc a d) 1 (.inl (kc 2, 240, .inr (.inr (.inr (.inr (fun q => (va_up d.2.1 j o q).map (fun i => a (i.val + 3)))))))) :=
  dw_x rfl (fun k hk => dcell_same (fun _ => rfl) (fun e => absurd e hk) (fun _ _ _ => ⟨rfl, rfl, rfl, rfl, rfl, rfl, rfl⟩) (fun _ _ _ => ⟨rfl, rfl, rfl, rfl⟩) (fun _ _ _ => rfl) (fun _ => rfl) (fun _ => ⟨rfl, rfl, rfl⟩) (fun _ => rfl) (fun _ => rfl) (fun _ => rfl))
theorem dw_left (j : Nat) (v : Int32) : dcell kc a (sI d 1 j v) = va_up (dcell kc a d) 52 (.inl (kc 0, 16, .inl (upd (d.1 1) j v))) :=
  dw_x (by rw [dc_left]; show (Sum.inl (kc 0, 16, Sum.inl (u2 d.1 1 j v 1)) : va_E) = _; rw [u2_row]) (fun k hk => dcell_same (fun _ => sI_n (by omega)) (fun _ => rfl) (fun j _ _ => ⟨sI_n (by omega), sI_n (by omega), sI_n (by omega), sI_n (by omega), sI_n (by omega), sI_n (by omega), rfl⟩) (fun j _ _ => ⟨sI_n (by omega), sI_n (by omega), sI_n (by omega), sI_n (by omega)⟩) (fun j _ _ => sI_off (by omega)) (fun e => absurd e hk) (fun _ => ⟨sI_n (by omega), sI_n (by omega), sI_n (by omega)⟩) (fun _ => sI_off (by omega)) (fun _ => sI_n (by omega)) (fun _ => sI_off (by omega)))
theorem dw_cring (j : Nat) (v : Int32) : dcell kc a (sI d 15 j v) = va_up (dcell kc a d) 54 (.inl (kc 1, 128, .inl (upd (d.1 15) j v))) :=
  dw_x (by rw [dc_cring]; show (Sum.inl (kc 1, 128, Sum.inl (u2 d.1 15 j v 15)) : va_E) = _; rw [u2_row]) (fun k hk => dcell_same (fun _ => sI_n (by omega)) (fun _ => rfl) (fun j _ _ => ⟨sI_n (by omega), sI_n (by omega), sI_n (by omega), sI_n (by omega), sI_n (by omega), sI_n (by omega), rfl⟩) (fun j _ _ => ⟨sI_n (by omega), sI_n (by omega), sI_n (by omega), sI_n (by omega)⟩) (fun j _ _ => sI_off (by omega)) (fun _ => sI_off (by omega)) (fun _ => ⟨sI_n (by omega), sI_n (by omega), sI_n (by omega)⟩) (fun e => absurd e hk) (fun _ => sI_n (by omega)) (fun _ => sI_off (by omega)))
theorem dw_sring (j : Nat) (v : Int32) : dcell kc a (sI d 17 j v) = va_up (dcell kc a d) 56 (.inl (kc 1, 4096, .inl (upd (d.1 17) j v))) :=
  dw_x (by rw [dc_sring]; show (Sum.inl (kc 1, 4096, Sum.inl (u2 d.1 17 j v 17)) : va_E) = _; rw [u2_row]) (fun k hk => dcell_same (fun _ => sI_n (by omega)) (fun _ => rfl) (fun j _ _ => ⟨sI_n (by omega), sI_n (by omega), sI_n (by omega), sI_n (by omega), sI_n (by omega), sI_n (by omega), rfl⟩) (fun j _ _ => ⟨sI_n (by omega), sI_n (by omega), sI_n (by omega), sI_n (by omega)⟩) (fun j _ _ => sI_off (by omega)) (fun _ => sI_off (by omega)) (fun _ => ⟨sI_n (by omega), sI_n (by omega), sI_n (by omega)⟩) (fun _ => sI_off (by omega)) (fun _ => sI_n (by omega)) (fun e => absurd e hk))
theorem dw_ring (i : Fin 8) (j : Nat) (v : Int32) : dcell kc a (sI d (18 + i.val) j v) = va_up (dcell kc a d) (2 * i.val + 37) (.inl (kc 1, 512, .inl (upd (d.1 (18 + i.val)) j v))) :=
  dw_x (by rw [dc_ring]; show (Sum.inl (kc 1, 512, Sum.inl (u2 d.1 (18 + i.val) j v (18 + i.val))) : va_E) = _; rw [u2_row]) (fun k hk => dcell_same (fun _ => sI_n (by omega)) (fun _ => rfl) (fun j _ _ => ⟨sI_n (by omega), sI_n (by omega), sI_n (by omega), sI_n (by omega), sI_n (by omega), sI_n (by omega), rfl⟩) (fun j _ _ => ⟨sI_n (by omega), sI_n (by omega), sI_n (by omega), sI_n (by omega)⟩) (fun j _ _ => sI_off (by omega)) (fun _ => sI_off (by omega)) (fun _ => ⟨sI_n (by omega), sI_n (by omega), sI_n (by omega)⟩) (fun _ => sI_off (by omega)) (fun _ => sI_n (by omega)) (fun _ => sI_off (by omega)))
end DW
def fsMod (b : Nat → Nat) (mo : MK) : List Value := [.int (mo 0 0), .ref (b (1)), .ref (b (2)), .ref (b (3)), .ref (b (4)), .ref (b (5)), .ref (b (6)), .ref (b (7)), .int (mo 1 0), .ref (b (8)), .int (mo 2 0), .int (mo 3 0), .ref (b (9)), .int (mo 4 0), .ref (b (10))]
def mcell (kc : Nat → ClassId) (b : Nat → Nat) (m : MK) (k : Nat) : va_E :=
  if k = 0 then .inr (5, fsMod b m)
  else if k = 1 then .inl (kc 0, 240, .inl (m 5))
  else if k = 2 then .inl (kc 0, 32, .inl (m 6))
  else if k = 3 then .inl (kc 0, 32, .inl (m 7))
  else if k = 4 then .inl (kc 0, 32, .inl (m 8))
  else if k = 5 then .inl (kc 0, 32, .inl (m 9))
  else if k = 6 then .inl (kc 0, 8, .inl (m 10))
  else if k = 7 then .inl (kc 1, 4096, .inl (m 11))
  else if k = 8 then .inl (kc 0, 16, .inl (m 12))
  else if k = 9 then .inl (kc 0, 128, .inl (m 13))
  else if k = 10 then .inl (kc 1, 4096, .inl (m 14))
  else .inr (0, [])
section MC
variable (kc : Nat → ClassId) (a : Nat → Nat) (m : MK)
theorem mc_mod : mcell kc a m 0 = .inr (5, fsMod a m) := rfl
theorem mc_names : mcell kc a m 1 = .inl (kc 0, 240, .inl (m 5)) := rfl
theorem mc_kind : mcell kc a m 2 = .inl (kc 0, 32, .inl (m 6)) := rfl
theorem mc_what : mcell kc a m 3 = .inl (kc 0, 32, .inl (m 7)) := rfl
theorem mc_how : mcell kc a m 4 = .inl (kc 0, 32, .inl (m 8)) := rfl
theorem mc_place : mcell kc a m 5 = .inl (kc 0, 32, .inl (m 9)) := rfl
theorem mc_many : mcell kc a m 6 = .inl (kc 0, 8, .inl (m 10)) := rfl
theorem mc_queue : mcell kc a m 7 = .inl (kc 1, 4096, .inl (m 11)) := rfl
theorem mc_left : mcell kc a m 8 = .inl (kc 0, 16, .inl (m 12)) := rfl
theorem mc_line : mcell kc a m 9 = .inl (kc 0, 128, .inl (m 13)) := rfl
theorem mc_screen : mcell kc a m 10 = .inl (kc 1, 4096, .inl (m 14)) := rfl
theorem mw_x {m' : MK} {q : Nat} {e : va_E} (h1 : mcell kc a m' q = e) (h2 : ∀ k, k ≠ q → mcell kc a m' k = mcell kc a m k) : mcell kc a m' = va_up (mcell kc a m) q e := by
  funext k
  by_cases hk : k = q
  · subst hk
    rw [va_up_self, h1]
  · rw [va_up_ne _ _ hk, h2 k hk]
theorem mw_0 (v : Int32) : mcell kc a (u2 m 0 0 v) = va_up (mcell kc a m) 0 (.inr (5, (fsMod a m).set 0 (.int v))) :=
  mw_x kc a m (by rw [mc_mod]; simp [fsMod, u2]) (fun k hk => by unfold mcell; rw [if_neg hk, if_neg hk]; simp only [u2_off (show (5 : Nat) ≠ 0 by decide), u2_off (show (6 : Nat) ≠ 0 by decide), u2_off (show (7 : Nat) ≠ 0 by decide), u2_off (show (8 : Nat) ≠ 0 by decide), u2_off (show (9 : Nat) ≠ 0 by decide), u2_off (show (10 : Nat) ≠ 0 by decide), u2_off (show (11 : Nat) ≠ 0 by decide), u2_off (show (12 : Nat) ≠ 0 by decide), u2_off (show (13 : Nat) ≠ 0 by decide), u2_off (show (14 : Nat) ≠ 0 by decide)])
theorem mw_1 (v : Int32) : mcell kc a (u2 m 1 0 v) = va_up (mcell kc a m) 0 (.inr (5, (fsMod a m).set 8 (.int v))) :=
  mw_x kc a m (by rw [mc_mod]; simp [fsMod, u2]) (fun k hk => by unfold mcell; rw [if_neg hk, if_neg hk]; simp only [u2_off (show (5 : Nat) ≠ 1 by decide), u2_off (show (6 : Nat) ≠ 1 by decide), u2_off (show (7 : Nat) ≠ 1 by decide), u2_off (show (8 : Nat) ≠ 1 by decide), u2_off (show (9 : Nat) ≠ 1 by decide), u2_off (show (10 : Nat) ≠ 1 by decide), u2_off (show (11 : Nat) ≠ 1 by decide), u2_off (show (12 : Nat) ≠ 1 by decide), u2_off (show (13 : Nat) ≠ 1 by decide), u2_off (show (14 : Nat) ≠ 1 by decide)])
theorem mw_2 (v : Int32) : mcell kc a (u2 m 2 0 v) = va_up (mcell kc a m) 0 (.inr (5, (fsMod a m).set 10 (.int v))) :=
  mw_x kc a m (by rw [mc_mod]; simp [fsMod, u2]) (fun k hk => by unfold mcell; rw [if_neg hk, if_neg hk]; simp only [u2_off (show (5 : Nat) ≠ 2 by decide), u2_off (show (6 : Nat) ≠ 2 by decide), u2_off (show (7 : Nat) ≠ 2 by decide), u2_off (show (8 : Nat) ≠ 2 by decide), u2_off (show (9 : Nat) ≠ 2 by decide), u2_off (show (10 : Nat) ≠ 2 by decide), u2_off (show (11 : Nat) ≠ 2 by decide), u2_off (show (12 : Nat) ≠ 2 by decide), u2_off (show (13 : Nat) ≠ 2 by decide), u2_off (show (14 : Nat) ≠ 2 by decide)])
theorem mw_3 (v : Int32) : mcell kc a (u2 m 3 0 v) = va_up (mcell kc a m) 0 (.inr (5, (fsMod a m).set 11 (.int v))) :=
  mw_x kc a m (by rw [mc_mod]; simp [fsMod, u2]) (fun k hk => by unfold mcell; rw [if_neg hk, if_neg hk]; simp only [u2_off (show (5 : Nat) ≠ 3 by decide), u2_off (show (6 : Nat) ≠ 3 by decide), u2_off (show (7 : Nat) ≠ 3 by decide), u2_off (show (8 : Nat) ≠ 3 by decide), u2_off (show (9 : Nat) ≠ 3 by decide), u2_off (show (10 : Nat) ≠ 3 by decide), u2_off (show (11 : Nat) ≠ 3 by decide), u2_off (show (12 : Nat) ≠ 3 by decide), u2_off (show (13 : Nat) ≠ 3 by decide), u2_off (show (14 : Nat) ≠ 3 by decide)])
theorem mw_4 (v : Int32) : mcell kc a (u2 m 4 0 v) = va_up (mcell kc a m) 0 (.inr (5, (fsMod a m).set 13 (.int v))) :=
  mw_x kc a m (by rw [mc_mod]; simp [fsMod, u2]) (fun k hk => by unfold mcell; rw [if_neg hk, if_neg hk]; simp only [u2_off (show (5 : Nat) ≠ 4 by decide), u2_off (show (6 : Nat) ≠ 4 by decide), u2_off (show (7 : Nat) ≠ 4 by decide), u2_off (show (8 : Nat) ≠ 4 by decide), u2_off (show (9 : Nat) ≠ 4 by decide), u2_off (show (10 : Nat) ≠ 4 by decide), u2_off (show (11 : Nat) ≠ 4 by decide), u2_off (show (12 : Nat) ≠ 4 by decide), u2_off (show (13 : Nat) ≠ 4 by decide), u2_off (show (14 : Nat) ≠ 4 by decide)])
theorem mw_names (j : Nat) (v : Int32) : mcell kc a (u2 m 5 j v) = va_up (mcell kc a m) 1 (.inl (kc 0, 240, .inl (upd (m 5) j v))) := by
  have hm : fsMod a (u2 m 5 j v) = fsMod a m := by simp [fsMod, u2]
  refine mw_x kc a m (by rw [mc_names, u2_row]) (fun k hk => ?_)
  unfold mcell
  rw [hm]
  simp [u2_off (show (6 : Nat) ≠ 5 by decide), u2_off (show (7 : Nat) ≠ 5 by decide), u2_off (show (8 : Nat) ≠ 5 by decide), u2_off (show (9 : Nat) ≠ 5 by decide), u2_off (show (10 : Nat) ≠ 5 by decide), u2_off (show (11 : Nat) ≠ 5 by decide), u2_off (show (12 : Nat) ≠ 5 by decide), u2_off (show (13 : Nat) ≠ 5 by decide), u2_off (show (14 : Nat) ≠ 5 by decide), hk]
theorem mw_kind (j : Nat) (v : Int32) : mcell kc a (u2 m 6 j v) = va_up (mcell kc a m) 2 (.inl (kc 0, 32, .inl (upd (m 6) j v))) := by
  have hm : fsMod a (u2 m 6 j v) = fsMod a m := by simp [fsMod, u2]
  refine mw_x kc a m (by rw [mc_kind, u2_row]) (fun k hk => ?_)
  unfold mcell
  rw [hm]
  simp [u2_off (show (5 : Nat) ≠ 6 by decide), u2_off (show (7 : Nat) ≠ 6 by decide), u2_off (show (8 : Nat) ≠ 6 by decide), u2_off (show (9 : Nat) ≠ 6 by decide), u2_off (show (10 : Nat) ≠ 6 by decide), u2_off (show (11 : Nat) ≠ 6 by decide), u2_off (show (12 : Nat) ≠ 6 by decide), u2_off (show (13 : Nat) ≠ 6 by decide), u2_off (show (14 : Nat) ≠ 6 by decide), hk]
theorem mw_what (j : Nat) (v : Int32) : mcell kc a (u2 m 7 j v) = va_up (mcell kc a m) 3 (.inl (kc 0, 32, .inl (upd (m 7) j v))) := by
  have hm : fsMod a (u2 m 7 j v) = fsMod a m := by simp [fsMod, u2]
  refine mw_x kc a m (by rw [mc_what, u2_row]) (fun k hk => ?_)
  unfold mcell
  rw [hm]
  simp [u2_off (show (5 : Nat) ≠ 7 by decide), u2_off (show (6 : Nat) ≠ 7 by decide), u2_off (show (8 : Nat) ≠ 7 by decide), u2_off (show (9 : Nat) ≠ 7 by decide), u2_off (show (10 : Nat) ≠ 7 by decide), u2_off (show (11 : Nat) ≠ 7 by decide), u2_off (show (12 : Nat) ≠ 7 by decide), u2_off (show (13 : Nat) ≠ 7 by decide), u2_off (show (14 : Nat) ≠ 7 by decide), hk]
theorem mw_how (j : Nat) (v : Int32) : mcell kc a (u2 m 8 j v) = va_up (mcell kc a m) 4 (.inl (kc 0, 32, .inl (upd (m 8) j v))) := by
  have hm : fsMod a (u2 m 8 j v) = fsMod a m := by simp [fsMod, u2]
  refine mw_x kc a m (by rw [mc_how, u2_row]) (fun k hk => ?_)
  unfold mcell
  rw [hm]
  simp [u2_off (show (5 : Nat) ≠ 8 by decide), u2_off (show (6 : Nat) ≠ 8 by decide), u2_off (show (7 : Nat) ≠ 8 by decide), u2_off (show (9 : Nat) ≠ 8 by decide), u2_off (show (10 : Nat) ≠ 8 by decide), u2_off (show (11 : Nat) ≠ 8 by decide), u2_off (show (12 : Nat) ≠ 8 by decide), u2_off (show (13 : Nat) ≠ 8 by decide), u2_off (show (14 : Nat) ≠ 8 by decide), hk]
theorem mw_place (j : Nat) (v : Int32) : mcell kc a (u2 m 9 j v) = va_up (mcell kc a m) 5 (.inl (kc 0, 32, .inl (upd (m 9) j v))) := by
  have hm : fsMod a (u2 m 9 j v) = fsMod a m := by simp [fsMod, u2]
  refine mw_x kc a m (by rw [mc_place, u2_row]) (fun k hk => ?_)
  unfold mcell
  rw [hm]
  simp [u2_off (show (5 : Nat) ≠ 9 by decide), u2_off (show (6 : Nat) ≠ 9 by decide), u2_off (show (7 : Nat) ≠ 9 by decide), u2_off (show (8 : Nat) ≠ 9 by decide), u2_off (show (10 : Nat) ≠ 9 by decide), u2_off (show (11 : Nat) ≠ 9 by decide), u2_off (show (12 : Nat) ≠ 9 by decide), u2_off (show (13 : Nat) ≠ 9 by decide), u2_off (show (14 : Nat) ≠ 9 by decide), hk]
theorem mw_many (j : Nat) (v : Int32) : mcell kc a (u2 m 10 j v) = va_up (mcell kc a m) 6 (.inl (kc 0, 8, .inl (upd (m 10) j v))) := by
  have hm : fsMod a (u2 m 10 j v) = fsMod a m := by simp [fsMod, u2]
  refine mw_x kc a m (by rw [mc_many, u2_row]) (fun k hk => ?_)
  unfold mcell
  rw [hm]
  simp [u2_off (show (5 : Nat) ≠ 10 by decide), u2_off (show (6 : Nat) ≠ 10 by decide), u2_off (show (7 : Nat) ≠ 10 by decide), u2_off (show (8 : Nat) ≠ 10 by decide), u2_off (show (9 : Nat) ≠ 10 by decide), u2_off (show (11 : Nat) ≠ 10 by decide), u2_off (show (12 : Nat) ≠ 10 by decide), u2_off (show (13 : Nat) ≠ 10 by decide), u2_off (show (14 : Nat) ≠ 10 by decide), hk]
theorem mw_queue (j : Nat) (v : Int32) : mcell kc a (u2 m 11 j v) = va_up (mcell kc a m) 7 (.inl (kc 1, 4096, .inl (upd (m 11) j v))) := by
  have hm : fsMod a (u2 m 11 j v) = fsMod a m := by simp [fsMod, u2]
  refine mw_x kc a m (by rw [mc_queue, u2_row]) (fun k hk => ?_)
  unfold mcell
  rw [hm]
  simp [u2_off (show (5 : Nat) ≠ 11 by decide), u2_off (show (6 : Nat) ≠ 11 by decide), u2_off (show (7 : Nat) ≠ 11 by decide), u2_off (show (8 : Nat) ≠ 11 by decide), u2_off (show (9 : Nat) ≠ 11 by decide), u2_off (show (10 : Nat) ≠ 11 by decide), u2_off (show (12 : Nat) ≠ 11 by decide), u2_off (show (13 : Nat) ≠ 11 by decide), u2_off (show (14 : Nat) ≠ 11 by decide), hk]
theorem mw_left (j : Nat) (v : Int32) : mcell kc a (u2 m 12 j v) = va_up (mcell kc a m) 8 (.inl (kc 0, 16, .inl (upd (m 12) j v))) := by
  have hm : fsMod a (u2 m 12 j v) = fsMod a m := by simp [fsMod, u2]
  refine mw_x kc a m (by rw [mc_left, u2_row]) (fun k hk => ?_)
  unfold mcell
  rw [hm]
  simp [u2_off (show (5 : Nat) ≠ 12 by decide), u2_off (show (6 : Nat) ≠ 12 by decide), u2_off (show (7 : Nat) ≠ 12 by decide), u2_off (show (8 : Nat) ≠ 12 by decide), u2_off (show (9 : Nat) ≠ 12 by decide), u2_off (show (10 : Nat) ≠ 12 by decide), u2_off (show (11 : Nat) ≠ 12 by decide), u2_off (show (13 : Nat) ≠ 12 by decide), u2_off (show (14 : Nat) ≠ 12 by decide), hk]
theorem mw_line (j : Nat) (v : Int32) : mcell kc a (u2 m 13 j v) = va_up (mcell kc a m) 9 (.inl (kc 0, 128, .inl (upd (m 13) j v))) := by
  have hm : fsMod a (u2 m 13 j v) = fsMod a m := by simp [fsMod, u2]
  refine mw_x kc a m (by rw [mc_line, u2_row]) (fun k hk => ?_)
  unfold mcell
  rw [hm]
  simp [u2_off (show (5 : Nat) ≠ 13 by decide), u2_off (show (6 : Nat) ≠ 13 by decide), u2_off (show (7 : Nat) ≠ 13 by decide), u2_off (show (8 : Nat) ≠ 13 by decide), u2_off (show (9 : Nat) ≠ 13 by decide), u2_off (show (10 : Nat) ≠ 13 by decide), u2_off (show (11 : Nat) ≠ 13 by decide), u2_off (show (12 : Nat) ≠ 13 by decide), u2_off (show (14 : Nat) ≠ 13 by decide), hk]
theorem mw_screen (j : Nat) (v : Int32) : mcell kc a (u2 m 14 j v) = va_up (mcell kc a m) 10 (.inl (kc 1, 4096, .inl (upd (m 14) j v))) := by
  have hm : fsMod a (u2 m 14 j v) = fsMod a m := by simp [fsMod, u2]
  refine mw_x kc a m (by rw [mc_screen, u2_row]) (fun k hk => ?_)
  unfold mcell
  rw [hm]
  simp [u2_off (show (5 : Nat) ≠ 14 by decide), u2_off (show (6 : Nat) ≠ 14 by decide), u2_off (show (7 : Nat) ≠ 14 by decide), u2_off (show (8 : Nat) ≠ 14 by decide), u2_off (show (9 : Nat) ≠ 14 by decide), u2_off (show (10 : Nat) ≠ 14 by decide), u2_off (show (11 : Nat) ≠ 14 by decide), u2_off (show (12 : Nat) ≠ 14 by decide), u2_off (show (13 : Nat) ≠ 14 by decide), hk]
end MC
theorem map_up {α β : Type} {f : Nat → Option α} {g : α → β} {j : Nat} {o : Option α} : (fun q => (va_up f j o q).map g) = va_up (fun q => (f q).map g) j (o.map g) := by
  funext q
  by_cases h : q = j
  · subst h
    rw [va_up_self, va_up_self]
  · rw [va_up_ne _ _ h, va_up_ne _ _ h]
theorem tw_ne {x y : Int32} (h : ¬ x = y) (n : Int) (hn : y.toInt = n) : x.toInt ≠ n := fun e => h (Int32.toInt_inj.mp (e.trans hn.symm))
section DKW
variable {p : Program} {l : Launch} {e : Env} {R : Room} {s : State} {m : MethodId} {args : Array Value} {below : List Frame} {meth : Method} {c : Code} {H : Heap} {locs : List Loc} {cells slots : Nat} {Q : State → Prop}
variable {cc : ByteArray} {pc : Nat} {ls : Array Slot} {rest : List Value} {D : va_G} {A : Nat → Prop} {H0 : Heap} {kc : Nat → ClassId} {a : Nat → Nat} {d : DK}
theorem dk_ald_named (hexec : p.tables.exec = Jvm.exec) (hb : c.code = cc) (hK : va_K D vwCl (tysD kc) s) (hP : va_P D vwCl (ml 57 a (dcell kc a d)) H) {i : Int32} (hin : vp_in i 240) (hdg : decode cc pc = .ok (.aaload, 1))
    (kn : d.2.1 i.toNatClampNeg = none → W p l e R s m args below meth c H locs cells slots Q (F0 m (pc + 1) ls (.null :: rest))) (ks : ∀ q : Fin 32, d.2.1 i.toNatClampNeg = some q → W p l e R s m args below meth c H locs cells slots Q (F0 m (pc + 1) ls (.ref (a (q.val + 3)) :: rest))) : W p l e R s m args below meth c H locs cells slots Q (F0 m pc ls (.int i :: .ref (a 1) :: rest)) :=
  va_aldq hexec hb hK hP 1 2 (ml_at (by decide) (dc_named kc a d)) rfl hin hdg (ml_split (g := fun i : Fin 32 => a (i.val + 3)) kn ks)
theorem dk_ald_files (hexec : p.tables.exec = Jvm.exec) (hb : c.code = cc) (hK : va_K D vwCl (tysD kc) s) (hP : va_P D vwCl (ml 57 a (dcell kc a d)) H) {i : Int32} (hin : vp_in i 32) (hdg : decode cc pc = .ok (.aaload, 1))
    (kk : W p l e R s m args below meth c H locs cells slots Q (F0 m (pc + 1) ls (.ref (a ((Fin.ofNat 32 i.toNatClampNeg).val + 3)) :: rest))) : W p l e R s m args below meth c H locs cells slots Q (F0 m pc ls (.int i :: .ref (a 2) :: rest)) := by
  have hlt : i.toNatClampNeg < 32 := Nat.not_le.mp fun q => hin (Or.inr q)
  refine va_aldq hexec hb hK hP 2 2 (ml_at (by decide) (dc_files kc a d)) rfl hin hdg ?_
  rw [if_pos hlt]
  rw [show (Fin.ofNat 32 i.toNatClampNeg).val = i.toNatClampNeg from Nat.mod_eq_of_lt hlt] at kk
  exact kk
theorem dk_ald_pipes (hexec : p.tables.exec = Jvm.exec) (hb : c.code = cc) (hK : va_K D vwCl (tysD kc) s) (hP : va_P D vwCl (ml 57 a (dcell kc a d)) H) {i : Int32} (hin : vp_in i 8) (hdg : decode cc pc = .ok (.aaload, 1))
    (kk : W p l e R s m args below meth c H locs cells slots Q (F0 m (pc + 1) ls (.ref (a (2 * (Fin.ofNat 8 i.toNatClampNeg).val + 36)) :: rest))) : W p l e R s m args below meth c H locs cells slots Q (F0 m pc ls (.int i :: .ref (a 35) :: rest)) := by
  have hlt : i.toNatClampNeg < 8 := Nat.not_le.mp fun q => hin (Or.inr q)
  refine va_aldq hexec hb hK hP 35 3 (ml_at (by decide) (dc_pipes kc a d)) rfl hin hdg ?_
  rw [if_pos hlt]
  rw [show (Fin.ofNat 8 i.toNatClampNeg).val = i.toNatClampNeg from Nat.mod_eq_of_lt hlt] at kk
  exact kk
theorem dk_ast_named (hexec : p.tables.exec = Jvm.exec) (hb : c.code = cc) (hK : va_K D vwCl (tysD kc) s) (hP : va_P D vwCl (ml 57 a (dcell kc a d)) H) (hD : va_D A (ml 57 a (dcell kc a d))) (hS : va_S A H0 H locs) {i : Int32} {q : Fin 32} (hin : vp_in i 240) (hdg : decode cc pc = .ok (.aastore, 1))
    (kk : ∀ (H1 : Heap) (locs1 : List Loc), va_P D vwCl (ml 57 a (dcell kc a (sN d i.toNatClampNeg (some q)))) H1 → va_D A (ml 57 a (dcell kc a (sN d i.toNatClampNeg (some q)))) → va_S A H0 H1 locs1 → W p l e R s m args below meth c H1 locs1 cells slots Q (F0 m (pc + 1) ls rest)) : W p l e R s m args below meth c H locs cells slots Q (F0 m pc ls (.ref (a (q.val + 3)) :: .int i :: .ref (a 1) :: rest)) := by
  have hu : dcell kc a (sN d i.toNatClampNeg (some q)) = va_up (dcell kc a d) 1 (.inl (kc 2, 240, .inr (.inr (.inr (.inr (va_up (fun j => (d.2.1 j).map (fun i => a (i.val + 3))) i.toNatClampNeg (some (a (q.val + 3))))))))) := by
    rw [dw_named, map_up]
    rfl
  refine va_astq hexec hb hK hP hD hS 1 2 (q.val + 3) 1 (ml_at (by decide) (dc_named kc a d)) rfl (ml_at (lt_file q) (dc_file kc a d q)) rfl hin hdg (fun H1 locs1 h1 h2 h3 => ?_)
  rw [ml_set (by decide), ← hu] at h1 h2
  exact kk H1 locs1 h1 h2 h3
theorem dk_astN_named (hexec : p.tables.exec = Jvm.exec) (hb : c.code = cc) (hK : va_K D vwCl (tysD kc) s) (hP : va_P D vwCl (ml 57 a (dcell kc a d)) H) (hD : va_D A (ml 57 a (dcell kc a d))) (hS : va_S A H0 H locs) {i : Int32} (hin : vp_in i 240) (hdg : decode cc pc = .ok (.aastore, 1))
    (kk : ∀ (H1 : Heap) (locs1 : List Loc), va_P D vwCl (ml 57 a (dcell kc a (sN d i.toNatClampNeg none))) H1 → va_D A (ml 57 a (dcell kc a (sN d i.toNatClampNeg none))) → va_S A H0 H1 locs1 → W p l e R s m args below meth c H1 locs1 cells slots Q (F0 m (pc + 1) ls rest)) : W p l e R s m args below meth c H locs cells slots Q (F0 m pc ls (.null :: .int i :: .ref (a 1) :: rest)) := by
  have hu : dcell kc a (sN d i.toNatClampNeg none) = va_up (dcell kc a d) 1 (.inl (kc 2, 240, .inr (.inr (.inr (.inr (va_up (fun j => (d.2.1 j).map (fun i => a (i.val + 3))) i.toNatClampNeg none)))))) := by
    rw [dw_named, map_up]
    rfl
  refine va_astqN hexec hb hK hP hD hS 1 2 (ml_at (by decide) (dc_named kc a d)) rfl hin hdg (fun H1 locs1 h1 h2 h3 => ?_)
  rw [ml_set (by decide), ← hu] at h1 h2
  exact kk H1 locs1 h1 h2 h3
end DKW
