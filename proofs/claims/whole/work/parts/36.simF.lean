/-! Pure: closing. -/
theorem dn_eq {d : DK} {p q : Nat} (hp : p < 15) (hq : q < 16) (i : Fin 32) : sp_dropName d (nI p) (nI q) i =
    (if ((sI (sN d (16 * p + q) none) 7 i.val (d.1 7 i.val - 1)).1 7 i.val) ≤ (0 : Int32) then
      (oc (d.2.2 i.val) (if d.1 2 i.val = (2 : Int32) then ((1 : Int32), sI (sN d (16 * p + q) none) 7 i.val (d.1 7 i.val - 1)) else ((0 : Int32), sI (sN d (16 * p + q) none) 7 i.val (d.1 7 i.val - 1)))
        (fun k => (if (sp_Pipe_endClosed (sI (sN d (16 * p + q) none) 7 i.val (d.1 7 i.val - 1)) k (d.1 4 i.val)).1 2 i.val = (2 : Int32) then ((1 : Int32), sp_Pipe_endClosed (sI (sN d (16 * p + q) none) 7 i.val (d.1 7 i.val - 1)) k (d.1 4 i.val)) else ((0 : Int32), sp_Pipe_endClosed (sI (sN d (16 * p + q) none) 7 i.val (d.1 7 i.val - 1)) k (d.1 4 i.val)))))
     else ((0 : Int32), sI (sN d (16 * p + q) none) 7 i.val (d.1 7 i.val - 1))) := by
  unfold sp_dropName
  rw [isP_eq, pr_1 hp, if_neg n01, de_1 hq, if_neg n01, ix15c hp hq]
  have e1 : (sN d (16 * p + q) none).1 7 i.val = d.1 7 i.val := rfl
  rw [e1]
  have e2 : ∀ v, (sI (sN d (16 * p + q) none) 7 i.val v).2.2 i.val = d.2.2 i.val := fun v => rfl
  have e3 : ∀ v, (sI (sN d (16 * p + q) none) 7 i.val v).1 2 i.val = d.1 2 i.val := fun v => sI_n (by omega)
  have e4 : ∀ v, (sI (sN d (16 * p + q) none) 7 i.val v).1 4 i.val = d.1 4 i.val := fun v => sI_n (by omega)
  rw [e2, e3, e4]
theorem mc_eq {mo : MK} {p q : Nat} (hp : p < 15) (hq : q < 16) : sp_M_closes mo (nI p) (nI q) = (if (sp_M_named (u2 mo 5 (16 * p + q) (0 : Int32)) (mo 5 (16 * p + q) - 1)) = (0 : Int32) then (if mo 6 (mo 5 (16 * p + q) - 1).toNatClampNeg = (2 : Int32) then ((1 : Int32), u2 mo 5 (16 * p + q) (0 : Int32)) else ((0 : Int32), u2 mo 5 (16 * p + q) (0 : Int32))) else ((0 : Int32), u2 mo 5 (16 * p + q) (0 : Int32))) := by
  unfold sp_M_closes
  rw [ix16c hp hq, mfi_eq hp hq, u2_n (c' := 6) (by omega)]
theorem nm_cn2 {nm : Nat → Option (Fin 32)} {mo : MK} (h : ∀ k, k < 240 → mo 5 k = nI (nv (nm k))) {i : Nat} (hi : i < 32) : sp_M_named mo (nI i) = nI (cn nm i) := by
  rw [mn_eq]
  refine congrArg nI (ct_congr 240 (fun k hk => ?_))
  rw [h k hk, hv_nv, nI_1]
  have h1 := nv_le (nm k)
  by_cases e : nv (nm k) = i + 1
  · simp [e]
  · have : ¬ nI (nv (nm k)) = nI (i + 1) := by rw [nI_eq (by omega) (by omega)]; exact e
    simp [e, this]
theorem ec_off {d : DK} {k : Fin 8} {b : Int32} {c : Nat} (h1 : c ≠ 10) (h2 : c ≠ 11) : (sp_Pipe_endClosed d k b).1 c = d.1 c := by
  unfold sp_Pipe_endClosed
  split
  · exact sI_off h2
  · exact sI_off h1
theorem ec_2 {d : DK} {k : Fin 8} {b : Int32} : (sp_Pipe_endClosed d k b).2 = d.2 := by
  unfold sp_Pipe_endClosed
  split <;> rfl
/-- file i's last name goes: it was no end, or its end is closed -/
theorem RF_del {d d' : DK} {mo : MK} {k : Nat} {i : Fin 32} (h : RF d mo) (hk : k < 240) (hn : d.2.1 k = some i) (hc : cn d.2.1 i.val = 1) (e2 : d'.2.1 = va_up d.2.1 k none) (e22 : d'.2.2 = d.2.2) (h1 : ∀ c, (2 ≤ c ∧ c ≤ 6) ∨ c = 8 ∨ c = 9 ∨ 18 ≤ c → d'.1 c = d.1 c) (h7 : d'.1 7 = upd (d.1 7) i.val 0)
    (h10 : ∀ q, q < 8 → (¬ isE d.2.1 mo q 1 i.val ∧ d'.1 10 q = d.1 10 q) ∨ (isE d.2.1 mo q 1 i.val ∧ d'.1 10 q = 0)) (h11 : ∀ q, q < 8 → (¬ isE d.2.1 mo q 2 i.val ∧ d'.1 11 q = d.1 11 q) ∨ (isE d.2.1 mo q 2 i.val ∧ d'.1 11 q = 0)) : RF d' (u2 mo 5 k (0 : Int32)) := by
  obtain ⟨a1, a2, a3, a4, a5, a6⟩ := h
  have hcn : ∀ j, cn d'.2.1 j + (if i.val = j then 1 else 0) = cn d.2.1 j := fun j => by rw [e2]; exact cn_del hk hn j
  have hci : cn d'.2.1 i.val = 0 := by have := hcn i.val; rw [if_pos rfl] at this; omega
  have hcj : ∀ j, j ≠ i.val → cn d'.2.1 j = cn d.2.1 j := fun j hj => by have := hcn j; rw [if_neg (fun e => hj e.symm)] at this; omega
  have hE : ∀ q sd j, isE d'.2.1 (u2 mo 5 k (0 : Int32)) q sd j ↔ (isE d.2.1 mo q sd j ∧ j ≠ i.val) := by
    intro q sd j
    unfold isE
    rw [u2_n (c' := 6) (by omega), u2_n (c' := 7) (by omega), u2_n (c' := 8) (by omega)]
    by_cases e : j = i.val
    · subst e
      rw [hci]
      simp
    · rw [hcj j e]
      simp [e]
  have es : ∀ q c sd, ES d mo q c sd → ((¬ isE d.2.1 mo q sd i.val ∧ d'.1 c q = d.1 c q) ∨ (isE d.2.1 mo q sd i.val ∧ d'.1 c q = 0)) → ES d' (u2 mo 5 k (0 : Int32)) q c sd := by
    intro q c sd g1 g2
    rcases g2 with ⟨n1, n2⟩ | ⟨n1, n2⟩
    · refine ES_o n2 (fun j => ?_) g1
      rw [hE]
      constructor
      · exact fun x => x.1
      · intro x
        refine ⟨x, fun e => ?_⟩
        rw [e] at x
        exact n1 x
    · refine Or.inr ⟨n2, fun j x => ?_⟩
      rw [hE] at x
      rcases g1 with ⟨-, i', q2, q3⟩ | ⟨-, q2⟩
      · exact x.2 ((q3 j x.1).trans (q3 i.val n1).symm)
      · exact q2 j x.1
  refine ⟨fun q hq => ?_, fun j hj => ?_, fun j hj o => ?_, fun q hq => es q 10 1 (a4 q hq) (h10 q hq), fun q hq => es q 11 2 (a5 q hq) (h11 q hq), fun q hq o => ?_⟩
  · rw [e2]
    by_cases e : q = k
    · subst e
      rw [u2_s, va_up_self]
      rfl
    · rw [u2_n (by omega), va_up_ne _ _ e]
      exact a1 q hq
  · rw [h7]
    by_cases e : j = i.val
    · subst e
      rw [pk_us, hci]
      rfl
    · rw [pk_un e, hcj j e]
      exact a2 j hj
  · have e : j ≠ i.val := fun e => by subst e; omega
    rw [hcj j e] at o
    exact FI_c (by rw [e22]) (fun c g1 g2 => by rw [h1 c (by omega)]) (fun c g1 g2 => u2_n (by omega)) (a3 j hj o)
  · have o' : d.1 10 q = 1 ∨ d.1 11 q = 1 := by
      rcases o with o | o
      · rcases h10 q hq with ⟨-, z⟩ | ⟨-, z⟩
        · rw [z] at o; exact Or.inl o
        · rw [z] at o; exact absurd o (by decide)
      · rcases h11 q hq with ⟨-, z⟩ | ⟨-, z⟩
        · rw [z] at o; exact Or.inr o
        · rw [z] at o; exact absurd o (by decide)
    exact PC_c (by rw [h1 8 (by omega)]) (by rw [h1 9 (by omega)]) (h1 (18 + q) (by omega)) (u2_n (by omega)) (u2_off (by omega)) (a6 q hq o')
theorem drop {d : DK} {mo : MK} (h : RF d mo) {p q : Nat} (hp : p < 15) (hq : q < 16) {i : Fin 32} (hn : d.2.1 (16 * p + q) = some i) :
    ∃ (r : Int32) (d' : DK), sp_dropName d (nI p) (nI q) i = (r, d') ∧ sp_M_closes mo (nI p) (nI q) = (r, u2 mo 5 (16 * p + q) (0 : Int32)) ∧ RF d' (u2 mo 5 (16 * p + q) (0 : Int32)) ∧ (r = 0 ∨ (r = 1 ∧ d'.1 3 i.val = mo 7 i.val)) ∧ (∀ c, c < 2 ∨ (12 ≤ c ∧ c ≤ 17) → d'.1 c = d.1 c) := by
  have hi := i.isLt
  have hk : 16 * p + q < 240 := by omega
  have hpos := cn_pos hk hn
  have hle := cn_le d.2.1 i.val
  have e5 : mo 5 (16 * p + q) = nI (i.val + 1) := by rw [h.1 _ hk, hn]; rfl
  have e7 := h.2.1 i.val hi
  obtain ⟨f1, f2, f3, f4⟩ := h.2.2.1 i.val hi hpos
  have hdel := cn_del hk hn
  have hci : cn (va_up d.2.1 (16 * p + q) none) i.val + 1 = cn d.2.1 i.val := by have := hdel i.val; rw [if_pos rfl] at this; exact this
  have hnm : ∀ k, k < 240 → (u2 mo 5 (16 * p + q) (0 : Int32)) 5 k = nI (nv (va_up d.2.1 (16 * p + q) none k)) := by
    intro k hk2
    by_cases e : k = 16 * p + q
    · subst e
      rw [u2_s, va_up_self]
      rfl
    · rw [u2_n (by omega), va_up_ne _ _ e]
      exact h.1 k hk2
  obtain ⟨u, hu⟩ : ∃ u, cn d.2.1 i.val = u + 1 := ⟨cn d.2.1 i.val - 1, by omega⟩
  have hcu : cn (va_up d.2.1 (16 * p + q) none) i.val = u := by omega
  rw [dn_eq hp hq, mc_eq hp hq, e5, nI_pred, nI_clamp (by omega), nm_cn2 hnm hi, hcu, sI_s, e7, hu, nI_pred]
  by_cases c : u = 0
  · subst c
    rw [if_pos (show nI 0 ≤ (0 : Int32) by decide), if_pos (show nI 0 = (0 : Int32) from rfl)]
    have hu7 : ∀ v : Int32, v = nI 0 → (sI (sN d (16 * p + q) none) 7 i.val v).1 7 = upd (d.1 7) i.val 0 := fun v ev => by rw [ev]; exact sI_row
    rcases f4 with ⟨k1, k2, k, k3, k4⟩ | ⟨k1, k2, k3⟩
    · have hk8 := k.isLt
      have ne2 : ¬ mo 6 i.val = 2 := by rw [k1]; decide
      rw [k3, oc_s, ec_off (by decide) (by decide), sI_n (by omega)]
      have fe : ¬ (sN d (16 * p + q) none).1 2 i.val = 2 := by
        show ¬ d.1 2 i.val = 2
        rw [f1]
        exact ne2
      rw [if_neg fe, if_neg ne2]
      refine ⟨0, _, rfl, rfl, ?_, Or.inl rfl, fun c hc => by rw [ec_off (by omega) (by omega), sI_off (by omega)]; rfl⟩
      have isI : ∀ q' sd, q' < 8 → (isE d.2.1 mo q' sd i.val ↔ (q' = k.val ∧ mo 8 i.val = sd)) := by
        intro q' sd hq'
        unfold isE
        rw [k4]
        constructor
        · rintro ⟨-, -, -, z1, z2⟩
          exact ⟨((nI_eq (by omega) (by omega)).mp z1).symm, z2⟩
        · rintro ⟨z1, z2⟩
          exact ⟨hi, hpos, k1, by rw [z1], z2⟩
      refine RF_del h hk hn (by omega) (by rw [ec_2]; rfl) (by rw [ec_2]; rfl) (fun c hc => by rw [ec_off (by omega) (by omega), sI_off (by omega)]; rfl) (by rw [ec_off (by omega) (by omega)]; exact hu7 _ rfl) (fun q' hq' => ?_) (fun q' hq' => ?_)
      · rw [isI q' 1 hq']
        unfold sp_Pipe_endClosed
        rcases f3 with ⟨w1, w2, w3⟩ | ⟨w1, w2, w3⟩ | ⟨w1, w2, w3⟩
        · rw [w2, if_neg n01]
          by_cases e : q' = k.val
          · subst e
            exact Or.inr ⟨⟨rfl, w1⟩, sI_s⟩
          · exact Or.inl ⟨fun z => e z.1, by rw [sI_n (by omega), sI_n (by omega)]; rfl⟩
        · rw [w2, if_pos rfl]
          exact Or.inl ⟨fun z => by rw [w1] at z; exact absurd z.2 (by decide), by rw [sI_n (by omega), sI_n (by omega)]; rfl⟩
        · exact absurd w1 k2
      · rw [isI q' 2 hq']
        unfold sp_Pipe_endClosed
        rcases f3 with ⟨w1, w2, w3⟩ | ⟨w1, w2, w3⟩ | ⟨w1, w2, w3⟩
        · rw [w2, if_neg n01]
          exact Or.inl ⟨fun z => by rw [w1] at z; exact absurd z.2 (by decide), by rw [sI_n (by omega), sI_n (by omega)]; rfl⟩
        · rw [w2, if_pos rfl]
          by_cases e : q' = k.val
          · subst e
            exact Or.inr ⟨⟨rfl, w1⟩, sI_s⟩
          · exact Or.inl ⟨fun z => e z.1, by rw [sI_n (by omega), sI_n (by omega)]; rfl⟩
        · exact absurd w1 k2
    · have n1 : ¬ mo 6 i.val = 1 := by
        rcases k1 with k1 | k1 <;> rw [k1] <;> decide
      have hR : RF (sI (sN d (16 * p + q) none) 7 i.val (nI 0)) (u2 mo 5 (16 * p + q) (0 : Int32)) :=
        RF_del h hk hn (by omega) rfl rfl (fun c hc => sI_off (by omega)) (hu7 _ rfl) (fun q' hq' => Or.inl ⟨fun z => n1 z.2.2.1, sI_n (by omega)⟩) (fun q' hq' => Or.inl ⟨fun z => n1 z.2.2.1, sI_n (by omega)⟩)
      rw [k2, oc_n, f1]
      by_cases c2 : mo 6 i.val = 2
      · rw [if_pos c2, if_pos c2]
        exact ⟨1, _, rfl, rfl, hR, Or.inr ⟨rfl, by rw [sI_n (by omega)]; exact k3⟩, fun c hc => sI_off (by omega)⟩
      · rw [if_neg c2, if_neg c2]
        exact ⟨0, _, rfl, rfl, hR, Or.inl rfl, fun c hc => sI_off (by omega)⟩
  · rw [if_neg (fun e => c ((nI_le0 (by omega)).mp e)), if_neg (nI_ne0 (by omega) (by omega))]
    refine ⟨0, _, rfl, rfl, ?_, Or.inl rfl, fun c hc => sI_off (by omega)⟩
    refine RF_nm (d := d) (mo := mo) hnm (fun j hj => ?_) (fun j hj => ?_) rfl (fun c hc => sI_off (by omega)) (fun c g1 g2 => u2_off (by omega)) h
    · show (sI (sN d (16 * p + q) none) 7 i.val (nI u)).1 7 j = nI (cn (va_up d.2.1 (16 * p + q) none) j)
      by_cases e : j = i.val
      · subst e
        rw [sI_s, hcu]
      · rw [sI_n (by omega)]
        have := hdel j
        rw [if_neg (fun z => e z.symm), Nat.add_zero] at this
        rw [this]
        exact h.2.1 j hj
    · show 0 < cn (va_up d.2.1 (16 * p + q) none) j ↔ 0 < cn d.2.1 j
      by_cases e : j = i.val
      · subst e
        omega
      · have := hdel j
        rw [if_neg (fun z => e z.symm), Nat.add_zero] at this
        rw [this]
theorem sim_close {d : DK} {mo : MK} {T : Nat} (h : RR d mo T) (pr x : Int32) : (sp_close d pr x).1 = (sp_M_close mo pr x).1 ∧ RR (sp_close d pr x).2 (sp_M_close mo pr x).2 T := by
  have h0 := RR_0 h
  unfold sp_close sp_M_close
  generalize u2 mo 0 0 (0 : Int32) = m1 at h0 ⊢
  rcases fo_cases h0.1 pr x with ⟨e1, e2⟩ | ⟨p, q, i, hp, hq, rfl, rfl, hn, e1, e2⟩
  · rw [e1, e2, oc_n, if_neg m1_n]
    exact ⟨rfl, h0⟩
  have hi := i.isLt
  rw [e1, e2, oc_s, if_pos (nI_pos' (by omega)), nI_clamp (by omega)]
  obtain ⟨r, d', s1, s2, s3, s4, s5⟩ := drop h0.1 hp hq hn
  have hR : RR d' (u2 m1 5 (16 * p + q) (0 : Int32)) T := RR_F h0 s3 s5 (fun c hc => u2_off (by omega))
  rw [s1, s2]
  rcases s4 with rfl | ⟨rfl, s6⟩
  · rw [if_pos rfl, if_pos rfl]
    exact ⟨rfl, hR⟩
  · rw [if_neg n01, if_neg n01]
    exact ⟨by show d'.1 3 i.val = (u2 m1 5 (16 * p + q) (0 : Int32)) 7 i.val; rw [u2_n (by omega)]; exact s6, hR⟩
theorem RR_keep {d : DK} {mo : MK} {T t : Nat} {v w : Int32} (h : RR d mo T) (ht : t < 16) (e1 : d.1 0 0 = nI t) (e2 : mo 1 0 = nI t) (hv : v = w) : RR (sp_keepLeft d v) (u2 (u2 mo 12 t w) 1 0 (nI (t + 1))) T := by
  subst hv
  have ek : sp_keepLeft d v = sI (sI d 1 t v) 0 0 (nI (t + 1)) := by
    unfold sp_keepLeft
    rw [sI_n (by omega), e1, if_neg (nI_pos (by omega)), if_neg (ge_lit (b := (16 : Int32)) (B := 16) rfl (by decide) ht), nI_clamp (by omega), nI_1]
  rw [ek]
  refine ⟨RF_c (d := d) (mo := mo) rfl (fun c _ _ => by rw [sI_off (by omega), sI_off (by omega)]) (fun c _ => by rw [sI_off (by omega), sI_off (by omega)]) (fun c _ _ => by rw [u2_off (by omega), u2_off (by omega)]) h.1, ?_, RC_c (d := d) (mo := mo) (fun c _ _ => by rw [sI_off (by omega), sI_off (by omega)]) (by rw [u2_off (by omega), u2_off (by omega)]) (by rw [u2_off (by omega), u2_off (by omega)]) (by rw [u2_off (by omega), u2_off (by omega)]) h.2.2.1, RS_c (d := d) (mo := mo) (Nat.le_refl _) (by rw [sI_off (by omega), sI_off (by omega)]) (by rw [sI_off (by omega), sI_off (by omega)]) (by rw [u2_off (by omega), u2_off (by omega)]) (by rw [u2_off (by omega), u2_off (by omega)]) h.2.2.2⟩
  obtain ⟨n, g1, g2, g3, g4⟩ := h.2.1
  have en : n = t := (nI_eq (by omega) (by omega)).mp (g2.symm.trans e1)
  subst en
  refine ⟨n + 1, by omega, sI_s, u2_s, fun j hj => ?_⟩
  rw [sI_n (by omega), u2_n (by omega)]
  by_cases e : j = n
  · subst e
    rw [sI_s, u2_s]
  · rw [sI_n (by omega), u2_n (by omega)]
    exact g4 j (by omega)
theorem ca_lp {p T : Nat} (hp : p < 15) : ∀ n j t (d : DK) (mo : MK), RR d mo T → j ≤ 16 → j + n = 17 → t ≤ j → d.1 0 0 = nI t → mo 1 0 = nI t →
    (lp_closeAll (nI p) n j d).1 = (lp_M_closeAll (nI p) n j mo).1 ∧ RR (lp_closeAll (nI p) n j d).2 (lp_M_closeAll (nI p) n j mo).2 T
  | 0, j, t, d, mo, _, h1, h2, _, _, _ => by omega
  | n + 1, j, t, d, mo, h, h1, h2, ht, e1, e2 => by
    rw [lp_closeAll, lp_M_closeAll]
    by_cases hc : j < 16
    · rw [if_neg (ge_lit (b := (16 : Int32)) (B := 16) rfl (by decide) hc), if_neg (ge_lit (b := (16 : Int32)) (B := 16) rfl (by decide) hc)]
      rcases fo_cases h.1 (nI p) (nI j) with ⟨g1, g2⟩ | ⟨p', q', i, hp', hq', ep, eq, hn, g1, g2⟩
      · rw [g1, g2, oc_n, if_pos m1_l]
        exact ca_lp hp n (j + 1) t d mo h (by omega) (by omega) (by omega) e1 e2
      · have ep' : p = p' := (nI_eq (by omega) (by omega)).mp ep
        have eq' : j = q' := (nI_eq (by omega) (by omega)).mp eq
        subst ep'
        subst eq'
        have hi := i.isLt
        rw [g1, g2, oc_s, if_neg (nI_pos (by omega)), nI_clamp (by omega)]
        obtain ⟨r, d', s1, s2, s3, s4, s5⟩ := drop h.1 hp hc hn
        have hR : RR d' (u2 mo 5 (16 * p + j) (0 : Int32)) T := RR_F h s3 s5 (fun c hc => u2_off (by omega))
        have k1 : d'.1 0 0 = nI t := by rw [s5 0 (by omega)]; exact e1
        have k2 : (u2 mo 5 (16 * p + j) (0 : Int32)) 1 0 = nI t := by rw [u2_n (by omega)]; exact e2
        rw [s1, s2]
        rcases s4 with rfl | ⟨rfl, s6⟩
        · rw [if_pos rfl, if_pos rfl]
          exact ca_lp hp n (j + 1) t d' _ hR (by omega) (by omega) (by omega) k1 k2
        · rw [if_neg n01, if_neg n01]
          dsimp only
          rw [u2_n (c' := 1) (c := 12) (by omega), k2, nI_clamp (by omega), nI_1]
          have hK := RR_keep (v := d'.1 3 i.val) (w := (u2 mo 5 (16 * p + j) (0 : Int32)) 7 i.val) hR (by omega) k1 k2 (by rw [u2_n (by omega)]; exact s6)
          refine ca_lp hp n (j + 1) (t + 1) _ _ hK (by omega) (by omega) (by omega) ?_ u2_s
          unfold sp_keepLeft
          rw [sI_n (by omega), k1, if_neg (nI_pos (by omega)), if_neg (ge_lit (b := (16 : Int32)) (B := 16) rfl (by decide) (by omega)), sI_s, nI_1]
    · rw [if_pos (le_litT (b := (16 : Int32)) (B := 16) (k := j) rfl (by omega) (by omega)), if_pos (le_litT (b := (16 : Int32)) (B := 16) (k := j) rfl (by omega) (by omega))]
      exact ⟨e1.trans e2.symm, h⟩
theorem sim_closeAll {d : DK} {mo : MK} {T : Nat} (h : RR d mo T) (pr : Int32) : (sp_closeAll d pr).1 = (sp_M_closeAll mo pr).1 ∧ RR (sp_closeAll d pr).2 (sp_M_closeAll mo pr).2 T := by
  have h0 := RR_0 h
  unfold sp_closeAll sp_M_closeAll
  generalize u2 mo 0 0 (0 : Int32) = m1 at h0 ⊢
  rw [isP_eq]
  rcases pr_01 pr with h1 | ⟨p, hp, rfl⟩
  · rw [if_pos h1, if_pos h1]; exact ⟨rfl, h0⟩
  rw [pr_1 hp, if_neg n01, if_neg n01]
  refine ca_lp hp 17 0 0 (sI d 0 0 (0 : Int32)) (u2 m1 1 0 (0 : Int32)) ?_ (by omega) (by omega) (by omega) sI_s u2_s
  exact ⟨RF_c (d := d) (mo := m1) rfl (fun c _ _ => sI_off (by omega)) (fun c _ => sI_off (by omega)) (fun c _ _ => u2_off (by omega)) h0.1, ⟨0, by omega, sI_s, u2_s, fun j hj => by omega⟩, RC_c (d := d) (mo := m1) (fun c _ _ => sI_off (by omega)) (u2_off (by omega)) (u2_off (by omega)) (u2_off (by omega)) h0.2.2.1, RS_c (d := d) (mo := m1) (Nat.le_refl _) (sI_off (by omega)) (sI_off (by omega)) (u2_off (by omega)) (u2_off (by omega)) h0.2.2.2⟩
