/-! the tables' words (the skeleton's first part) -/
/-- a private method of a class that the tables say can be made, by its rows of tables_1 -/
def lw_okq (q : MethodName × Nat) : Prop := (q.1.cls ≠ "java/lang/invoke/MethodHandle" ∧ q.1.cls ≠ "java/lang/invoke/VarHandle") ∧ Cond.instantiable q.1.cls q.2 ∈ tables_1 ∧ Cond.privateMethod q.1 ∈ tables_1 ∧ Cond.instanceMethod q.1 ∈ tables_1
theorem lw_p0 : lw_okq (⟨"HandleDesk", "freeDescriptor", "(II)I"⟩, 7) := ⟨⟨by decide +kernel, by decide +kernel⟩, List.mem_of_getElem? (i := 9) (by decide +kernel), List.mem_of_getElem? (i := 159) (by decide +kernel), List.mem_of_getElem? (i := 160) (by decide +kernel)⟩
theorem lw_p1 : lw_okq (⟨"HandleDesk", "fileOf", "(II)LHandleDesk$OpenFile;"⟩, 7) := ⟨⟨by decide +kernel, by decide +kernel⟩, List.mem_of_getElem? (i := 9) (by decide +kernel), List.mem_of_getElem? (i := 163) (by decide +kernel), List.mem_of_getElem? (i := 164) (by decide +kernel)⟩
theorem lw_p2 : lw_okq (⟨"HandleDesk", "freeFile", "(I)LHandleDesk$OpenFile;"⟩, 7) := ⟨⟨by decide +kernel, by decide +kernel⟩, List.mem_of_getElem? (i := 9) (by decide +kernel), List.mem_of_getElem? (i := 170) (by decide +kernel), List.mem_of_getElem? (i := 171) (by decide +kernel)⟩
theorem lw_p3 : lw_okq (⟨"HandleDesk", "setName", "(IILHandleDesk$OpenFile;)V"⟩, 7) := ⟨⟨by decide +kernel, by decide +kernel⟩, List.mem_of_getElem? (i := 9) (by decide +kernel), List.mem_of_getElem? (i := 178) (by decide +kernel), List.mem_of_getElem? (i := 179) (by decide +kernel)⟩
theorem lw_p4 : lw_okq (⟨"HandleDesk", "freePipe", "()LHandleDesk$Pipe;"⟩, 7) := ⟨⟨by decide +kernel, by decide +kernel⟩, List.mem_of_getElem? (i := 9) (by decide +kernel), List.mem_of_getElem? (i := 186) (by decide +kernel), List.mem_of_getElem? (i := 187) (by decide +kernel)⟩
theorem lw_p5 : lw_okq (⟨"HandleDesk", "dropName", "(IILHandleDesk$OpenFile;)Z"⟩, 7) := ⟨⟨by decide +kernel, by decide +kernel⟩, List.mem_of_getElem? (i := 9) (by decide +kernel), List.mem_of_getElem? (i := 209) (by decide +kernel), List.mem_of_getElem? (i := 210) (by decide +kernel)⟩
theorem lw_p6 : lw_okq (⟨"HandleDesk", "keepLeft", "(I)V"⟩, 7) := ⟨⟨by decide +kernel, by decide +kernel⟩, List.mem_of_getElem? (i := 9) (by decide +kernel), List.mem_of_getElem? (i := 221) (by decide +kernel), List.mem_of_getElem? (i := 222) (by decide +kernel)⟩
theorem lw_p7 : lw_okq (⟨"HandleDesk", "usedDescriptors", "(I)I"⟩, 7) := ⟨⟨by decide +kernel, by decide +kernel⟩, List.mem_of_getElem? (i := 9) (by decide +kernel), List.mem_of_getElem? (i := 233) (by decide +kernel), List.mem_of_getElem? (i := 234) (by decide +kernel)⟩
theorem lw_p8 : lw_okq (⟨"HandleDesk", "takeBack", "(I)V"⟩, 7) := ⟨⟨by decide +kernel, by decide +kernel⟩, List.mem_of_getElem? (i := 9) (by decide +kernel), List.mem_of_getElem? (i := 283) (by decide +kernel), List.mem_of_getElem? (i := 284) (by decide +kernel)⟩
theorem lw_p9 : lw_okq (⟨"HandleDeskModel", "vacant", "(I)I"⟩, 15) := ⟨⟨by decide +kernel, by decide +kernel⟩, List.mem_of_getElem? (i := 336) (by decide +kernel), List.mem_of_getElem? (i := 395) (by decide +kernel), List.mem_of_getElem? (i := 396) (by decide +kernel)⟩
theorem lw_p10 : lw_okq (⟨"HandleDeskModel", "files", "()I"⟩, 15) := ⟨⟨by decide +kernel, by decide +kernel⟩, List.mem_of_getElem? (i := 336) (by decide +kernel), List.mem_of_getElem? (i := 399) (by decide +kernel), List.mem_of_getElem? (i := 400) (by decide +kernel)⟩
theorem lw_p11 : lw_okq (⟨"HandleDeskModel", "named", "(I)I"⟩, 15) := ⟨⟨by decide +kernel, by decide +kernel⟩, List.mem_of_getElem? (i := 336) (by decide +kernel), List.mem_of_getElem? (i := 403) (by decide +kernel), List.mem_of_getElem? (i := 404) (by decide +kernel)⟩
theorem lw_p12 : lw_okq (⟨"HandleDeskModel", "makes", "(IIIII)I"⟩, 15) := ⟨⟨by decide +kernel, by decide +kernel⟩, List.mem_of_getElem? (i := 336) (by decide +kernel), List.mem_of_getElem? (i := 407) (by decide +kernel), List.mem_of_getElem? (i := 408) (by decide +kernel)⟩
theorem lw_p13 : lw_okq (⟨"HandleDeskModel", "freeFile", "()I"⟩, 15) := ⟨⟨by decide +kernel, by decide +kernel⟩, List.mem_of_getElem? (i := 336) (by decide +kernel), List.mem_of_getElem? (i := 411) (by decide +kernel), List.mem_of_getElem? (i := 412) (by decide +kernel)⟩
theorem lw_p14 : lw_okq (⟨"HandleDeskModel", "isPipe", "(I)Z"⟩, 15) := ⟨⟨by decide +kernel, by decide +kernel⟩, List.mem_of_getElem? (i := 336) (by decide +kernel), List.mem_of_getElem? (i := 419) (by decide +kernel), List.mem_of_getElem? (i := 420) (by decide +kernel)⟩
theorem lw_p15 : lw_okq (⟨"HandleDeskModel", "end", "(II)I"⟩, 15) := ⟨⟨by decide +kernel, by decide +kernel⟩, List.mem_of_getElem? (i := 336) (by decide +kernel), List.mem_of_getElem? (i := 423) (by decide +kernel), List.mem_of_getElem? (i := 424) (by decide +kernel)⟩
def lw_privs_1 : List (MethodName × Nat) := [(⟨"HandleDesk", "freeDescriptor", "(II)I"⟩, 7), (⟨"HandleDesk", "fileOf", "(II)LHandleDesk$OpenFile;"⟩, 7), (⟨"HandleDesk", "freeFile", "(I)LHandleDesk$OpenFile;"⟩, 7), (⟨"HandleDesk", "setName", "(IILHandleDesk$OpenFile;)V"⟩, 7), (⟨"HandleDesk", "freePipe", "()LHandleDesk$Pipe;"⟩, 7), (⟨"HandleDesk", "dropName", "(IILHandleDesk$OpenFile;)Z"⟩, 7), (⟨"HandleDesk", "keepLeft", "(I)V"⟩, 7), (⟨"HandleDesk", "usedDescriptors", "(I)I"⟩, 7), (⟨"HandleDesk", "takeBack", "(I)V"⟩, 7), (⟨"HandleDeskModel", "vacant", "(I)I"⟩, 15), (⟨"HandleDeskModel", "files", "()I"⟩, 15), (⟨"HandleDeskModel", "named", "(I)I"⟩, 15), (⟨"HandleDeskModel", "makes", "(IIIII)I"⟩, 15), (⟨"HandleDeskModel", "freeFile", "()I"⟩, 15), (⟨"HandleDeskModel", "isPipe", "(I)Z"⟩, 15), (⟨"HandleDeskModel", "end", "(II)I"⟩, 15)]
theorem lw_r1 : ∀ q ∈ lw_privs_1, lw_okq q := List.forall_mem_cons.mpr ⟨lw_p0, List.forall_mem_cons.mpr ⟨lw_p1, List.forall_mem_cons.mpr ⟨lw_p2, List.forall_mem_cons.mpr ⟨lw_p3, List.forall_mem_cons.mpr ⟨lw_p4, List.forall_mem_cons.mpr ⟨lw_p5, List.forall_mem_cons.mpr ⟨lw_p6, List.forall_mem_cons.mpr ⟨lw_p7, List.forall_mem_cons.mpr ⟨lw_p8, List.forall_mem_cons.mpr ⟨lw_p9, List.forall_mem_cons.mpr ⟨lw_p10, List.forall_mem_cons.mpr ⟨lw_p11, List.forall_mem_cons.mpr ⟨lw_p12, List.forall_mem_cons.mpr ⟨lw_p13, List.forall_mem_cons.mpr ⟨lw_p14, List.forall_mem_cons.mpr ⟨lw_p15, fun _ h => absurd h List.not_mem_nil⟩⟩⟩⟩⟩⟩⟩⟩⟩⟩⟩⟩⟩⟩⟩⟩
theorem lw_p16 : lw_okq (⟨"HandleDeskModel", "used", "(I)I"⟩, 15) := ⟨⟨by decide +kernel, by decide +kernel⟩, List.mem_of_getElem? (i := 336) (by decide +kernel), List.mem_of_getElem? (i := 427) (by decide +kernel), List.mem_of_getElem? (i := 428) (by decide +kernel)⟩
theorem lw_p17 : lw_okq (⟨"HandleDeskModel", "file", "(II)I"⟩, 15) := ⟨⟨by decide +kernel, by decide +kernel⟩, List.mem_of_getElem? (i := 336) (by decide +kernel), List.mem_of_getElem? (i := 435) (by decide +kernel), List.mem_of_getElem? (i := 436) (by decide +kernel)⟩
theorem lw_p18 : lw_okq (⟨"HandleDeskModel", "closes", "(II)Z"⟩, 15) := ⟨⟨by decide +kernel, by decide +kernel⟩, List.mem_of_getElem? (i := 336) (by decide +kernel), List.mem_of_getElem? (i := 443) (by decide +kernel), List.mem_of_getElem? (i := 444) (by decide +kernel)⟩
theorem lw_p19 : lw_okq (⟨"HandleDeskModel", "back", "()V"⟩, 15) := ⟨⟨by decide +kernel, by decide +kernel⟩, List.mem_of_getElem? (i := 336) (by decide +kernel), List.mem_of_getElem? (i := 483) (by decide +kernel), List.mem_of_getElem? (i := 484) (by decide +kernel)⟩
theorem lw_p20 : lw_okq (⟨"HandleDeskModel", "puts", "(I)V"⟩, 15) := ⟨⟨by decide +kernel, by decide +kernel⟩, List.mem_of_getElem? (i := 336) (by decide +kernel), List.mem_of_getElem? (i := 487) (by decide +kernel), List.mem_of_getElem? (i := 488) (by decide +kernel)⟩
def lw_privs_2 : List (MethodName × Nat) := [(⟨"HandleDeskModel", "used", "(I)I"⟩, 15), (⟨"HandleDeskModel", "file", "(II)I"⟩, 15), (⟨"HandleDeskModel", "closes", "(II)Z"⟩, 15), (⟨"HandleDeskModel", "back", "()V"⟩, 15), (⟨"HandleDeskModel", "puts", "(I)V"⟩, 15)]
theorem lw_r2 : ∀ q ∈ lw_privs_2, lw_okq q := List.forall_mem_cons.mpr ⟨lw_p16, List.forall_mem_cons.mpr ⟨lw_p17, List.forall_mem_cons.mpr ⟨lw_p18, List.forall_mem_cons.mpr ⟨lw_p19, List.forall_mem_cons.mpr ⟨lw_p20, fun _ h => absurd h List.not_mem_nil⟩⟩⟩⟩⟩
def lw_privs : List (MethodName × Nat) := lw_privs_1 ++ (lw_privs_2)
def lw_tbl : List Cond := k2_sels lw_privs ++ tables_1
theorem lw_privs_ok : ∀ q ∈ lw_privs, lw_okq q := by
  show ∀ q ∈ lw_privs_1 ++ (lw_privs_2), lw_okq q
  exact List.forall_mem_append.mpr ⟨lw_r1, lw_r2⟩
/-! Names: the good words of the tables, all of them for every method; fields; codes. -/
def wsA : List Cond := lw_tbl.filter goodWord
theorem wA {w : Cond} (h : w ∈ lw_tbl) (hg : goodWord w = true) : w ∈ wsA := List.mem_filter.mpr ⟨h, hg⟩
theorem wA1 {w : Cond} (i : Nat) (h : tables_1_1[i]? = some w) (hg : goodWord w = true) : w ∈ wsA := wA (List.mem_append_right _ (List.mem_append_left _ (List.mem_of_getElem? h))) hg
theorem wA2 {w : Cond} (i : Nat) (h : tables_1_2[i]? = some w) (hg : goodWord w = true) : w ∈ wsA := wA (List.mem_append_right _ (List.mem_append_right _ (List.mem_append_left _ (List.mem_of_getElem? h)))) hg
theorem wA3 {w : Cond} (i : Nat) (h : tables_1_3[i]? = some w) (hg : goodWord w = true) : w ∈ wsA := wA (List.mem_append_right _ (List.mem_append_right _ (List.mem_append_right _ (List.mem_of_getElem? h)))) hg
theorem wAs {w : Cond} (i : Nat) (h : (k2_sels lw_privs)[i]? = some w) (hg : goodWord w = true) : w ∈ wsA := wA (List.mem_append_left _ (List.mem_of_getElem? h)) hg
theorem mC {x : Cond} : ∀ w ∈ wsA, w ∈ x :: wsA := fun _ h => List.mem_cons_of_mem _ h
theorem mI : ∀ w ∈ wsA, w ∈ wsA := fun _ h => h
theorem gd_1 {big : List Cond} (hb : ∀ w ∈ wsA, w ∈ big) {w : Cond} (h : w ∈ wsA) : w ∈ big ∧ ((w.onTables && w.keeps) = true ∨ ∃ ty, w = .arrayClass ty) := ⟨hb w h, good_of_word (List.mem_filter.mp h).2⟩
theorem gd_I {big : List Cond} {c : Cond} (hb : ∀ w ∈ wsA, w ∈ big) (h5 : c ∈ wsA) : GoodIn big (c :: wsA) := by
  intro w hw
  rcases List.mem_cons.mp hw with h | h
  · rw [h]; exact gd_1 hb h5
  · exact gd_1 hb h
theorem gd_V {big : List Cond} {own C : String} {idx : Nat} {y : MethodName} {c : Cond} (hb : ∀ w ∈ wsA, w ∈ big) (h1 : .methodLink own idx y ∈ wsA) (h2 : .instanceMethod y ∈ wsA) (h3 : .selects C y y ∈ wsA) (h4 : .initialized C ∈ wsA) (h5 : c ∈ wsA) : GoodIn big (wsV own idx C y (c :: wsA)) := by
  intro w hw
  rcases List.mem_append.mp hw with h | h
  · rcases List.mem_cons.mp h with h | h
    · rw [h]; exact gd_1 hb h1
    rcases List.mem_cons.mp h with h | h
    · rw [h]; exact gd_1 hb h2
    rcases List.mem_cons.mp h with h | h
    · rw [h]; exact gd_1 hb h3
    rcases List.mem_cons.mp h with h | h
    · rw [h]; exact gd_1 hb h4
    exact absurd h List.not_mem_nil
  · exact gd_I hb h5 w h
theorem gd_S {big : List Cond} {own : String} {idx : Nat} {y : MethodName} {c : Cond} (hb : ∀ w ∈ wsA, w ∈ big) (h1 : .methodLink own idx y ∈ wsA) (h2 : .static y ∈ wsA) (h4 : .initialized own ∈ wsA) (h5 : c ∈ wsA) : GoodIn big (wsS own idx y (c :: wsA)) := by
  intro w hw
  rcases List.mem_append.mp hw with h | h
  · rcases List.mem_cons.mp h with h | h
    · rw [h]; exact gd_1 hb h1
    rcases List.mem_cons.mp h with h | h
    · rw [h]; exact gd_1 hb h2
    rcases List.mem_cons.mp h with h | h
    · rw [h]; exact gd_1 hb h4
    exact absurd h List.not_mem_nil
  · exact gd_I hb h5 w h
def TD : u_T := fun k => match k with
  | 0 => ("HandleDesk", "named", "[LHandleDesk$OpenFile;", true)
  | 1 => ("HandleDesk", "files", "[LHandleDesk$OpenFile;", true)
  | 2 => ("HandleDesk", "pipes", "[LHandleDesk$Pipe;", true)
  | 3 => ("HandleDesk", "leftInodes", "[I", true)
  | 4 => ("HandleDesk", "leftCount", "I", false)
  | 5 => ("HandleDesk", "console", "LHandleDesk$Console;", true)
  | _ => ("HandleDesk", "screen", "LHandleDesk$Screen;", true)
def tyD : Nat → FieldType := fun k => match k with
  | 0 => (.array (.object "HandleDesk$OpenFile"))
  | 1 => (.array (.object "HandleDesk$OpenFile"))
  | 2 => (.array (.object "HandleDesk$Pipe"))
  | 3 => (.array .int)
  | 4 => .int
  | 5 => (.object "HandleDesk$Console")
  | _ => (.object "HandleDesk$Screen")
theorem nmD : ∀ a, a < 7 → ∀ b, b < 7 → a ≠ b → (TD a).2.1 ≠ (TD b).2.1 := by decide +kernel
theorem tyD_ok : ∀ k, k < 7 → parseFieldDescriptor (TD k).2.2.1 = some (tyD k) := by decide +kernel
theorem in_D : ∀ w ∈ u_ws "HandleDesk" TD 7, w ∈ wsA := fun w h => wA ((by decide +kernel : ∀ w ∈ u_ws "HandleDesk" TD 7, w ∈ lw_tbl) w h) ((by decide +kernel : ∀ w ∈ u_ws "HandleDesk" TD 7, goodWord w = true) w h)
theorem in_DC {x : Cond} : ∀ w ∈ u_ws "HandleDesk" TD 7, w ∈ x :: wsA := fun w h => mC w (in_D w h)
def TF : u_T := fun k => match k with
  | 0 => ("HandleDesk$OpenFile", "number", "I", true)
  | 1 => ("HandleDesk$OpenFile", "kind", "I", false)
  | 2 => ("HandleDesk$OpenFile", "inode", "I", false)
  | 3 => ("HandleDesk$OpenFile", "row", "LHandleDesk$Pipe;", false)
  | 4 => ("HandleDesk$OpenFile", "canRead", "Z", false)
  | 5 => ("HandleDesk$OpenFile", "canWrite", "Z", false)
  | 6 => ("HandleDesk$OpenFile", "place", "I", false)
  | _ => ("HandleDesk$OpenFile", "names", "I", false)
def tyF : Nat → FieldType := fun k => match k with
  | 0 => .int
  | 1 => .int
  | 2 => .int
  | 3 => (.object "HandleDesk$Pipe")
  | 4 => .boolean
  | 5 => .boolean
  | 6 => .int
  | _ => .int
theorem nmF : ∀ a, a < 8 → ∀ b, b < 8 → a ≠ b → (TF a).2.1 ≠ (TF b).2.1 := by decide +kernel
theorem tyF_ok : ∀ k, k < 8 → parseFieldDescriptor (TF k).2.2.1 = some (tyF k) := by decide +kernel
theorem in_F : ∀ w ∈ u_ws "HandleDesk$OpenFile" TF 8, w ∈ wsA := fun w h => wA ((by decide +kernel : ∀ w ∈ u_ws "HandleDesk$OpenFile" TF 8, w ∈ lw_tbl) w h) ((by decide +kernel : ∀ w ∈ u_ws "HandleDesk$OpenFile" TF 8, goodWord w = true) w h)
theorem in_FC {x : Cond} : ∀ w ∈ u_ws "HandleDesk$OpenFile" TF 8, w ∈ x :: wsA := fun w h => mC w (in_F w h)
def TP : u_T := fun k => match k with
  | 0 => ("HandleDesk$Pipe", "number", "I", true)
  | 1 => ("HandleDesk$Pipe", "ring", "[B", true)
  | 2 => ("HandleDesk$Pipe", "start", "I", false)
  | 3 => ("HandleDesk$Pipe", "size", "I", false)
  | 4 => ("HandleDesk$Pipe", "readerOpen", "Z", false)
  | _ => ("HandleDesk$Pipe", "writerOpen", "Z", false)
def tyP : Nat → FieldType := fun k => match k with
  | 0 => .int
  | 1 => (.array .byte)
  | 2 => .int
  | 3 => .int
  | 4 => .boolean
  | _ => .boolean
theorem nmP : ∀ a, a < 6 → ∀ b, b < 6 → a ≠ b → (TP a).2.1 ≠ (TP b).2.1 := by decide +kernel
theorem tyP_ok : ∀ k, k < 6 → parseFieldDescriptor (TP k).2.2.1 = some (tyP k) := by decide +kernel
theorem in_P : ∀ w ∈ u_ws "HandleDesk$Pipe" TP 6, w ∈ wsA := fun w h => wA ((by decide +kernel : ∀ w ∈ u_ws "HandleDesk$Pipe" TP 6, w ∈ lw_tbl) w h) ((by decide +kernel : ∀ w ∈ u_ws "HandleDesk$Pipe" TP 6, goodWord w = true) w h)
theorem in_PC {x : Cond} : ∀ w ∈ u_ws "HandleDesk$Pipe" TP 6, w ∈ x :: wsA := fun w h => mC w (in_P w h)
def TC : u_T := fun k => match k with
  | 0 => ("HandleDesk$Console", "ring", "[B", true)
  | 1 => ("HandleDesk$Console", "start", "I", false)
  | 2 => ("HandleDesk$Console", "done", "I", false)
  | _ => ("HandleDesk$Console", "size", "I", false)
def tyC : Nat → FieldType := fun k => match k with
  | 0 => (.array .byte)
  | 1 => .int
  | 2 => .int
  | _ => .int
theorem nmC : ∀ a, a < 4 → ∀ b, b < 4 → a ≠ b → (TC a).2.1 ≠ (TC b).2.1 := by decide +kernel
theorem tyC_ok : ∀ k, k < 4 → parseFieldDescriptor (TC k).2.2.1 = some (tyC k) := by decide +kernel
theorem in_C : ∀ w ∈ u_ws "HandleDesk$Console" TC 4, w ∈ wsA := fun w h => wA ((by decide +kernel : ∀ w ∈ u_ws "HandleDesk$Console" TC 4, w ∈ lw_tbl) w h) ((by decide +kernel : ∀ w ∈ u_ws "HandleDesk$Console" TC 4, goodWord w = true) w h)
theorem in_CC {x : Cond} : ∀ w ∈ u_ws "HandleDesk$Console" TC 4, w ∈ x :: wsA := fun w h => mC w (in_C w h)
def TS : u_T := fun k => match k with
  | 0 => ("HandleDesk$Screen", "ring", "[B", true)
  | _ => ("HandleDesk$Screen", "total", "I", false)
def tyS : Nat → FieldType := fun k => match k with
  | 0 => (.array .byte)
  | _ => .int
theorem nmS : ∀ a, a < 2 → ∀ b, b < 2 → a ≠ b → (TS a).2.1 ≠ (TS b).2.1 := by decide +kernel
theorem tyS_ok : ∀ k, k < 2 → parseFieldDescriptor (TS k).2.2.1 = some (tyS k) := by decide +kernel
theorem in_S : ∀ w ∈ u_ws "HandleDesk$Screen" TS 2, w ∈ wsA := fun w h => wA ((by decide +kernel : ∀ w ∈ u_ws "HandleDesk$Screen" TS 2, w ∈ lw_tbl) w h) ((by decide +kernel : ∀ w ∈ u_ws "HandleDesk$Screen" TS 2, goodWord w = true) w h)
theorem in_SC {x : Cond} : ∀ w ∈ u_ws "HandleDesk$Screen" TS 2, w ∈ x :: wsA := fun w h => mC w (in_S w h)
def TM : u_T := fun k => match k with
  | 0 => ("HandleDeskModel", "thrown", "I", false)
  | 1 => ("HandleDeskModel", "names", "[I", true)
  | 2 => ("HandleDeskModel", "kind", "[I", true)
  | 3 => ("HandleDeskModel", "what", "[I", true)
  | 4 => ("HandleDeskModel", "how", "[I", true)
  | 5 => ("HandleDeskModel", "place", "[I", true)
  | 6 => ("HandleDeskModel", "many", "[I", true)
  | 7 => ("HandleDeskModel", "queue", "[B", true)
  | 8 => ("HandleDeskModel", "lefts", "I", false)
  | 9 => ("HandleDeskModel", "left", "[I", true)
  | 10 => ("HandleDeskModel", "waits", "I", false)
  | 11 => ("HandleDeskModel", "done", "I", false)
  | 12 => ("HandleDeskModel", "line", "[I", true)
  | 13 => ("HandleDeskModel", "shown", "I", false)
  | _ => ("HandleDeskModel", "screen", "[B", true)
def tyM : Nat → FieldType := fun k => match k with
  | 0 => .int
  | 1 => (.array .int)
  | 2 => (.array .int)
  | 3 => (.array .int)
  | 4 => (.array .int)
  | 5 => (.array .int)
  | 6 => (.array .int)
  | 7 => (.array .byte)
  | 8 => .int
  | 9 => (.array .int)
  | 10 => .int
  | 11 => .int
  | 12 => (.array .int)
  | 13 => .int
  | _ => (.array .byte)
theorem nmM : ∀ a, a < 15 → ∀ b, b < 15 → a ≠ b → (TM a).2.1 ≠ (TM b).2.1 := by decide +kernel
theorem tyM_ok : ∀ k, k < 15 → parseFieldDescriptor (TM k).2.2.1 = some (tyM k) := by decide +kernel
theorem in_M : ∀ w ∈ u_ws "HandleDeskModel" TM 15, w ∈ wsA := fun w h => wA ((by decide +kernel : ∀ w ∈ u_ws "HandleDeskModel" TM 15, w ∈ lw_tbl) w h) ((by decide +kernel : ∀ w ∈ u_ws "HandleDeskModel" TM 15, goodWord w = true) w h)
theorem in_MC {x : Cond} : ∀ w ∈ u_ws "HandleDeskModel" TM 15, w ∈ x :: wsA := fun w h => mC w (in_M w h)
abbrev vwCl : List vw_C := [("HandleDesk", TD, 7), ("HandleDesk$OpenFile", TF, 8), ("HandleDesk$Pipe", TP, 6), ("HandleDesk$Console", TC, 4), ("HandleDesk$Screen", TS, 2), ("HandleDeskModel", TM, 15)]
def y_init_D : MethodName := ⟨"HandleDesk", "<init>", "()V"⟩
def ws_init_D : List Cond := .code y_init_D prog_1_method_1_code 2 (none : Option Jvm.ClassFile.FieldType) :: wsA
theorem hi_init_D : y_init_D.cls ≠ "java/lang/invoke/MethodHandle" ∧ y_init_D.cls ≠ "java/lang/invoke/VarHandle" ∧ (parseMethodDescriptor y_init_D.desc).map (fun d => d.parameters.length) = some 0 := by decide +kernel
theorem hd_init_D : y_init_D.cls = "HandleDesk" ∧ y_init_D.cls ≠ "java/lang/invoke/MethodHandle" ∧ y_init_D.cls ≠ "java/lang/invoke/VarHandle" ∧ (parseMethodDescriptor y_init_D.desc).map (fun d => d.parameters.length) = some 0 := ⟨rfl, hi_init_D⟩
def y_init_F : MethodName := ⟨"HandleDesk$OpenFile", "<init>", "(I)V"⟩
def ws_init_F : List Cond := .code y_init_F prog_3_method_1_code 2 (none : Option Jvm.ClassFile.FieldType) :: wsA
theorem hi_init_F : y_init_F.cls ≠ "java/lang/invoke/MethodHandle" ∧ y_init_F.cls ≠ "java/lang/invoke/VarHandle" ∧ (parseMethodDescriptor y_init_F.desc).map (fun d => d.parameters.length) = some 1 := by decide +kernel
theorem hd_init_F : y_init_F.cls = "HandleDesk$OpenFile" ∧ y_init_F.cls ≠ "java/lang/invoke/MethodHandle" ∧ y_init_F.cls ≠ "java/lang/invoke/VarHandle" ∧ (parseMethodDescriptor y_init_F.desc).map (fun d => d.parameters.length) = some 1 := ⟨rfl, hi_init_F⟩
def y_init_P : MethodName := ⟨"HandleDesk$Pipe", "<init>", "(I)V"⟩
def ws_init_P : List Cond := .code y_init_P prog_4_method_1_code 2 (none : Option Jvm.ClassFile.FieldType) :: wsA
theorem hi_init_P : y_init_P.cls ≠ "java/lang/invoke/MethodHandle" ∧ y_init_P.cls ≠ "java/lang/invoke/VarHandle" ∧ (parseMethodDescriptor y_init_P.desc).map (fun d => d.parameters.length) = some 1 := by decide +kernel
theorem hd_init_P : y_init_P.cls = "HandleDesk$Pipe" ∧ y_init_P.cls ≠ "java/lang/invoke/MethodHandle" ∧ y_init_P.cls ≠ "java/lang/invoke/VarHandle" ∧ (parseMethodDescriptor y_init_P.desc).map (fun d => d.parameters.length) = some 1 := ⟨rfl, hi_init_P⟩
def y_init_C : MethodName := ⟨"HandleDesk$Console", "<init>", "()V"⟩
def ws_init_C : List Cond := .code y_init_C prog_2_method_1_code 1 (none : Option Jvm.ClassFile.FieldType) :: wsA
theorem hi_init_C : y_init_C.cls ≠ "java/lang/invoke/MethodHandle" ∧ y_init_C.cls ≠ "java/lang/invoke/VarHandle" ∧ (parseMethodDescriptor y_init_C.desc).map (fun d => d.parameters.length) = some 0 := by decide +kernel
theorem hd_init_C : y_init_C.cls = "HandleDesk$Console" ∧ y_init_C.cls ≠ "java/lang/invoke/MethodHandle" ∧ y_init_C.cls ≠ "java/lang/invoke/VarHandle" ∧ (parseMethodDescriptor y_init_C.desc).map (fun d => d.parameters.length) = some 0 := ⟨rfl, hi_init_C⟩
def y_init_S : MethodName := ⟨"HandleDesk$Screen", "<init>", "()V"⟩
def ws_init_S : List Cond := .code y_init_S prog_5_method_1_code 1 (none : Option Jvm.ClassFile.FieldType) :: wsA
theorem hi_init_S : y_init_S.cls ≠ "java/lang/invoke/MethodHandle" ∧ y_init_S.cls ≠ "java/lang/invoke/VarHandle" ∧ (parseMethodDescriptor y_init_S.desc).map (fun d => d.parameters.length) = some 0 := by decide +kernel
theorem hd_init_S : y_init_S.cls = "HandleDesk$Screen" ∧ y_init_S.cls ≠ "java/lang/invoke/MethodHandle" ∧ y_init_S.cls ≠ "java/lang/invoke/VarHandle" ∧ (parseMethodDescriptor y_init_S.desc).map (fun d => d.parameters.length) = some 0 := ⟨rfl, hi_init_S⟩
def y_open : MethodName := ⟨"HandleDesk", "open", "(IIII)I"⟩
def ws_open : List Cond := .code y_open prog_1_method_2_code 7 (some .int) :: wsA
theorem hi_open : y_open.cls ≠ "java/lang/invoke/MethodHandle" ∧ y_open.cls ≠ "java/lang/invoke/VarHandle" ∧ (parseMethodDescriptor y_open.desc).map (fun d => d.parameters.length) = some 4 := by decide +kernel
theorem hd_open : y_open.cls = "HandleDesk" ∧ y_open.cls ≠ "java/lang/invoke/MethodHandle" ∧ y_open.cls ≠ "java/lang/invoke/VarHandle" ∧ (parseMethodDescriptor y_open.desc).map (fun d => d.parameters.length) = some 4 := ⟨rfl, hi_open⟩
def y_isProcess : MethodName := ⟨"HandleDesk", "isProcess", "(I)Z"⟩
def ws_isProcess : List Cond := .code y_isProcess prog_1_method_20_code 1 (some .boolean) :: wsA
theorem hi_isProcess : y_isProcess.cls ≠ "java/lang/invoke/MethodHandle" ∧ y_isProcess.cls ≠ "java/lang/invoke/VarHandle" ∧ (parseMethodDescriptor y_isProcess.desc).map (fun d => d.parameters.length) = some 1 := by decide +kernel
theorem hd_isProcess : y_isProcess.cls = "HandleDesk" ∧ y_isProcess.cls ≠ "java/lang/invoke/MethodHandle" ∧ y_isProcess.cls ≠ "java/lang/invoke/VarHandle" ∧ (parseMethodDescriptor y_isProcess.desc).map (fun d => d.parameters.length) = some 1 := ⟨rfl, hi_isProcess⟩
def y_isOpenable : MethodName := ⟨"HandleDesk", "isOpenable", "(I)Z"⟩
def ws_isOpenable : List Cond := .code y_isOpenable prog_1_method_22_code 1 (some .boolean) :: wsA
theorem hi_isOpenable : y_isOpenable.cls ≠ "java/lang/invoke/MethodHandle" ∧ y_isOpenable.cls ≠ "java/lang/invoke/VarHandle" ∧ (parseMethodDescriptor y_isOpenable.desc).map (fun d => d.parameters.length) = some 1 := by decide +kernel
theorem hd_isOpenable : y_isOpenable.cls = "HandleDesk" ∧ y_isOpenable.cls ≠ "java/lang/invoke/MethodHandle" ∧ y_isOpenable.cls ≠ "java/lang/invoke/VarHandle" ∧ (parseMethodDescriptor y_isOpenable.desc).map (fun d => d.parameters.length) = some 1 := ⟨rfl, hi_isOpenable⟩
def y_isHow : MethodName := ⟨"HandleDesk", "isHow", "(I)Z"⟩
def ws_isHow : List Cond := .code y_isHow prog_1_method_23_code 1 (some .boolean) :: wsA
theorem hi_isHow : y_isHow.cls ≠ "java/lang/invoke/MethodHandle" ∧ y_isHow.cls ≠ "java/lang/invoke/VarHandle" ∧ (parseMethodDescriptor y_isHow.desc).map (fun d => d.parameters.length) = some 1 := by decide +kernel
theorem hd_isHow : y_isHow.cls = "HandleDesk" ∧ y_isHow.cls ≠ "java/lang/invoke/MethodHandle" ∧ y_isHow.cls ≠ "java/lang/invoke/VarHandle" ∧ (parseMethodDescriptor y_isHow.desc).map (fun d => d.parameters.length) = some 1 := ⟨rfl, hi_isHow⟩
def y_freeDescriptor : MethodName := ⟨"HandleDesk", "freeDescriptor", "(II)I"⟩
def ws_freeDescriptor : List Cond := .code y_freeDescriptor prog_1_method_26_code 4 (some .int) :: wsA
theorem hi_freeDescriptor : y_freeDescriptor.cls ≠ "java/lang/invoke/MethodHandle" ∧ y_freeDescriptor.cls ≠ "java/lang/invoke/VarHandle" ∧ (parseMethodDescriptor y_freeDescriptor.desc).map (fun d => d.parameters.length) = some 2 := by decide +kernel
theorem hd_freeDescriptor : y_freeDescriptor.cls = "HandleDesk" ∧ y_freeDescriptor.cls ≠ "java/lang/invoke/MethodHandle" ∧ y_freeDescriptor.cls ≠ "java/lang/invoke/VarHandle" ∧ (parseMethodDescriptor y_freeDescriptor.desc).map (fun d => d.parameters.length) = some 2 := ⟨rfl, hi_freeDescriptor⟩
def y_fileOf : MethodName := ⟨"HandleDesk", "fileOf", "(II)LHandleDesk$OpenFile;"⟩
def ws_fileOf : List Cond := .code y_fileOf prog_1_method_25_code 3 (some (.object "HandleDesk$OpenFile")) :: wsA
theorem hi_fileOf : y_fileOf.cls ≠ "java/lang/invoke/MethodHandle" ∧ y_fileOf.cls ≠ "java/lang/invoke/VarHandle" ∧ (parseMethodDescriptor y_fileOf.desc).map (fun d => d.parameters.length) = some 2 := by decide +kernel
theorem hd_fileOf : y_fileOf.cls = "HandleDesk" ∧ y_fileOf.cls ≠ "java/lang/invoke/MethodHandle" ∧ y_fileOf.cls ≠ "java/lang/invoke/VarHandle" ∧ (parseMethodDescriptor y_fileOf.desc).map (fun d => d.parameters.length) = some 2 := ⟨rfl, hi_fileOf⟩
def y_isDescriptor : MethodName := ⟨"HandleDesk", "isDescriptor", "(I)Z"⟩
def ws_isDescriptor : List Cond := .code y_isDescriptor prog_1_method_21_code 1 (some .boolean) :: wsA
theorem hi_isDescriptor : y_isDescriptor.cls ≠ "java/lang/invoke/MethodHandle" ∧ y_isDescriptor.cls ≠ "java/lang/invoke/VarHandle" ∧ (parseMethodDescriptor y_isDescriptor.desc).map (fun d => d.parameters.length) = some 1 := by decide +kernel
theorem hd_isDescriptor : y_isDescriptor.cls = "HandleDesk" ∧ y_isDescriptor.cls ≠ "java/lang/invoke/MethodHandle" ∧ y_isDescriptor.cls ≠ "java/lang/invoke/VarHandle" ∧ (parseMethodDescriptor y_isDescriptor.desc).map (fun d => d.parameters.length) = some 1 := ⟨rfl, hi_isDescriptor⟩
def y_freeFile : MethodName := ⟨"HandleDesk", "freeFile", "(I)LHandleDesk$OpenFile;"⟩
def ws_freeFile : List Cond := .code y_freeFile prog_1_method_28_code 4 (some (.object "HandleDesk$OpenFile")) :: wsA
theorem hi_freeFile : y_freeFile.cls ≠ "java/lang/invoke/MethodHandle" ∧ y_freeFile.cls ≠ "java/lang/invoke/VarHandle" ∧ (parseMethodDescriptor y_freeFile.desc).map (fun d => d.parameters.length) = some 1 := by decide +kernel
theorem hd_freeFile : y_freeFile.cls = "HandleDesk" ∧ y_freeFile.cls ≠ "java/lang/invoke/MethodHandle" ∧ y_freeFile.cls ≠ "java/lang/invoke/VarHandle" ∧ (parseMethodDescriptor y_freeFile.desc).map (fun d => d.parameters.length) = some 1 := ⟨rfl, hi_freeFile⟩
def y_File_begin : MethodName := ⟨"HandleDesk$OpenFile", "begin", "(II)V"⟩
def ws_File_begin : List Cond := .code y_File_begin prog_3_method_2_code 3 (none : Option Jvm.ClassFile.FieldType) :: wsA
theorem hi_File_begin : y_File_begin.cls ≠ "java/lang/invoke/MethodHandle" ∧ y_File_begin.cls ≠ "java/lang/invoke/VarHandle" ∧ (parseMethodDescriptor y_File_begin.desc).map (fun d => d.parameters.length) = some 2 := by decide +kernel
theorem hd_File_begin : y_File_begin.cls = "HandleDesk$OpenFile" ∧ y_File_begin.cls ≠ "java/lang/invoke/MethodHandle" ∧ y_File_begin.cls ≠ "java/lang/invoke/VarHandle" ∧ (parseMethodDescriptor y_File_begin.desc).map (fun d => d.parameters.length) = some 2 := ⟨rfl, hi_File_begin⟩
def y_setName : MethodName := ⟨"HandleDesk", "setName", "(IILHandleDesk$OpenFile;)V"⟩
def ws_setName : List Cond := .code y_setName prog_1_method_31_code 4 (none : Option Jvm.ClassFile.FieldType) :: wsA
theorem hi_setName : y_setName.cls ≠ "java/lang/invoke/MethodHandle" ∧ y_setName.cls ≠ "java/lang/invoke/VarHandle" ∧ (parseMethodDescriptor y_setName.desc).map (fun d => d.parameters.length) = some 3 := by decide +kernel
theorem hd_setName : y_setName.cls = "HandleDesk" ∧ y_setName.cls ≠ "java/lang/invoke/MethodHandle" ∧ y_setName.cls ≠ "java/lang/invoke/VarHandle" ∧ (parseMethodDescriptor y_setName.desc).map (fun d => d.parameters.length) = some 3 := ⟨rfl, hi_setName⟩
def y_pipe : MethodName := ⟨"HandleDesk", "pipe", "(I)I"⟩
def ws_pipe : List Cond := .code y_pipe prog_1_method_3_code 7 (some .int) :: wsA
theorem hi_pipe : y_pipe.cls ≠ "java/lang/invoke/MethodHandle" ∧ y_pipe.cls ≠ "java/lang/invoke/VarHandle" ∧ (parseMethodDescriptor y_pipe.desc).map (fun d => d.parameters.length) = some 1 := by decide +kernel
theorem hd_pipe : y_pipe.cls = "HandleDesk" ∧ y_pipe.cls ≠ "java/lang/invoke/MethodHandle" ∧ y_pipe.cls ≠ "java/lang/invoke/VarHandle" ∧ (parseMethodDescriptor y_pipe.desc).map (fun d => d.parameters.length) = some 1 := ⟨rfl, hi_pipe⟩
def y_freePipe : MethodName := ⟨"HandleDesk", "freePipe", "()LHandleDesk$Pipe;"⟩
def ws_freePipe : List Cond := .code y_freePipe prog_1_method_29_code 3 (some (.object "HandleDesk$Pipe")) :: wsA
theorem hi_freePipe : y_freePipe.cls ≠ "java/lang/invoke/MethodHandle" ∧ y_freePipe.cls ≠ "java/lang/invoke/VarHandle" ∧ (parseMethodDescriptor y_freePipe.desc).map (fun d => d.parameters.length) = some 0 := by decide +kernel
theorem hd_freePipe : y_freePipe.cls = "HandleDesk" ∧ y_freePipe.cls ≠ "java/lang/invoke/MethodHandle" ∧ y_freePipe.cls ≠ "java/lang/invoke/VarHandle" ∧ (parseMethodDescriptor y_freePipe.desc).map (fun d => d.parameters.length) = some 0 := ⟨rfl, hi_freePipe⟩
def y_Pipe_isGone : MethodName := ⟨"HandleDesk$Pipe", "isGone", "()Z"⟩
def ws_Pipe_isGone : List Cond := .code y_Pipe_isGone prog_4_method_3_code 1 (some .boolean) :: wsA
theorem hi_Pipe_isGone : y_Pipe_isGone.cls ≠ "java/lang/invoke/MethodHandle" ∧ y_Pipe_isGone.cls ≠ "java/lang/invoke/VarHandle" ∧ (parseMethodDescriptor y_Pipe_isGone.desc).map (fun d => d.parameters.length) = some 0 := by decide +kernel
theorem hd_Pipe_isGone : y_Pipe_isGone.cls = "HandleDesk$Pipe" ∧ y_Pipe_isGone.cls ≠ "java/lang/invoke/MethodHandle" ∧ y_Pipe_isGone.cls ≠ "java/lang/invoke/VarHandle" ∧ (parseMethodDescriptor y_Pipe_isGone.desc).map (fun d => d.parameters.length) = some 0 := ⟨rfl, hi_Pipe_isGone⟩
def y_joinEnds : MethodName := ⟨"HandleDesk", "joinEnds", "(LHandleDesk$Pipe;LHandleDesk$OpenFile;LHandleDesk$OpenFile;)V"⟩
def ws_joinEnds : List Cond := .code y_joinEnds prog_1_method_30_code 3 (none : Option Jvm.ClassFile.FieldType) :: wsA
theorem hi_joinEnds : y_joinEnds.cls ≠ "java/lang/invoke/MethodHandle" ∧ y_joinEnds.cls ≠ "java/lang/invoke/VarHandle" ∧ (parseMethodDescriptor y_joinEnds.desc).map (fun d => d.parameters.length) = some 3 := by decide +kernel
theorem hd_joinEnds : y_joinEnds.cls = "HandleDesk" ∧ y_joinEnds.cls ≠ "java/lang/invoke/MethodHandle" ∧ y_joinEnds.cls ≠ "java/lang/invoke/VarHandle" ∧ (parseMethodDescriptor y_joinEnds.desc).map (fun d => d.parameters.length) = some 3 := ⟨rfl, hi_joinEnds⟩
def y_Pipe_begin : MethodName := ⟨"HandleDesk$Pipe", "begin", "()V"⟩
def ws_Pipe_begin : List Cond := .code y_Pipe_begin prog_4_method_2_code 1 (none : Option Jvm.ClassFile.FieldType) :: wsA
theorem hi_Pipe_begin : y_Pipe_begin.cls ≠ "java/lang/invoke/MethodHandle" ∧ y_Pipe_begin.cls ≠ "java/lang/invoke/VarHandle" ∧ (parseMethodDescriptor y_Pipe_begin.desc).map (fun d => d.parameters.length) = some 0 := by decide +kernel
theorem hd_Pipe_begin : y_Pipe_begin.cls = "HandleDesk$Pipe" ∧ y_Pipe_begin.cls ≠ "java/lang/invoke/MethodHandle" ∧ y_Pipe_begin.cls ≠ "java/lang/invoke/VarHandle" ∧ (parseMethodDescriptor y_Pipe_begin.desc).map (fun d => d.parameters.length) = some 0 := ⟨rfl, hi_Pipe_begin⟩
def y_again : MethodName := ⟨"HandleDesk", "again", "(II)I"⟩
def ws_again : List Cond := .code y_again prog_1_method_4_code 5 (some .int) :: wsA
theorem hi_again : y_again.cls ≠ "java/lang/invoke/MethodHandle" ∧ y_again.cls ≠ "java/lang/invoke/VarHandle" ∧ (parseMethodDescriptor y_again.desc).map (fun d => d.parameters.length) = some 2 := by decide +kernel
theorem hd_again : y_again.cls = "HandleDesk" ∧ y_again.cls ≠ "java/lang/invoke/MethodHandle" ∧ y_again.cls ≠ "java/lang/invoke/VarHandle" ∧ (parseMethodDescriptor y_again.desc).map (fun d => d.parameters.length) = some 2 := ⟨rfl, hi_again⟩
def y_close : MethodName := ⟨"HandleDesk", "close", "(II)I"⟩
def ws_close : List Cond := .code y_close prog_1_method_5_code 4 (some .int) :: wsA
theorem hi_close : y_close.cls ≠ "java/lang/invoke/MethodHandle" ∧ y_close.cls ≠ "java/lang/invoke/VarHandle" ∧ (parseMethodDescriptor y_close.desc).map (fun d => d.parameters.length) = some 2 := by decide +kernel
theorem hd_close : y_close.cls = "HandleDesk" ∧ y_close.cls ≠ "java/lang/invoke/MethodHandle" ∧ y_close.cls ≠ "java/lang/invoke/VarHandle" ∧ (parseMethodDescriptor y_close.desc).map (fun d => d.parameters.length) = some 2 := ⟨rfl, hi_close⟩
def y_dropName : MethodName := ⟨"HandleDesk", "dropName", "(IILHandleDesk$OpenFile;)Z"⟩
def ws_dropName : List Cond := .code y_dropName prog_1_method_32_code 4 (some .boolean) :: wsA
theorem hi_dropName : y_dropName.cls ≠ "java/lang/invoke/MethodHandle" ∧ y_dropName.cls ≠ "java/lang/invoke/VarHandle" ∧ (parseMethodDescriptor y_dropName.desc).map (fun d => d.parameters.length) = some 3 := by decide +kernel
theorem hd_dropName : y_dropName.cls = "HandleDesk" ∧ y_dropName.cls ≠ "java/lang/invoke/MethodHandle" ∧ y_dropName.cls ≠ "java/lang/invoke/VarHandle" ∧ (parseMethodDescriptor y_dropName.desc).map (fun d => d.parameters.length) = some 3 := ⟨rfl, hi_dropName⟩
def y_Pipe_endClosed : MethodName := ⟨"HandleDesk$Pipe", "endClosed", "(Z)V"⟩
def ws_Pipe_endClosed : List Cond := .code y_Pipe_endClosed prog_4_method_5_code 2 (none : Option Jvm.ClassFile.FieldType) :: wsA
theorem hi_Pipe_endClosed : y_Pipe_endClosed.cls ≠ "java/lang/invoke/MethodHandle" ∧ y_Pipe_endClosed.cls ≠ "java/lang/invoke/VarHandle" ∧ (parseMethodDescriptor y_Pipe_endClosed.desc).map (fun d => d.parameters.length) = some 1 := by decide +kernel
theorem hd_Pipe_endClosed : y_Pipe_endClosed.cls = "HandleDesk$Pipe" ∧ y_Pipe_endClosed.cls ≠ "java/lang/invoke/MethodHandle" ∧ y_Pipe_endClosed.cls ≠ "java/lang/invoke/VarHandle" ∧ (parseMethodDescriptor y_Pipe_endClosed.desc).map (fun d => d.parameters.length) = some 1 := ⟨rfl, hi_Pipe_endClosed⟩
def y_closeAll : MethodName := ⟨"HandleDesk", "closeAll", "(I)I"⟩
def ws_closeAll : List Cond := .code y_closeAll prog_1_method_6_code 4 (some .int) :: wsA
theorem hi_closeAll : y_closeAll.cls ≠ "java/lang/invoke/MethodHandle" ∧ y_closeAll.cls ≠ "java/lang/invoke/VarHandle" ∧ (parseMethodDescriptor y_closeAll.desc).map (fun d => d.parameters.length) = some 1 := by decide +kernel
theorem hd_closeAll : y_closeAll.cls = "HandleDesk" ∧ y_closeAll.cls ≠ "java/lang/invoke/MethodHandle" ∧ y_closeAll.cls ≠ "java/lang/invoke/VarHandle" ∧ (parseMethodDescriptor y_closeAll.desc).map (fun d => d.parameters.length) = some 1 := ⟨rfl, hi_closeAll⟩
def y_keepLeft : MethodName := ⟨"HandleDesk", "keepLeft", "(I)V"⟩
def ws_keepLeft : List Cond := .code y_keepLeft prog_1_method_33_code 2 (none : Option Jvm.ClassFile.FieldType) :: wsA
theorem hi_keepLeft : y_keepLeft.cls ≠ "java/lang/invoke/MethodHandle" ∧ y_keepLeft.cls ≠ "java/lang/invoke/VarHandle" ∧ (parseMethodDescriptor y_keepLeft.desc).map (fun d => d.parameters.length) = some 1 := by decide +kernel
theorem hd_keepLeft : y_keepLeft.cls = "HandleDesk" ∧ y_keepLeft.cls ≠ "java/lang/invoke/MethodHandle" ∧ y_keepLeft.cls ≠ "java/lang/invoke/VarHandle" ∧ (parseMethodDescriptor y_keepLeft.desc).map (fun d => d.parameters.length) = some 1 := ⟨rfl, hi_keepLeft⟩
def y_left : MethodName := ⟨"HandleDesk", "left", "(I)I"⟩
def ws_left : List Cond := .code y_left prog_1_method_7_code 2 (some .int) :: wsA
theorem hi_left : y_left.cls ≠ "java/lang/invoke/MethodHandle" ∧ y_left.cls ≠ "java/lang/invoke/VarHandle" ∧ (parseMethodDescriptor y_left.desc).map (fun d => d.parameters.length) = some 1 := by decide +kernel
theorem hd_left : y_left.cls = "HandleDesk" ∧ y_left.cls ≠ "java/lang/invoke/MethodHandle" ∧ y_left.cls ≠ "java/lang/invoke/VarHandle" ∧ (parseMethodDescriptor y_left.desc).map (fun d => d.parameters.length) = some 1 := ⟨rfl, hi_left⟩
def y_copy : MethodName := ⟨"HandleDesk", "copy", "(II)I"⟩
def ws_copy : List Cond := .code y_copy prog_1_method_8_code 5 (some .int) :: wsA
theorem hi_copy : y_copy.cls ≠ "java/lang/invoke/MethodHandle" ∧ y_copy.cls ≠ "java/lang/invoke/VarHandle" ∧ (parseMethodDescriptor y_copy.desc).map (fun d => d.parameters.length) = some 2 := by decide +kernel
theorem hd_copy : y_copy.cls = "HandleDesk" ∧ y_copy.cls ≠ "java/lang/invoke/MethodHandle" ∧ y_copy.cls ≠ "java/lang/invoke/VarHandle" ∧ (parseMethodDescriptor y_copy.desc).map (fun d => d.parameters.length) = some 2 := ⟨rfl, hi_copy⟩
def y_usedDescriptors : MethodName := ⟨"HandleDesk", "usedDescriptors", "(I)I"⟩
def ws_usedDescriptors : List Cond := .code y_usedDescriptors prog_1_method_27_code 4 (some .int) :: wsA
theorem hi_usedDescriptors : y_usedDescriptors.cls ≠ "java/lang/invoke/MethodHandle" ∧ y_usedDescriptors.cls ≠ "java/lang/invoke/VarHandle" ∧ (parseMethodDescriptor y_usedDescriptors.desc).map (fun d => d.parameters.length) = some 1 := by decide +kernel
theorem hd_usedDescriptors : y_usedDescriptors.cls = "HandleDesk" ∧ y_usedDescriptors.cls ≠ "java/lang/invoke/MethodHandle" ∧ y_usedDescriptors.cls ≠ "java/lang/invoke/VarHandle" ∧ (parseMethodDescriptor y_usedDescriptors.desc).map (fun d => d.parameters.length) = some 1 := ⟨rfl, hi_usedDescriptors⟩
def y_about : MethodName := ⟨"HandleDesk", "about", "(III)I"⟩
def ws_about : List Cond := .code y_about prog_1_method_9_code 5 (some .int) :: wsA
theorem hi_about : y_about.cls ≠ "java/lang/invoke/MethodHandle" ∧ y_about.cls ≠ "java/lang/invoke/VarHandle" ∧ (parseMethodDescriptor y_about.desc).map (fun d => d.parameters.length) = some 3 := by decide +kernel
theorem hd_about : y_about.cls = "HandleDesk" ∧ y_about.cls ≠ "java/lang/invoke/MethodHandle" ∧ y_about.cls ≠ "java/lang/invoke/VarHandle" ∧ (parseMethodDescriptor y_about.desc).map (fun d => d.parameters.length) = some 3 := ⟨rfl, hi_about⟩
def y_oneIf : MethodName := ⟨"HandleDesk", "oneIf", "(Z)I"⟩
def ws_oneIf : List Cond := .code y_oneIf prog_1_method_24_code 1 (some .int) :: wsA
theorem hi_oneIf : y_oneIf.cls ≠ "java/lang/invoke/MethodHandle" ∧ y_oneIf.cls ≠ "java/lang/invoke/VarHandle" ∧ (parseMethodDescriptor y_oneIf.desc).map (fun d => d.parameters.length) = some 1 := by decide +kernel
theorem hd_oneIf : y_oneIf.cls = "HandleDesk" ∧ y_oneIf.cls ≠ "java/lang/invoke/MethodHandle" ∧ y_oneIf.cls ≠ "java/lang/invoke/VarHandle" ∧ (parseMethodDescriptor y_oneIf.desc).map (fun d => d.parameters.length) = some 1 := ⟨rfl, hi_oneIf⟩
def y_move : MethodName := ⟨"HandleDesk", "move", "(III)Z"⟩
def ws_move : List Cond := .code y_move prog_1_method_10_code 5 (some .boolean) :: wsA
theorem hi_move : y_move.cls ≠ "java/lang/invoke/MethodHandle" ∧ y_move.cls ≠ "java/lang/invoke/VarHandle" ∧ (parseMethodDescriptor y_move.desc).map (fun d => d.parameters.length) = some 3 := by decide +kernel
theorem hd_move : y_move.cls = "HandleDesk" ∧ y_move.cls ≠ "java/lang/invoke/MethodHandle" ∧ y_move.cls ≠ "java/lang/invoke/VarHandle" ∧ (parseMethodDescriptor y_move.desc).map (fun d => d.parameters.length) = some 3 := ⟨rfl, hi_move⟩
def y_put : MethodName := ⟨"HandleDesk", "put", "(III)I"⟩
def ws_put : List Cond := .code y_put prog_1_method_11_code 6 (some .int) :: wsA
theorem hi_put : y_put.cls ≠ "java/lang/invoke/MethodHandle" ∧ y_put.cls ≠ "java/lang/invoke/VarHandle" ∧ (parseMethodDescriptor y_put.desc).map (fun d => d.parameters.length) = some 3 := by decide +kernel
theorem hd_put : y_put.cls = "HandleDesk" ∧ y_put.cls ≠ "java/lang/invoke/MethodHandle" ∧ y_put.cls ≠ "java/lang/invoke/VarHandle" ∧ (parseMethodDescriptor y_put.desc).map (fun d => d.parameters.length) = some 3 := ⟨rfl, hi_put⟩
def y_Pipe_isFull : MethodName := ⟨"HandleDesk$Pipe", "isFull", "()Z"⟩
def ws_Pipe_isFull : List Cond := .code y_Pipe_isFull prog_4_method_4_code 1 (some .boolean) :: wsA
theorem hi_Pipe_isFull : y_Pipe_isFull.cls ≠ "java/lang/invoke/MethodHandle" ∧ y_Pipe_isFull.cls ≠ "java/lang/invoke/VarHandle" ∧ (parseMethodDescriptor y_Pipe_isFull.desc).map (fun d => d.parameters.length) = some 0 := by decide +kernel
theorem hd_Pipe_isFull : y_Pipe_isFull.cls = "HandleDesk$Pipe" ∧ y_Pipe_isFull.cls ≠ "java/lang/invoke/MethodHandle" ∧ y_Pipe_isFull.cls ≠ "java/lang/invoke/VarHandle" ∧ (parseMethodDescriptor y_Pipe_isFull.desc).map (fun d => d.parameters.length) = some 0 := ⟨rfl, hi_Pipe_isFull⟩
def y_Pipe_addLast : MethodName := ⟨"HandleDesk$Pipe", "addLast", "(I)V"⟩
def ws_Pipe_addLast : List Cond := .code y_Pipe_addLast prog_4_method_6_code 2 (none : Option Jvm.ClassFile.FieldType) :: wsA
theorem hi_Pipe_addLast : y_Pipe_addLast.cls ≠ "java/lang/invoke/MethodHandle" ∧ y_Pipe_addLast.cls ≠ "java/lang/invoke/VarHandle" ∧ (parseMethodDescriptor y_Pipe_addLast.desc).map (fun d => d.parameters.length) = some 1 := by decide +kernel
theorem hd_Pipe_addLast : y_Pipe_addLast.cls = "HandleDesk$Pipe" ∧ y_Pipe_addLast.cls ≠ "java/lang/invoke/MethodHandle" ∧ y_Pipe_addLast.cls ≠ "java/lang/invoke/VarHandle" ∧ (parseMethodDescriptor y_Pipe_addLast.desc).map (fun d => d.parameters.length) = some 1 := ⟨rfl, hi_Pipe_addLast⟩
def y_take : MethodName := ⟨"HandleDesk", "take", "(II)I"⟩
def ws_take : List Cond := .code y_take prog_1_method_12_code 5 (some .int) :: wsA
theorem hi_take : y_take.cls ≠ "java/lang/invoke/MethodHandle" ∧ y_take.cls ≠ "java/lang/invoke/VarHandle" ∧ (parseMethodDescriptor y_take.desc).map (fun d => d.parameters.length) = some 2 := by decide +kernel
theorem hd_take : y_take.cls = "HandleDesk" ∧ y_take.cls ≠ "java/lang/invoke/MethodHandle" ∧ y_take.cls ≠ "java/lang/invoke/VarHandle" ∧ (parseMethodDescriptor y_take.desc).map (fun d => d.parameters.length) = some 2 := ⟨rfl, hi_take⟩
def y_Pipe_removeFirst : MethodName := ⟨"HandleDesk$Pipe", "removeFirst", "()I"⟩
def ws_Pipe_removeFirst : List Cond := .code y_Pipe_removeFirst prog_4_method_7_code 2 (some .int) :: wsA
theorem hi_Pipe_removeFirst : y_Pipe_removeFirst.cls ≠ "java/lang/invoke/MethodHandle" ∧ y_Pipe_removeFirst.cls ≠ "java/lang/invoke/VarHandle" ∧ (parseMethodDescriptor y_Pipe_removeFirst.desc).map (fun d => d.parameters.length) = some 0 := by decide +kernel
theorem hd_Pipe_removeFirst : y_Pipe_removeFirst.cls = "HandleDesk$Pipe" ∧ y_Pipe_removeFirst.cls ≠ "java/lang/invoke/MethodHandle" ∧ y_Pipe_removeFirst.cls ≠ "java/lang/invoke/VarHandle" ∧ (parseMethodDescriptor y_Pipe_removeFirst.desc).map (fun d => d.parameters.length) = some 0 := ⟨rfl, hi_Pipe_removeFirst⟩
def y_ends : MethodName := ⟨"HandleDesk", "ends", "(II)I"⟩
def ws_ends : List Cond := .code y_ends prog_1_method_13_code 4 (some .int) :: wsA
theorem hi_ends : y_ends.cls ≠ "java/lang/invoke/MethodHandle" ∧ y_ends.cls ≠ "java/lang/invoke/VarHandle" ∧ (parseMethodDescriptor y_ends.desc).map (fun d => d.parameters.length) = some 2 := by decide +kernel
theorem hd_ends : y_ends.cls = "HandleDesk" ∧ y_ends.cls ≠ "java/lang/invoke/MethodHandle" ∧ y_ends.cls ≠ "java/lang/invoke/VarHandle" ∧ (parseMethodDescriptor y_ends.desc).map (fun d => d.parameters.length) = some 2 := ⟨rfl, hi_ends⟩
def y_type : MethodName := ⟨"HandleDesk", "type", "(I)Z"⟩
def ws_type : List Cond := .code y_type prog_1_method_14_code 3 (some .boolean) :: wsA
theorem hi_type : y_type.cls ≠ "java/lang/invoke/MethodHandle" ∧ y_type.cls ≠ "java/lang/invoke/VarHandle" ∧ (parseMethodDescriptor y_type.desc).map (fun d => d.parameters.length) = some 1 := by decide +kernel
theorem hd_type : y_type.cls = "HandleDesk" ∧ y_type.cls ≠ "java/lang/invoke/MethodHandle" ∧ y_type.cls ≠ "java/lang/invoke/VarHandle" ∧ (parseMethodDescriptor y_type.desc).map (fun d => d.parameters.length) = some 1 := ⟨rfl, hi_type⟩
def y_Con_lineLength : MethodName := ⟨"HandleDesk$Console", "lineLength", "()I"⟩
def ws_Con_lineLength : List Cond := .code y_Con_lineLength prog_2_method_3_code 1 (some .int) :: wsA
theorem hi_Con_lineLength : y_Con_lineLength.cls ≠ "java/lang/invoke/MethodHandle" ∧ y_Con_lineLength.cls ≠ "java/lang/invoke/VarHandle" ∧ (parseMethodDescriptor y_Con_lineLength.desc).map (fun d => d.parameters.length) = some 0 := by decide +kernel
theorem hd_Con_lineLength : y_Con_lineLength.cls = "HandleDesk$Console" ∧ y_Con_lineLength.cls ≠ "java/lang/invoke/MethodHandle" ∧ y_Con_lineLength.cls ≠ "java/lang/invoke/VarHandle" ∧ (parseMethodDescriptor y_Con_lineLength.desc).map (fun d => d.parameters.length) = some 0 := ⟨rfl, hi_Con_lineLength⟩
def y_takeBack : MethodName := ⟨"HandleDesk", "takeBack", "(I)V"⟩
def ws_takeBack : List Cond := .code y_takeBack prog_1_method_34_code 3 (none : Option Jvm.ClassFile.FieldType) :: wsA
theorem hi_takeBack : y_takeBack.cls ≠ "java/lang/invoke/MethodHandle" ∧ y_takeBack.cls ≠ "java/lang/invoke/VarHandle" ∧ (parseMethodDescriptor y_takeBack.desc).map (fun d => d.parameters.length) = some 1 := by decide +kernel
theorem hd_takeBack : y_takeBack.cls = "HandleDesk" ∧ y_takeBack.cls ≠ "java/lang/invoke/MethodHandle" ∧ y_takeBack.cls ≠ "java/lang/invoke/VarHandle" ∧ (parseMethodDescriptor y_takeBack.desc).map (fun d => d.parameters.length) = some 1 := ⟨rfl, hi_takeBack⟩
def y_Con_dropLastOfLine : MethodName := ⟨"HandleDesk$Console", "dropLastOfLine", "()V"⟩
def ws_Con_dropLastOfLine : List Cond := .code y_Con_dropLastOfLine prog_2_method_5_code 1 (none : Option Jvm.ClassFile.FieldType) :: wsA
theorem hi_Con_dropLastOfLine : y_Con_dropLastOfLine.cls ≠ "java/lang/invoke/MethodHandle" ∧ y_Con_dropLastOfLine.cls ≠ "java/lang/invoke/VarHandle" ∧ (parseMethodDescriptor y_Con_dropLastOfLine.desc).map (fun d => d.parameters.length) = some 0 := by decide +kernel
theorem hd_Con_dropLastOfLine : y_Con_dropLastOfLine.cls = "HandleDesk$Console" ∧ y_Con_dropLastOfLine.cls ≠ "java/lang/invoke/MethodHandle" ∧ y_Con_dropLastOfLine.cls ≠ "java/lang/invoke/VarHandle" ∧ (parseMethodDescriptor y_Con_dropLastOfLine.desc).map (fun d => d.parameters.length) = some 0 := ⟨rfl, hi_Con_dropLastOfLine⟩
def y_Scr_addLast : MethodName := ⟨"HandleDesk$Screen", "addLast", "(I)V"⟩
def ws_Scr_addLast : List Cond := .code y_Scr_addLast prog_5_method_2_code 2 (none : Option Jvm.ClassFile.FieldType) :: wsA
theorem hi_Scr_addLast : y_Scr_addLast.cls ≠ "java/lang/invoke/MethodHandle" ∧ y_Scr_addLast.cls ≠ "java/lang/invoke/VarHandle" ∧ (parseMethodDescriptor y_Scr_addLast.desc).map (fun d => d.parameters.length) = some 1 := by decide +kernel
theorem hd_Scr_addLast : y_Scr_addLast.cls = "HandleDesk$Screen" ∧ y_Scr_addLast.cls ≠ "java/lang/invoke/MethodHandle" ∧ y_Scr_addLast.cls ≠ "java/lang/invoke/VarHandle" ∧ (parseMethodDescriptor y_Scr_addLast.desc).map (fun d => d.parameters.length) = some 1 := ⟨rfl, hi_Scr_addLast⟩
def y_Con_isFull : MethodName := ⟨"HandleDesk$Console", "isFull", "()Z"⟩
def ws_Con_isFull : List Cond := .code y_Con_isFull prog_2_method_2_code 1 (some .boolean) :: wsA
theorem hi_Con_isFull : y_Con_isFull.cls ≠ "java/lang/invoke/MethodHandle" ∧ y_Con_isFull.cls ≠ "java/lang/invoke/VarHandle" ∧ (parseMethodDescriptor y_Con_isFull.desc).map (fun d => d.parameters.length) = some 0 := by decide +kernel
theorem hd_Con_isFull : y_Con_isFull.cls = "HandleDesk$Console" ∧ y_Con_isFull.cls ≠ "java/lang/invoke/MethodHandle" ∧ y_Con_isFull.cls ≠ "java/lang/invoke/VarHandle" ∧ (parseMethodDescriptor y_Con_isFull.desc).map (fun d => d.parameters.length) = some 0 := ⟨rfl, hi_Con_isFull⟩
def y_Con_addToLine : MethodName := ⟨"HandleDesk$Console", "addToLine", "(I)V"⟩
def ws_Con_addToLine : List Cond := .code y_Con_addToLine prog_2_method_4_code 2 (none : Option Jvm.ClassFile.FieldType) :: wsA
theorem hi_Con_addToLine : y_Con_addToLine.cls ≠ "java/lang/invoke/MethodHandle" ∧ y_Con_addToLine.cls ≠ "java/lang/invoke/VarHandle" ∧ (parseMethodDescriptor y_Con_addToLine.desc).map (fun d => d.parameters.length) = some 1 := by decide +kernel
theorem hd_Con_addToLine : y_Con_addToLine.cls = "HandleDesk$Console" ∧ y_Con_addToLine.cls ≠ "java/lang/invoke/MethodHandle" ∧ y_Con_addToLine.cls ≠ "java/lang/invoke/VarHandle" ∧ (parseMethodDescriptor y_Con_addToLine.desc).map (fun d => d.parameters.length) = some 1 := ⟨rfl, hi_Con_addToLine⟩
def y_read : MethodName := ⟨"HandleDesk", "read", "(Z)I"⟩
def ws_read : List Cond := .code y_read prog_1_method_15_code 3 (some .int) :: wsA
theorem hi_read : y_read.cls ≠ "java/lang/invoke/MethodHandle" ∧ y_read.cls ≠ "java/lang/invoke/VarHandle" ∧ (parseMethodDescriptor y_read.desc).map (fun d => d.parameters.length) = some 1 := by decide +kernel
theorem hd_read : y_read.cls = "HandleDesk" ∧ y_read.cls ≠ "java/lang/invoke/MethodHandle" ∧ y_read.cls ≠ "java/lang/invoke/VarHandle" ∧ (parseMethodDescriptor y_read.desc).map (fun d => d.parameters.length) = some 1 := ⟨rfl, hi_read⟩
def y_Con_firstDone : MethodName := ⟨"HandleDesk$Console", "firstDone", "()I"⟩
def ws_Con_firstDone : List Cond := .code y_Con_firstDone prog_2_method_6_code 1 (some .int) :: wsA
theorem hi_Con_firstDone : y_Con_firstDone.cls ≠ "java/lang/invoke/MethodHandle" ∧ y_Con_firstDone.cls ≠ "java/lang/invoke/VarHandle" ∧ (parseMethodDescriptor y_Con_firstDone.desc).map (fun d => d.parameters.length) = some 0 := by decide +kernel
theorem hd_Con_firstDone : y_Con_firstDone.cls = "HandleDesk$Console" ∧ y_Con_firstDone.cls ≠ "java/lang/invoke/MethodHandle" ∧ y_Con_firstDone.cls ≠ "java/lang/invoke/VarHandle" ∧ (parseMethodDescriptor y_Con_firstDone.desc).map (fun d => d.parameters.length) = some 0 := ⟨rfl, hi_Con_firstDone⟩
def y_Con_dropFirstDone : MethodName := ⟨"HandleDesk$Console", "dropFirstDone", "()V"⟩
def ws_Con_dropFirstDone : List Cond := .code y_Con_dropFirstDone prog_2_method_7_code 1 (none : Option Jvm.ClassFile.FieldType) :: wsA
theorem hi_Con_dropFirstDone : y_Con_dropFirstDone.cls ≠ "java/lang/invoke/MethodHandle" ∧ y_Con_dropFirstDone.cls ≠ "java/lang/invoke/VarHandle" ∧ (parseMethodDescriptor y_Con_dropFirstDone.desc).map (fun d => d.parameters.length) = some 0 := by decide +kernel
theorem hd_Con_dropFirstDone : y_Con_dropFirstDone.cls = "HandleDesk$Console" ∧ y_Con_dropFirstDone.cls ≠ "java/lang/invoke/MethodHandle" ∧ y_Con_dropFirstDone.cls ≠ "java/lang/invoke/VarHandle" ∧ (parseMethodDescriptor y_Con_dropFirstDone.desc).map (fun d => d.parameters.length) = some 0 := ⟨rfl, hi_Con_dropFirstDone⟩
def y_waiting : MethodName := ⟨"HandleDesk", "waiting", "(I)I"⟩
def ws_waiting : List Cond := .code y_waiting prog_1_method_16_code 2 (some .int) :: wsA
theorem hi_waiting : y_waiting.cls ≠ "java/lang/invoke/MethodHandle" ∧ y_waiting.cls ≠ "java/lang/invoke/VarHandle" ∧ (parseMethodDescriptor y_waiting.desc).map (fun d => d.parameters.length) = some 1 := by decide +kernel
theorem hd_waiting : y_waiting.cls = "HandleDesk" ∧ y_waiting.cls ≠ "java/lang/invoke/MethodHandle" ∧ y_waiting.cls ≠ "java/lang/invoke/VarHandle" ∧ (parseMethodDescriptor y_waiting.desc).map (fun d => d.parameters.length) = some 1 := ⟨rfl, hi_waiting⟩
def y_show : MethodName := ⟨"HandleDesk", "show", "(I)V"⟩
def ws_show : List Cond := .code y_show prog_1_method_17_code 2 (none : Option Jvm.ClassFile.FieldType) :: wsA
theorem hi_show : y_show.cls ≠ "java/lang/invoke/MethodHandle" ∧ y_show.cls ≠ "java/lang/invoke/VarHandle" ∧ (parseMethodDescriptor y_show.desc).map (fun d => d.parameters.length) = some 1 := by decide +kernel
theorem hd_show : y_show.cls = "HandleDesk" ∧ y_show.cls ≠ "java/lang/invoke/MethodHandle" ∧ y_show.cls ≠ "java/lang/invoke/VarHandle" ∧ (parseMethodDescriptor y_show.desc).map (fun d => d.parameters.length) = some 1 := ⟨rfl, hi_show⟩
def y_shown : MethodName := ⟨"HandleDesk", "shown", "(I)I"⟩
def ws_shown : List Cond := .code y_shown prog_1_method_18_code 2 (some .int) :: wsA
theorem hi_shown : y_shown.cls ≠ "java/lang/invoke/MethodHandle" ∧ y_shown.cls ≠ "java/lang/invoke/VarHandle" ∧ (parseMethodDescriptor y_shown.desc).map (fun d => d.parameters.length) = some 1 := by decide +kernel
theorem hd_shown : y_shown.cls = "HandleDesk" ∧ y_shown.cls ≠ "java/lang/invoke/MethodHandle" ∧ y_shown.cls ≠ "java/lang/invoke/VarHandle" ∧ (parseMethodDescriptor y_shown.desc).map (fun d => d.parameters.length) = some 1 := ⟨rfl, hi_shown⟩
def y_Scr_byteAt : MethodName := ⟨"HandleDesk$Screen", "byteAt", "(I)I"⟩
def ws_Scr_byteAt : List Cond := .code y_Scr_byteAt prog_5_method_3_code 2 (some .int) :: wsA
theorem hi_Scr_byteAt : y_Scr_byteAt.cls ≠ "java/lang/invoke/MethodHandle" ∧ y_Scr_byteAt.cls ≠ "java/lang/invoke/VarHandle" ∧ (parseMethodDescriptor y_Scr_byteAt.desc).map (fun d => d.parameters.length) = some 1 := by decide +kernel
theorem hd_Scr_byteAt : y_Scr_byteAt.cls = "HandleDesk$Screen" ∧ y_Scr_byteAt.cls ≠ "java/lang/invoke/MethodHandle" ∧ y_Scr_byteAt.cls ≠ "java/lang/invoke/VarHandle" ∧ (parseMethodDescriptor y_Scr_byteAt.desc).map (fun d => d.parameters.length) = some 1 := ⟨rfl, hi_Scr_byteAt⟩
def y_count : MethodName := ⟨"HandleDesk", "count", "()I"⟩
def ws_count : List Cond := .code y_count prog_1_method_19_code 1 (some .int) :: wsA
theorem hi_count : y_count.cls ≠ "java/lang/invoke/MethodHandle" ∧ y_count.cls ≠ "java/lang/invoke/VarHandle" ∧ (parseMethodDescriptor y_count.desc).map (fun d => d.parameters.length) = some 0 := by decide +kernel
theorem hd_count : y_count.cls = "HandleDesk" ∧ y_count.cls ≠ "java/lang/invoke/MethodHandle" ∧ y_count.cls ≠ "java/lang/invoke/VarHandle" ∧ (parseMethodDescriptor y_count.desc).map (fun d => d.parameters.length) = some 0 := ⟨rfl, hi_count⟩
def y_init_M : MethodName := ⟨"HandleDeskModel", "<init>", "()V"⟩
def ws_init_M : List Cond := .code y_init_M prog_7_method_1_code 1 (none : Option Jvm.ClassFile.FieldType) :: wsA
theorem hi_init_M : y_init_M.cls ≠ "java/lang/invoke/MethodHandle" ∧ y_init_M.cls ≠ "java/lang/invoke/VarHandle" ∧ (parseMethodDescriptor y_init_M.desc).map (fun d => d.parameters.length) = some 0 := by decide +kernel
theorem hd_init_M : y_init_M.cls = "HandleDeskModel" ∧ y_init_M.cls ≠ "java/lang/invoke/MethodHandle" ∧ y_init_M.cls ≠ "java/lang/invoke/VarHandle" ∧ (parseMethodDescriptor y_init_M.desc).map (fun d => d.parameters.length) = some 0 := ⟨rfl, hi_init_M⟩
def y_M_open : MethodName := ⟨"HandleDeskModel", "open", "(IIII)I"⟩
def ws_M_open : List Cond := .code y_M_open prog_7_method_13_code 5 (some .int) :: wsA
theorem hi_M_open : y_M_open.cls ≠ "java/lang/invoke/MethodHandle" ∧ y_M_open.cls ≠ "java/lang/invoke/VarHandle" ∧ (parseMethodDescriptor y_M_open.desc).map (fun d => d.parameters.length) = some 4 := by decide +kernel
theorem hd_M_open : y_M_open.cls = "HandleDeskModel" ∧ y_M_open.cls ≠ "java/lang/invoke/MethodHandle" ∧ y_M_open.cls ≠ "java/lang/invoke/VarHandle" ∧ (parseMethodDescriptor y_M_open.desc).map (fun d => d.parameters.length) = some 4 := ⟨rfl, hi_M_open⟩
def y_M_isPlace : MethodName := ⟨"HandleDeskModel", "isPlace", "(I)Z"⟩
def ws_M_isPlace : List Cond := .code y_M_isPlace prog_7_method_3_code 1 (some .boolean) :: wsA
theorem hi_M_isPlace : y_M_isPlace.cls ≠ "java/lang/invoke/MethodHandle" ∧ y_M_isPlace.cls ≠ "java/lang/invoke/VarHandle" ∧ (parseMethodDescriptor y_M_isPlace.desc).map (fun d => d.parameters.length) = some 1 := by decide +kernel
theorem hd_M_isPlace : y_M_isPlace.cls = "HandleDeskModel" ∧ y_M_isPlace.cls ≠ "java/lang/invoke/MethodHandle" ∧ y_M_isPlace.cls ≠ "java/lang/invoke/VarHandle" ∧ (parseMethodDescriptor y_M_isPlace.desc).map (fun d => d.parameters.length) = some 1 := ⟨rfl, hi_M_isPlace⟩
def y_M_vacant : MethodName := ⟨"HandleDeskModel", "vacant", "(I)I"⟩
def ws_M_vacant : List Cond := .code y_M_vacant prog_7_method_8_code 3 (some .int) :: wsA
theorem hi_M_vacant : y_M_vacant.cls ≠ "java/lang/invoke/MethodHandle" ∧ y_M_vacant.cls ≠ "java/lang/invoke/VarHandle" ∧ (parseMethodDescriptor y_M_vacant.desc).map (fun d => d.parameters.length) = some 1 := by decide +kernel
theorem hd_M_vacant : y_M_vacant.cls = "HandleDeskModel" ∧ y_M_vacant.cls ≠ "java/lang/invoke/MethodHandle" ∧ y_M_vacant.cls ≠ "java/lang/invoke/VarHandle" ∧ (parseMethodDescriptor y_M_vacant.desc).map (fun d => d.parameters.length) = some 1 := ⟨rfl, hi_M_vacant⟩
def y_M_files : MethodName := ⟨"HandleDeskModel", "files", "()I"⟩
def ws_M_files : List Cond := .code y_M_files prog_7_method_6_code 3 (some .int) :: wsA
theorem hi_M_files : y_M_files.cls ≠ "java/lang/invoke/MethodHandle" ∧ y_M_files.cls ≠ "java/lang/invoke/VarHandle" ∧ (parseMethodDescriptor y_M_files.desc).map (fun d => d.parameters.length) = some 0 := by decide +kernel
theorem hd_M_files : y_M_files.cls = "HandleDeskModel" ∧ y_M_files.cls ≠ "java/lang/invoke/MethodHandle" ∧ y_M_files.cls ≠ "java/lang/invoke/VarHandle" ∧ (parseMethodDescriptor y_M_files.desc).map (fun d => d.parameters.length) = some 0 := ⟨rfl, hi_M_files⟩
def y_M_named : MethodName := ⟨"HandleDeskModel", "named", "(I)I"⟩
def ws_M_named : List Cond := .code y_M_named prog_7_method_5_code 4 (some .int) :: wsA
theorem hi_M_named : y_M_named.cls ≠ "java/lang/invoke/MethodHandle" ∧ y_M_named.cls ≠ "java/lang/invoke/VarHandle" ∧ (parseMethodDescriptor y_M_named.desc).map (fun d => d.parameters.length) = some 1 := by decide +kernel
theorem hd_M_named : y_M_named.cls = "HandleDeskModel" ∧ y_M_named.cls ≠ "java/lang/invoke/MethodHandle" ∧ y_M_named.cls ≠ "java/lang/invoke/VarHandle" ∧ (parseMethodDescriptor y_M_named.desc).map (fun d => d.parameters.length) = some 1 := ⟨rfl, hi_M_named⟩
def y_M_makes : MethodName := ⟨"HandleDeskModel", "makes", "(IIIII)I"⟩
def ws_M_makes : List Cond := .code y_M_makes prog_7_method_12_code 7 (some .int) :: wsA
theorem hi_M_makes : y_M_makes.cls ≠ "java/lang/invoke/MethodHandle" ∧ y_M_makes.cls ≠ "java/lang/invoke/VarHandle" ∧ (parseMethodDescriptor y_M_makes.desc).map (fun d => d.parameters.length) = some 5 := by decide +kernel
theorem hd_M_makes : y_M_makes.cls = "HandleDeskModel" ∧ y_M_makes.cls ≠ "java/lang/invoke/MethodHandle" ∧ y_M_makes.cls ≠ "java/lang/invoke/VarHandle" ∧ (parseMethodDescriptor y_M_makes.desc).map (fun d => d.parameters.length) = some 5 := ⟨rfl, hi_M_makes⟩
def y_M_freeFile : MethodName := ⟨"HandleDeskModel", "freeFile", "()I"⟩
def ws_M_freeFile : List Cond := .code y_M_freeFile prog_7_method_7_code 2 (some .int) :: wsA
theorem hi_M_freeFile : y_M_freeFile.cls ≠ "java/lang/invoke/MethodHandle" ∧ y_M_freeFile.cls ≠ "java/lang/invoke/VarHandle" ∧ (parseMethodDescriptor y_M_freeFile.desc).map (fun d => d.parameters.length) = some 0 := by decide +kernel
theorem hd_M_freeFile : y_M_freeFile.cls = "HandleDeskModel" ∧ y_M_freeFile.cls ≠ "java/lang/invoke/MethodHandle" ∧ y_M_freeFile.cls ≠ "java/lang/invoke/VarHandle" ∧ (parseMethodDescriptor y_M_freeFile.desc).map (fun d => d.parameters.length) = some 0 := ⟨rfl, hi_M_freeFile⟩
def y_M_pipe : MethodName := ⟨"HandleDeskModel", "pipe", "(I)I"⟩
def ws_M_pipe : List Cond := .code y_M_pipe prog_7_method_14_code 5 (some .int) :: wsA
theorem hi_M_pipe : y_M_pipe.cls ≠ "java/lang/invoke/MethodHandle" ∧ y_M_pipe.cls ≠ "java/lang/invoke/VarHandle" ∧ (parseMethodDescriptor y_M_pipe.desc).map (fun d => d.parameters.length) = some 1 := by decide +kernel
theorem hd_M_pipe : y_M_pipe.cls = "HandleDeskModel" ∧ y_M_pipe.cls ≠ "java/lang/invoke/MethodHandle" ∧ y_M_pipe.cls ≠ "java/lang/invoke/VarHandle" ∧ (parseMethodDescriptor y_M_pipe.desc).map (fun d => d.parameters.length) = some 1 := ⟨rfl, hi_M_pipe⟩
def y_M_isPipe : MethodName := ⟨"HandleDeskModel", "isPipe", "(I)Z"⟩
def ws_M_isPipe : List Cond := .code y_M_isPipe prog_7_method_11_code 2 (some .boolean) :: wsA
theorem hi_M_isPipe : y_M_isPipe.cls ≠ "java/lang/invoke/MethodHandle" ∧ y_M_isPipe.cls ≠ "java/lang/invoke/VarHandle" ∧ (parseMethodDescriptor y_M_isPipe.desc).map (fun d => d.parameters.length) = some 1 := by decide +kernel
theorem hd_M_isPipe : y_M_isPipe.cls = "HandleDeskModel" ∧ y_M_isPipe.cls ≠ "java/lang/invoke/MethodHandle" ∧ y_M_isPipe.cls ≠ "java/lang/invoke/VarHandle" ∧ (parseMethodDescriptor y_M_isPipe.desc).map (fun d => d.parameters.length) = some 1 := ⟨rfl, hi_M_isPipe⟩
def y_M_end : MethodName := ⟨"HandleDeskModel", "end", "(II)I"⟩
def ws_M_end : List Cond := .code y_M_end prog_7_method_10_code 5 (some .int) :: wsA
theorem hi_M_end : y_M_end.cls ≠ "java/lang/invoke/MethodHandle" ∧ y_M_end.cls ≠ "java/lang/invoke/VarHandle" ∧ (parseMethodDescriptor y_M_end.desc).map (fun d => d.parameters.length) = some 2 := by decide +kernel
theorem hd_M_end : y_M_end.cls = "HandleDeskModel" ∧ y_M_end.cls ≠ "java/lang/invoke/MethodHandle" ∧ y_M_end.cls ≠ "java/lang/invoke/VarHandle" ∧ (parseMethodDescriptor y_M_end.desc).map (fun d => d.parameters.length) = some 2 := ⟨rfl, hi_M_end⟩
def y_M_used : MethodName := ⟨"HandleDeskModel", "used", "(I)I"⟩
def ws_M_used : List Cond := .code y_M_used prog_7_method_9_code 4 (some .int) :: wsA
theorem hi_M_used : y_M_used.cls ≠ "java/lang/invoke/MethodHandle" ∧ y_M_used.cls ≠ "java/lang/invoke/VarHandle" ∧ (parseMethodDescriptor y_M_used.desc).map (fun d => d.parameters.length) = some 1 := by decide +kernel
theorem hd_M_used : y_M_used.cls = "HandleDeskModel" ∧ y_M_used.cls ≠ "java/lang/invoke/MethodHandle" ∧ y_M_used.cls ≠ "java/lang/invoke/VarHandle" ∧ (parseMethodDescriptor y_M_used.desc).map (fun d => d.parameters.length) = some 1 := ⟨rfl, hi_M_used⟩
def y_M_again : MethodName := ⟨"HandleDeskModel", "again", "(II)I"⟩
def ws_M_again : List Cond := .code y_M_again prog_7_method_15_code 5 (some .int) :: wsA
theorem hi_M_again : y_M_again.cls ≠ "java/lang/invoke/MethodHandle" ∧ y_M_again.cls ≠ "java/lang/invoke/VarHandle" ∧ (parseMethodDescriptor y_M_again.desc).map (fun d => d.parameters.length) = some 2 := by decide +kernel
theorem hd_M_again : y_M_again.cls = "HandleDeskModel" ∧ y_M_again.cls ≠ "java/lang/invoke/MethodHandle" ∧ y_M_again.cls ≠ "java/lang/invoke/VarHandle" ∧ (parseMethodDescriptor y_M_again.desc).map (fun d => d.parameters.length) = some 2 := ⟨rfl, hi_M_again⟩
def y_M_file : MethodName := ⟨"HandleDeskModel", "file", "(II)I"⟩
def ws_M_file : List Cond := .code y_M_file prog_7_method_4_code 3 (some .int) :: wsA
theorem hi_M_file : y_M_file.cls ≠ "java/lang/invoke/MethodHandle" ∧ y_M_file.cls ≠ "java/lang/invoke/VarHandle" ∧ (parseMethodDescriptor y_M_file.desc).map (fun d => d.parameters.length) = some 2 := by decide +kernel
theorem hd_M_file : y_M_file.cls = "HandleDeskModel" ∧ y_M_file.cls ≠ "java/lang/invoke/MethodHandle" ∧ y_M_file.cls ≠ "java/lang/invoke/VarHandle" ∧ (parseMethodDescriptor y_M_file.desc).map (fun d => d.parameters.length) = some 2 := ⟨rfl, hi_M_file⟩
def y_M_close : MethodName := ⟨"HandleDeskModel", "close", "(II)I"⟩
def ws_M_close : List Cond := .code y_M_close prog_7_method_17_code 4 (some .int) :: wsA
theorem hi_M_close : y_M_close.cls ≠ "java/lang/invoke/MethodHandle" ∧ y_M_close.cls ≠ "java/lang/invoke/VarHandle" ∧ (parseMethodDescriptor y_M_close.desc).map (fun d => d.parameters.length) = some 2 := by decide +kernel
theorem hd_M_close : y_M_close.cls = "HandleDeskModel" ∧ y_M_close.cls ≠ "java/lang/invoke/MethodHandle" ∧ y_M_close.cls ≠ "java/lang/invoke/VarHandle" ∧ (parseMethodDescriptor y_M_close.desc).map (fun d => d.parameters.length) = some 2 := ⟨rfl, hi_M_close⟩
def y_M_closes : MethodName := ⟨"HandleDeskModel", "closes", "(II)Z"⟩
def ws_M_closes : List Cond := .code y_M_closes prog_7_method_16_code 4 (some .boolean) :: wsA
theorem hi_M_closes : y_M_closes.cls ≠ "java/lang/invoke/MethodHandle" ∧ y_M_closes.cls ≠ "java/lang/invoke/VarHandle" ∧ (parseMethodDescriptor y_M_closes.desc).map (fun d => d.parameters.length) = some 2 := by decide +kernel
theorem hd_M_closes : y_M_closes.cls = "HandleDeskModel" ∧ y_M_closes.cls ≠ "java/lang/invoke/MethodHandle" ∧ y_M_closes.cls ≠ "java/lang/invoke/VarHandle" ∧ (parseMethodDescriptor y_M_closes.desc).map (fun d => d.parameters.length) = some 2 := ⟨rfl, hi_M_closes⟩
def y_M_closeAll : MethodName := ⟨"HandleDeskModel", "closeAll", "(I)I"⟩
def ws_M_closeAll : List Cond := .code y_M_closeAll prog_7_method_18_code 4 (some .int) :: wsA
theorem hi_M_closeAll : y_M_closeAll.cls ≠ "java/lang/invoke/MethodHandle" ∧ y_M_closeAll.cls ≠ "java/lang/invoke/VarHandle" ∧ (parseMethodDescriptor y_M_closeAll.desc).map (fun d => d.parameters.length) = some 1 := by decide +kernel
theorem hd_M_closeAll : y_M_closeAll.cls = "HandleDeskModel" ∧ y_M_closeAll.cls ≠ "java/lang/invoke/MethodHandle" ∧ y_M_closeAll.cls ≠ "java/lang/invoke/VarHandle" ∧ (parseMethodDescriptor y_M_closeAll.desc).map (fun d => d.parameters.length) = some 1 := ⟨rfl, hi_M_closeAll⟩
def y_M_left : MethodName := ⟨"HandleDeskModel", "left", "(I)I"⟩
def ws_M_left : List Cond := .code y_M_left prog_7_method_19_code 2 (some .int) :: wsA
theorem hi_M_left : y_M_left.cls ≠ "java/lang/invoke/MethodHandle" ∧ y_M_left.cls ≠ "java/lang/invoke/VarHandle" ∧ (parseMethodDescriptor y_M_left.desc).map (fun d => d.parameters.length) = some 1 := by decide +kernel
theorem hd_M_left : y_M_left.cls = "HandleDeskModel" ∧ y_M_left.cls ≠ "java/lang/invoke/MethodHandle" ∧ y_M_left.cls ≠ "java/lang/invoke/VarHandle" ∧ (parseMethodDescriptor y_M_left.desc).map (fun d => d.parameters.length) = some 1 := ⟨rfl, hi_M_left⟩
def y_M_copy : MethodName := ⟨"HandleDeskModel", "copy", "(II)I"⟩
def ws_M_copy : List Cond := .code y_M_copy prog_7_method_20_code 4 (some .int) :: wsA
theorem hi_M_copy : y_M_copy.cls ≠ "java/lang/invoke/MethodHandle" ∧ y_M_copy.cls ≠ "java/lang/invoke/VarHandle" ∧ (parseMethodDescriptor y_M_copy.desc).map (fun d => d.parameters.length) = some 2 := by decide +kernel
theorem hd_M_copy : y_M_copy.cls = "HandleDeskModel" ∧ y_M_copy.cls ≠ "java/lang/invoke/MethodHandle" ∧ y_M_copy.cls ≠ "java/lang/invoke/VarHandle" ∧ (parseMethodDescriptor y_M_copy.desc).map (fun d => d.parameters.length) = some 2 := ⟨rfl, hi_M_copy⟩
def y_M_about : MethodName := ⟨"HandleDeskModel", "about", "(III)I"⟩
def ws_M_about : List Cond := .code y_M_about prog_7_method_21_code 5 (some .int) :: wsA
theorem hi_M_about : y_M_about.cls ≠ "java/lang/invoke/MethodHandle" ∧ y_M_about.cls ≠ "java/lang/invoke/VarHandle" ∧ (parseMethodDescriptor y_M_about.desc).map (fun d => d.parameters.length) = some 3 := by decide +kernel
theorem hd_M_about : y_M_about.cls = "HandleDeskModel" ∧ y_M_about.cls ≠ "java/lang/invoke/MethodHandle" ∧ y_M_about.cls ≠ "java/lang/invoke/VarHandle" ∧ (parseMethodDescriptor y_M_about.desc).map (fun d => d.parameters.length) = some 3 := ⟨rfl, hi_M_about⟩
def y_M_move : MethodName := ⟨"HandleDeskModel", "move", "(III)Z"⟩
def ws_M_move : List Cond := .code y_M_move prog_7_method_22_code 5 (some .boolean) :: wsA
theorem hi_M_move : y_M_move.cls ≠ "java/lang/invoke/MethodHandle" ∧ y_M_move.cls ≠ "java/lang/invoke/VarHandle" ∧ (parseMethodDescriptor y_M_move.desc).map (fun d => d.parameters.length) = some 3 := by decide +kernel
theorem hd_M_move : y_M_move.cls = "HandleDeskModel" ∧ y_M_move.cls ≠ "java/lang/invoke/MethodHandle" ∧ y_M_move.cls ≠ "java/lang/invoke/VarHandle" ∧ (parseMethodDescriptor y_M_move.desc).map (fun d => d.parameters.length) = some 3 := ⟨rfl, hi_M_move⟩
def y_M_put : MethodName := ⟨"HandleDeskModel", "put", "(III)I"⟩
def ws_M_put : List Cond := .code y_M_put prog_7_method_23_code 6 (some .int) :: wsA
theorem hi_M_put : y_M_put.cls ≠ "java/lang/invoke/MethodHandle" ∧ y_M_put.cls ≠ "java/lang/invoke/VarHandle" ∧ (parseMethodDescriptor y_M_put.desc).map (fun d => d.parameters.length) = some 3 := by decide +kernel
theorem hd_M_put : y_M_put.cls = "HandleDeskModel" ∧ y_M_put.cls ≠ "java/lang/invoke/MethodHandle" ∧ y_M_put.cls ≠ "java/lang/invoke/VarHandle" ∧ (parseMethodDescriptor y_M_put.desc).map (fun d => d.parameters.length) = some 3 := ⟨rfl, hi_M_put⟩
def y_M_take : MethodName := ⟨"HandleDeskModel", "take", "(II)I"⟩
def ws_M_take : List Cond := .code y_M_take prog_7_method_24_code 7 (some .int) :: wsA
theorem hi_M_take : y_M_take.cls ≠ "java/lang/invoke/MethodHandle" ∧ y_M_take.cls ≠ "java/lang/invoke/VarHandle" ∧ (parseMethodDescriptor y_M_take.desc).map (fun d => d.parameters.length) = some 2 := by decide +kernel
theorem hd_M_take : y_M_take.cls = "HandleDeskModel" ∧ y_M_take.cls ≠ "java/lang/invoke/MethodHandle" ∧ y_M_take.cls ≠ "java/lang/invoke/VarHandle" ∧ (parseMethodDescriptor y_M_take.desc).map (fun d => d.parameters.length) = some 2 := ⟨rfl, hi_M_take⟩
def y_M_ends : MethodName := ⟨"HandleDeskModel", "ends", "(II)I"⟩
def ws_M_ends : List Cond := .code y_M_ends prog_7_method_25_code 3 (some .int) :: wsA
theorem hi_M_ends : y_M_ends.cls ≠ "java/lang/invoke/MethodHandle" ∧ y_M_ends.cls ≠ "java/lang/invoke/VarHandle" ∧ (parseMethodDescriptor y_M_ends.desc).map (fun d => d.parameters.length) = some 2 := by decide +kernel
theorem hd_M_ends : y_M_ends.cls = "HandleDeskModel" ∧ y_M_ends.cls ≠ "java/lang/invoke/MethodHandle" ∧ y_M_ends.cls ≠ "java/lang/invoke/VarHandle" ∧ (parseMethodDescriptor y_M_ends.desc).map (fun d => d.parameters.length) = some 2 := ⟨rfl, hi_M_ends⟩
def y_M_type : MethodName := ⟨"HandleDeskModel", "type", "(I)Z"⟩
def ws_M_type : List Cond := .code y_M_type prog_7_method_28_code 3 (some .boolean) :: wsA
theorem hi_M_type : y_M_type.cls ≠ "java/lang/invoke/MethodHandle" ∧ y_M_type.cls ≠ "java/lang/invoke/VarHandle" ∧ (parseMethodDescriptor y_M_type.desc).map (fun d => d.parameters.length) = some 1 := by decide +kernel
theorem hd_M_type : y_M_type.cls = "HandleDeskModel" ∧ y_M_type.cls ≠ "java/lang/invoke/MethodHandle" ∧ y_M_type.cls ≠ "java/lang/invoke/VarHandle" ∧ (parseMethodDescriptor y_M_type.desc).map (fun d => d.parameters.length) = some 1 := ⟨rfl, hi_M_type⟩
def y_M_back : MethodName := ⟨"HandleDeskModel", "back", "()V"⟩
def ws_M_back : List Cond := .code y_M_back prog_7_method_27_code 1 (none : Option Jvm.ClassFile.FieldType) :: wsA
theorem hi_M_back : y_M_back.cls ≠ "java/lang/invoke/MethodHandle" ∧ y_M_back.cls ≠ "java/lang/invoke/VarHandle" ∧ (parseMethodDescriptor y_M_back.desc).map (fun d => d.parameters.length) = some 0 := by decide +kernel
theorem hd_M_back : y_M_back.cls = "HandleDeskModel" ∧ y_M_back.cls ≠ "java/lang/invoke/MethodHandle" ∧ y_M_back.cls ≠ "java/lang/invoke/VarHandle" ∧ (parseMethodDescriptor y_M_back.desc).map (fun d => d.parameters.length) = some 0 := ⟨rfl, hi_M_back⟩
def y_M_puts : MethodName := ⟨"HandleDeskModel", "puts", "(I)V"⟩
def ws_M_puts : List Cond := .code y_M_puts prog_7_method_26_code 2 (none : Option Jvm.ClassFile.FieldType) :: wsA
theorem hi_M_puts : y_M_puts.cls ≠ "java/lang/invoke/MethodHandle" ∧ y_M_puts.cls ≠ "java/lang/invoke/VarHandle" ∧ (parseMethodDescriptor y_M_puts.desc).map (fun d => d.parameters.length) = some 1 := by decide +kernel
theorem hd_M_puts : y_M_puts.cls = "HandleDeskModel" ∧ y_M_puts.cls ≠ "java/lang/invoke/MethodHandle" ∧ y_M_puts.cls ≠ "java/lang/invoke/VarHandle" ∧ (parseMethodDescriptor y_M_puts.desc).map (fun d => d.parameters.length) = some 1 := ⟨rfl, hi_M_puts⟩
def y_M_read : MethodName := ⟨"HandleDeskModel", "read", "(Z)I"⟩
def ws_M_read : List Cond := .code y_M_read prog_7_method_29_code 4 (some .int) :: wsA
theorem hi_M_read : y_M_read.cls ≠ "java/lang/invoke/MethodHandle" ∧ y_M_read.cls ≠ "java/lang/invoke/VarHandle" ∧ (parseMethodDescriptor y_M_read.desc).map (fun d => d.parameters.length) = some 1 := by decide +kernel
theorem hd_M_read : y_M_read.cls = "HandleDeskModel" ∧ y_M_read.cls ≠ "java/lang/invoke/MethodHandle" ∧ y_M_read.cls ≠ "java/lang/invoke/VarHandle" ∧ (parseMethodDescriptor y_M_read.desc).map (fun d => d.parameters.length) = some 1 := ⟨rfl, hi_M_read⟩
def y_M_waiting : MethodName := ⟨"HandleDeskModel", "waiting", "(I)I"⟩
def ws_M_waiting : List Cond := .code y_M_waiting prog_7_method_30_code 2 (some .int) :: wsA
theorem hi_M_waiting : y_M_waiting.cls ≠ "java/lang/invoke/MethodHandle" ∧ y_M_waiting.cls ≠ "java/lang/invoke/VarHandle" ∧ (parseMethodDescriptor y_M_waiting.desc).map (fun d => d.parameters.length) = some 1 := by decide +kernel
theorem hd_M_waiting : y_M_waiting.cls = "HandleDeskModel" ∧ y_M_waiting.cls ≠ "java/lang/invoke/MethodHandle" ∧ y_M_waiting.cls ≠ "java/lang/invoke/VarHandle" ∧ (parseMethodDescriptor y_M_waiting.desc).map (fun d => d.parameters.length) = some 1 := ⟨rfl, hi_M_waiting⟩
def y_M_show : MethodName := ⟨"HandleDeskModel", "show", "(I)V"⟩
def ws_M_show : List Cond := .code y_M_show prog_7_method_31_code 2 (none : Option Jvm.ClassFile.FieldType) :: wsA
theorem hi_M_show : y_M_show.cls ≠ "java/lang/invoke/MethodHandle" ∧ y_M_show.cls ≠ "java/lang/invoke/VarHandle" ∧ (parseMethodDescriptor y_M_show.desc).map (fun d => d.parameters.length) = some 1 := by decide +kernel
theorem hd_M_show : y_M_show.cls = "HandleDeskModel" ∧ y_M_show.cls ≠ "java/lang/invoke/MethodHandle" ∧ y_M_show.cls ≠ "java/lang/invoke/VarHandle" ∧ (parseMethodDescriptor y_M_show.desc).map (fun d => d.parameters.length) = some 1 := ⟨rfl, hi_M_show⟩
def y_M_shown : MethodName := ⟨"HandleDeskModel", "shown", "(I)I"⟩
def ws_M_shown : List Cond := .code y_M_shown prog_7_method_32_code 2 (some .int) :: wsA
theorem hi_M_shown : y_M_shown.cls ≠ "java/lang/invoke/MethodHandle" ∧ y_M_shown.cls ≠ "java/lang/invoke/VarHandle" ∧ (parseMethodDescriptor y_M_shown.desc).map (fun d => d.parameters.length) = some 1 := by decide +kernel
theorem hd_M_shown : y_M_shown.cls = "HandleDeskModel" ∧ y_M_shown.cls ≠ "java/lang/invoke/MethodHandle" ∧ y_M_shown.cls ≠ "java/lang/invoke/VarHandle" ∧ (parseMethodDescriptor y_M_shown.desc).map (fun d => d.parameters.length) = some 1 := ⟨rfl, hi_M_shown⟩
def y_M_count : MethodName := ⟨"HandleDeskModel", "count", "()I"⟩
def ws_M_count : List Cond := .code y_M_count prog_7_method_33_code 1 (some .int) :: wsA
theorem hi_M_count : y_M_count.cls ≠ "java/lang/invoke/MethodHandle" ∧ y_M_count.cls ≠ "java/lang/invoke/VarHandle" ∧ (parseMethodDescriptor y_M_count.desc).map (fun d => d.parameters.length) = some 0 := by decide +kernel
theorem hd_M_count : y_M_count.cls = "HandleDeskModel" ∧ y_M_count.cls ≠ "java/lang/invoke/MethodHandle" ∧ y_M_count.cls ≠ "java/lang/invoke/VarHandle" ∧ (parseMethodDescriptor y_M_count.desc).map (fun d => d.parameters.length) = some 0 := ⟨rfl, hi_M_count⟩
